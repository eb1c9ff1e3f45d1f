/-! ===== the law: its own words (the skeleton's), and its instructions ===== -/
/-! THE CLAIM OUT OF ONE WALK OF THE LAW'S BODY. Your part is whole_start (and what it stands on); all else here is the same for every law, but numbers. -/
def R_law : String := "StaticKernelLaw"
def lw_P (b : Addr) (xs : List Int32) (args : Array Value) (s : State) : Prop := args = #[.ref b] ∧ s.IntsAt b xs ∧ xs.length ≤ 3072 ∧ (Jvm.Cond.and given_1 narrow_1).before args s = true
def lw_Q (_ : Array Value) (s : State) (o : Outcome) (t : State) : Prop := o = .returned (some (.int 1)) ∧ Framed s o t [] 601024 7293034
def lw_Z (below : List Frame) (a : Array Value) (s : State) : State → Prop := fun t => ∃ o, t.status = .running ∧ Ended t below o ∧ lw_Q a s o t
/-- the law's own end, with 1 on the stack, nothing written that was there before, its room as the claim has it -/
theorem lw_ret {p : Program} {l : Launch} {e : Env} {s : State} {m : MethodId} {below : List Frame} {meth : Method} {c : Code} {b : Nat} (hx : p.tables.exec = Jvm.exec) (hb : c.code = code) (hr : meth.sig.returnType = ret) (hlocks : meth.locks = false) {pc : Nat} {H : Heap} {ls : Array Slot} (hdg : decode code pc = .ok (.ireturn, 1)) : W p l e room_1 s m #[Value.ref b] below meth c H [] 601024 7293034 (lw_Z below #[Value.ref b] s) (F0 m pc ls [.int 1]) := by
  intro T hT X
  obtain ⟨fs, hret, hrun, hended, hW, hframe⟩ := X.leave (v := some (.int 1)) (hlocks := hlocks) (fun h => by rw [hr] at h; cases h)
  have hmeth' : T.vm.method? m = some meth := X.method'
  refine ⟨T.setFrames fs, ?_, .returned (some (.int 1)), hrun, hended, rfl, ⟨_, rfl⟩, hW, hframe⟩
  jvm_step X.here [X.here.top, hx, hb, hdg, hmeth', hr, ret, narrow_b1]
  (try refine ⟨rfl, ?_⟩); (try refine ⟨rfl, ?_⟩)
  first | (intro acts; rw [hret _ acts rfl rfl rfl]) | rw [hret _ _ rfl rfl rfl]
  exact Steps.refl _
/-- what holds at the law's entry: the machine, the code, the tables' words (any of lw_tbl by 'hts w (by decide +kernel)'), the script of L ints xs at the cell b, what the Statement gives of the start (any of its parts by flat_of_before) -/
def lw_At (p : Program) (s : State) (m : MethodId) (meth : Method) (c : Code) (b L : Nat) (xs : Nat → Int32) : Prop :=
  p.tables.exec = Jvm.exec ∧ c.code = code ∧ meth.sig.returnType = ret ∧ c.maxLocals = 8 ∧ s.vm.findClass R_law = some m.cls ∧ (∀ w ∈ lw_tbl, w.before #[Value.ref b] s = true) ∧ va_X b L xs s s.heap ∧ b < s.heap.size ∧ meth.locks = false ∧ (Jvm.Cond.and given_1 narrow_1).before #[Value.ref b] s = true
theorem d_L_0 : decode code 0 = .ok (.new 8, 3) := by decide +kernel
theorem d_L_3 : decode code 3 = .ok (.dup, 1) := by decide +kernel
theorem d_L_4 : decode code 4 = .ok (.invokespecial 39, 3) := by decide +kernel
theorem d_L_7 : decode code 7 = .ok (.astore_n 1, 1) := by decide +kernel
theorem d_L_8 : decode code 8 = .ok (.new 40, 3) := by decide +kernel
theorem d_L_11 : decode code 11 = .ok (.dup, 1) := by decide +kernel
theorem d_L_12 : decode code 12 = .ok (.invokespecial 42, 3) := by decide +kernel
theorem d_L_15 : decode code 15 = .ok (.astore_n 2, 1) := by decide +kernel
theorem d_L_16 : decode code 16 = .ok (.iconst 1, 1) := by decide +kernel
theorem d_L_17 : decode code 17 = .ok (.newarray .long, 2) := by decide +kernel
theorem d_L_19 : decode code 19 = .ok (.astore_n 3, 1) := by decide +kernel
theorem d_L_20 : decode code 20 = .ok (.iconst 0, 1) := by decide +kernel
theorem d_L_21 : decode code 21 = .ok (.istore 4, 2) := by decide +kernel
theorem d_L_23 : decode code 23 = .ok (.iload 4, 2) := by decide +kernel
theorem d_L_25 : decode code 25 = .ok (.aload_n 0, 1) := by decide +kernel
theorem d_L_26 : decode code 26 = .ok (.arraylength, 1) := by decide +kernel
theorem d_L_27 : decode code 27 = .ok (.bipush 6, 2) := by decide +kernel
theorem d_L_29 : decode code 29 = .ok (.isub, 1) := by decide +kernel
theorem d_L_30 : decode code 30 = .ok (.if_icmp .gt 1496, 3) := by decide +kernel
theorem d_L_33 : decode code 33 = .ok (.aload_n 0, 1) := by decide +kernel
theorem d_L_34 : decode code 34 = .ok (.iload 4, 2) := by decide +kernel
theorem d_L_36 : decode code 36 = .ok (.iaload, 1) := by decide +kernel
theorem d_L_37 : decode code 37 = .ok (.bipush 63, 2) := by decide +kernel
theorem d_L_39 : decode code 39 = .ok (.iand, 1) := by decide +kernel
theorem d_L_40 : decode code 40 = .ok (.tableswitch 1480 0 36 #[164, 237, 262, 287, 312, 391, 416, 441, 454, 479, 492, 517, 542, 579, 604, 629, 655, 704, 753, 778, 803, 816, 829, 842, 867, 904, 929, 942, 955, 1023, 1090, 1158, 1226, 1294, 1362, 1399, 1455], 164) := by decide +kernel
theorem d_L_204 : decode code 204 = .ok (.aload_n 1, 1) := by decide +kernel
theorem d_L_205 : decode code 205 = .ok (.aload_n 0, 1) := by decide +kernel
theorem d_L_206 : decode code 206 = .ok (.iload 4, 2) := by decide +kernel
theorem d_L_208 : decode code 208 = .ok (.iconst 1, 1) := by decide +kernel
theorem d_L_209 : decode code 209 = .ok (.iadd, 1) := by decide +kernel
theorem d_L_210 : decode code 210 = .ok (.iaload, 1) := by decide +kernel
theorem d_L_211 : decode code 211 = .ok (.aload_n 0, 1) := by decide +kernel
theorem d_L_212 : decode code 212 = .ok (.iload 4, 2) := by decide +kernel
theorem d_L_214 : decode code 214 = .ok (.iconst 2, 1) := by decide +kernel
theorem d_L_215 : decode code 215 = .ok (.iadd, 1) := by decide +kernel
theorem d_L_216 : decode code 216 = .ok (.iaload, 1) := by decide +kernel
theorem d_L_217 : decode code 217 = .ok (.aload_n 0, 1) := by decide +kernel
theorem d_L_218 : decode code 218 = .ok (.iload 4, 2) := by decide +kernel
theorem d_L_220 : decode code 220 = .ok (.iconst 3, 1) := by decide +kernel
theorem d_L_221 : decode code 221 = .ok (.iadd, 1) := by decide +kernel
theorem d_L_222 : decode code 222 = .ok (.iaload, 1) := by decide +kernel
theorem d_L_223 : decode code 223 = .ok (.aload_n 0, 1) := by decide +kernel
theorem d_L_224 : decode code 224 = .ok (.iload 4, 2) := by decide +kernel
theorem d_L_226 : decode code 226 = .ok (.iconst 4, 1) := by decide +kernel
theorem d_L_227 : decode code 227 = .ok (.iadd, 1) := by decide +kernel
theorem d_L_228 : decode code 228 = .ok (.iaload, 1) := by decide +kernel
theorem d_L_229 : decode code 229 = .ok (.aload_n 0, 1) := by decide +kernel
theorem d_L_230 : decode code 230 = .ok (.iload 4, 2) := by decide +kernel
theorem d_L_232 : decode code 232 = .ok (.iconst 5, 1) := by decide +kernel
theorem d_L_233 : decode code 233 = .ok (.iadd, 1) := by decide +kernel
theorem d_L_234 : decode code 234 = .ok (.iaload, 1) := by decide +kernel
theorem d_L_235 : decode code 235 = .ok (.invokevirtual 43, 3) := by decide +kernel
theorem d_L_238 : decode code 238 = .ok (.aload_n 2, 1) := by decide +kernel
theorem d_L_239 : decode code 239 = .ok (.aload_n 0, 1) := by decide +kernel
theorem d_L_240 : decode code 240 = .ok (.iload 4, 2) := by decide +kernel
theorem d_L_242 : decode code 242 = .ok (.iconst 1, 1) := by decide +kernel
theorem d_L_243 : decode code 243 = .ok (.iadd, 1) := by decide +kernel
theorem d_L_244 : decode code 244 = .ok (.iaload, 1) := by decide +kernel
theorem d_L_245 : decode code 245 = .ok (.aload_n 0, 1) := by decide +kernel
theorem d_L_246 : decode code 246 = .ok (.iload 4, 2) := by decide +kernel
theorem d_L_248 : decode code 248 = .ok (.iconst 2, 1) := by decide +kernel
theorem d_L_249 : decode code 249 = .ok (.iadd, 1) := by decide +kernel
theorem d_L_250 : decode code 250 = .ok (.iaload, 1) := by decide +kernel
theorem d_L_251 : decode code 251 = .ok (.aload_n 0, 1) := by decide +kernel
theorem d_L_252 : decode code 252 = .ok (.iload 4, 2) := by decide +kernel
theorem d_L_254 : decode code 254 = .ok (.iconst 3, 1) := by decide +kernel
theorem d_L_255 : decode code 255 = .ok (.iadd, 1) := by decide +kernel
theorem d_L_256 : decode code 256 = .ok (.iaload, 1) := by decide +kernel
theorem d_L_257 : decode code 257 = .ok (.aload_n 0, 1) := by decide +kernel
theorem d_L_258 : decode code 258 = .ok (.iload 4, 2) := by decide +kernel
theorem d_L_260 : decode code 260 = .ok (.iconst 4, 1) := by decide +kernel
theorem d_L_261 : decode code 261 = .ok (.iadd, 1) := by decide +kernel
theorem d_L_262 : decode code 262 = .ok (.iaload, 1) := by decide +kernel
theorem d_L_263 : decode code 263 = .ok (.aload_n 0, 1) := by decide +kernel
theorem d_L_264 : decode code 264 = .ok (.iload 4, 2) := by decide +kernel
theorem d_L_266 : decode code 266 = .ok (.iconst 5, 1) := by decide +kernel
theorem d_L_267 : decode code 267 = .ok (.iadd, 1) := by decide +kernel
theorem d_L_268 : decode code 268 = .ok (.iaload, 1) := by decide +kernel
theorem d_L_269 : decode code 269 = .ok (.invokevirtual 47, 3) := by decide +kernel
theorem d_L_272 : decode code 272 = .ok (.if_icmp .eq 1248, 3) := by decide +kernel
theorem d_L_275 : decode code 275 = .ok (.iconst 0, 1) := by decide +kernel
theorem d_L_276 : decode code 276 = .ok (.ireturn, 1) := by decide +kernel
theorem d_L_277 : decode code 277 = .ok (.aload_n 1, 1) := by decide +kernel
theorem d_L_278 : decode code 278 = .ok (.aload_n 0, 1) := by decide +kernel
theorem d_L_279 : decode code 279 = .ok (.iload 4, 2) := by decide +kernel
theorem d_L_281 : decode code 281 = .ok (.iconst 1, 1) := by decide +kernel
theorem d_L_282 : decode code 282 = .ok (.iadd, 1) := by decide +kernel
theorem d_L_283 : decode code 283 = .ok (.iaload, 1) := by decide +kernel
theorem d_L_284 : decode code 284 = .ok (.invokevirtual 48, 3) := by decide +kernel
theorem d_L_287 : decode code 287 = .ok (.aload_n 2, 1) := by decide +kernel
theorem d_L_288 : decode code 288 = .ok (.aload_n 0, 1) := by decide +kernel
theorem d_L_289 : decode code 289 = .ok (.iload 4, 2) := by decide +kernel
theorem d_L_291 : decode code 291 = .ok (.iconst 1, 1) := by decide +kernel
theorem d_L_292 : decode code 292 = .ok (.iadd, 1) := by decide +kernel
theorem d_L_293 : decode code 293 = .ok (.iaload, 1) := by decide +kernel
theorem d_L_294 : decode code 294 = .ok (.invokevirtual 51, 3) := by decide +kernel
theorem d_L_297 : decode code 297 = .ok (.if_icmp .eq 1223, 3) := by decide +kernel
theorem d_L_300 : decode code 300 = .ok (.iconst 0, 1) := by decide +kernel
theorem d_L_301 : decode code 301 = .ok (.ireturn, 1) := by decide +kernel
theorem d_L_302 : decode code 302 = .ok (.aload_n 1, 1) := by decide +kernel
theorem d_L_303 : decode code 303 = .ok (.aload_n 0, 1) := by decide +kernel
theorem d_L_304 : decode code 304 = .ok (.iload 4, 2) := by decide +kernel
theorem d_L_306 : decode code 306 = .ok (.iconst 1, 1) := by decide +kernel
theorem d_L_307 : decode code 307 = .ok (.iadd, 1) := by decide +kernel
theorem d_L_308 : decode code 308 = .ok (.iaload, 1) := by decide +kernel
theorem d_L_309 : decode code 309 = .ok (.invokevirtual 52, 3) := by decide +kernel
theorem d_L_312 : decode code 312 = .ok (.aload_n 2, 1) := by decide +kernel
theorem d_L_313 : decode code 313 = .ok (.aload_n 0, 1) := by decide +kernel
theorem d_L_314 : decode code 314 = .ok (.iload 4, 2) := by decide +kernel
theorem d_L_316 : decode code 316 = .ok (.iconst 1, 1) := by decide +kernel
theorem d_L_317 : decode code 317 = .ok (.iadd, 1) := by decide +kernel
theorem d_L_318 : decode code 318 = .ok (.iaload, 1) := by decide +kernel
theorem d_L_319 : decode code 319 = .ok (.invokevirtual 55, 3) := by decide +kernel
theorem d_L_322 : decode code 322 = .ok (.if_icmp .eq 1198, 3) := by decide +kernel
theorem d_L_325 : decode code 325 = .ok (.iconst 0, 1) := by decide +kernel
theorem d_L_326 : decode code 326 = .ok (.ireturn, 1) := by decide +kernel
theorem d_L_327 : decode code 327 = .ok (.aload_n 1, 1) := by decide +kernel
theorem d_L_328 : decode code 328 = .ok (.aload_n 0, 1) := by decide +kernel
theorem d_L_329 : decode code 329 = .ok (.iload 4, 2) := by decide +kernel
theorem d_L_331 : decode code 331 = .ok (.iconst 1, 1) := by decide +kernel
theorem d_L_332 : decode code 332 = .ok (.iadd, 1) := by decide +kernel
theorem d_L_333 : decode code 333 = .ok (.iaload, 1) := by decide +kernel
theorem d_L_334 : decode code 334 = .ok (.invokevirtual 56, 3) := by decide +kernel
theorem d_L_337 : decode code 337 = .ok (.aload_n 2, 1) := by decide +kernel
theorem d_L_338 : decode code 338 = .ok (.aload_n 0, 1) := by decide +kernel
theorem d_L_339 : decode code 339 = .ok (.iload 4, 2) := by decide +kernel
theorem d_L_341 : decode code 341 = .ok (.iconst 1, 1) := by decide +kernel
theorem d_L_342 : decode code 342 = .ok (.iadd, 1) := by decide +kernel
theorem d_L_343 : decode code 343 = .ok (.iaload, 1) := by decide +kernel
theorem d_L_344 : decode code 344 = .ok (.invokevirtual 59, 3) := by decide +kernel
theorem d_L_347 : decode code 347 = .ok (.if_icmp .eq 1173, 3) := by decide +kernel
theorem d_L_350 : decode code 350 = .ok (.iconst 0, 1) := by decide +kernel
theorem d_L_351 : decode code 351 = .ok (.ireturn, 1) := by decide +kernel
theorem d_L_352 : decode code 352 = .ok (.aload_n 1, 1) := by decide +kernel
theorem d_L_353 : decode code 353 = .ok (.aload_n 0, 1) := by decide +kernel
theorem d_L_354 : decode code 354 = .ok (.iload 4, 2) := by decide +kernel
theorem d_L_356 : decode code 356 = .ok (.iconst 1, 1) := by decide +kernel
theorem d_L_357 : decode code 357 = .ok (.iadd, 1) := by decide +kernel
theorem d_L_358 : decode code 358 = .ok (.iaload, 1) := by decide +kernel
theorem d_L_359 : decode code 359 = .ok (.aload_n 0, 1) := by decide +kernel
theorem d_L_360 : decode code 360 = .ok (.iload 4, 2) := by decide +kernel
theorem d_L_362 : decode code 362 = .ok (.iconst 2, 1) := by decide +kernel
theorem d_L_363 : decode code 363 = .ok (.iadd, 1) := by decide +kernel
theorem d_L_364 : decode code 364 = .ok (.iaload, 1) := by decide +kernel
theorem d_L_365 : decode code 365 = .ok (.aload_n 0, 1) := by decide +kernel
theorem d_L_366 : decode code 366 = .ok (.iload 4, 2) := by decide +kernel
theorem d_L_368 : decode code 368 = .ok (.iconst 3, 1) := by decide +kernel
theorem d_L_369 : decode code 369 = .ok (.iadd, 1) := by decide +kernel
theorem d_L_370 : decode code 370 = .ok (.iaload, 1) := by decide +kernel
theorem d_L_371 : decode code 371 = .ok (.aload_n 3, 1) := by decide +kernel
theorem d_L_372 : decode code 372 = .ok (.invokestatic 60, 3) := by decide +kernel
theorem d_L_375 : decode code 375 = .ok (.istore 5, 2) := by decide +kernel
theorem d_L_377 : decode code 377 = .ok (.aload_n 2, 1) := by decide +kernel
theorem d_L_378 : decode code 378 = .ok (.aload_n 0, 1) := by decide +kernel
theorem d_L_379 : decode code 379 = .ok (.iload 4, 2) := by decide +kernel
theorem d_L_381 : decode code 381 = .ok (.iconst 1, 1) := by decide +kernel
theorem d_L_382 : decode code 382 = .ok (.iadd, 1) := by decide +kernel
theorem d_L_383 : decode code 383 = .ok (.iaload, 1) := by decide +kernel
theorem d_L_384 : decode code 384 = .ok (.aload_n 0, 1) := by decide +kernel
theorem d_L_385 : decode code 385 = .ok (.iload 4, 2) := by decide +kernel
theorem d_L_387 : decode code 387 = .ok (.iconst 2, 1) := by decide +kernel
theorem d_L_388 : decode code 388 = .ok (.iadd, 1) := by decide +kernel
theorem d_L_389 : decode code 389 = .ok (.iaload, 1) := by decide +kernel
theorem d_L_390 : decode code 390 = .ok (.aload_n 0, 1) := by decide +kernel
theorem d_L_391 : decode code 391 = .ok (.iload 4, 2) := by decide +kernel
theorem d_L_393 : decode code 393 = .ok (.iconst 3, 1) := by decide +kernel
theorem d_L_394 : decode code 394 = .ok (.iadd, 1) := by decide +kernel
theorem d_L_395 : decode code 395 = .ok (.iaload, 1) := by decide +kernel
theorem d_L_396 : decode code 396 = .ok (.invokevirtual 65, 3) := by decide +kernel
theorem d_L_399 : decode code 399 = .ok (.lstore 6, 2) := by decide +kernel
theorem d_L_401 : decode code 401 = .ok (.aload_n 2, 1) := by decide +kernel
theorem d_L_402 : decode code 402 = .ok (.invokevirtual 66, 3) := by decide +kernel
theorem d_L_405 : decode code 405 = .ok (.iload 5, 2) := by decide +kernel
theorem d_L_407 : decode code 407 = .ok (.if_icmp .eq 5, 3) := by decide +kernel
theorem d_L_410 : decode code 410 = .ok (.iconst 0, 1) := by decide +kernel
theorem d_L_411 : decode code 411 = .ok (.ireturn, 1) := by decide +kernel
theorem d_L_412 : decode code 412 = .ok (.iload 5, 2) := by decide +kernel
theorem d_L_414 : decode code 414 = .ok (.ifCond .ne 14, 3) := by decide +kernel
theorem d_L_417 : decode code 417 = .ok (.aload_n 3, 1) := by decide +kernel
theorem d_L_418 : decode code 418 = .ok (.iconst 0, 1) := by decide +kernel
theorem d_L_419 : decode code 419 = .ok (.laload, 1) := by decide +kernel
theorem d_L_420 : decode code 420 = .ok (.lload 6, 2) := by decide +kernel
theorem d_L_422 : decode code 422 = .ok (.lcmp, 1) := by decide +kernel
theorem d_L_423 : decode code 423 = .ok (.ifCond .eq 5, 3) := by decide +kernel
theorem d_L_426 : decode code 426 = .ok (.iconst 0, 1) := by decide +kernel
theorem d_L_427 : decode code 427 = .ok (.ireturn, 1) := by decide +kernel
theorem d_L_428 : decode code 428 = .ok (.goto 1092, 3) := by decide +kernel
theorem d_L_431 : decode code 431 = .ok (.aload_n 1, 1) := by decide +kernel
theorem d_L_432 : decode code 432 = .ok (.aload_n 0, 1) := by decide +kernel
theorem d_L_433 : decode code 433 = .ok (.iload 4, 2) := by decide +kernel
theorem d_L_435 : decode code 435 = .ok (.iconst 1, 1) := by decide +kernel
theorem d_L_436 : decode code 436 = .ok (.iadd, 1) := by decide +kernel
theorem d_L_437 : decode code 437 = .ok (.iaload, 1) := by decide +kernel
theorem d_L_438 : decode code 438 = .ok (.invokevirtual 70, 3) := by decide +kernel
theorem d_L_441 : decode code 441 = .ok (.aload_n 2, 1) := by decide +kernel
theorem d_L_442 : decode code 442 = .ok (.aload_n 0, 1) := by decide +kernel
theorem d_L_443 : decode code 443 = .ok (.iload 4, 2) := by decide +kernel
theorem d_L_445 : decode code 445 = .ok (.iconst 1, 1) := by decide +kernel
theorem d_L_446 : decode code 446 = .ok (.iadd, 1) := by decide +kernel
theorem d_L_447 : decode code 447 = .ok (.iaload, 1) := by decide +kernel
theorem d_L_448 : decode code 448 = .ok (.invokevirtual 73, 3) := by decide +kernel
theorem d_L_451 : decode code 451 = .ok (.if_icmp .eq 1069, 3) := by decide +kernel
theorem d_L_454 : decode code 454 = .ok (.iconst 0, 1) := by decide +kernel
theorem d_L_455 : decode code 455 = .ok (.ireturn, 1) := by decide +kernel
theorem d_L_456 : decode code 456 = .ok (.aload_n 1, 1) := by decide +kernel
theorem d_L_457 : decode code 457 = .ok (.aload_n 0, 1) := by decide +kernel
theorem d_L_458 : decode code 458 = .ok (.iload 4, 2) := by decide +kernel
theorem d_L_460 : decode code 460 = .ok (.iconst 1, 1) := by decide +kernel
theorem d_L_461 : decode code 461 = .ok (.iadd, 1) := by decide +kernel
theorem d_L_462 : decode code 462 = .ok (.iaload, 1) := by decide +kernel
theorem d_L_463 : decode code 463 = .ok (.invokevirtual 74, 3) := by decide +kernel
theorem d_L_466 : decode code 466 = .ok (.aload_n 2, 1) := by decide +kernel
theorem d_L_467 : decode code 467 = .ok (.aload_n 0, 1) := by decide +kernel
theorem d_L_468 : decode code 468 = .ok (.iload 4, 2) := by decide +kernel
theorem d_L_470 : decode code 470 = .ok (.iconst 1, 1) := by decide +kernel
theorem d_L_471 : decode code 471 = .ok (.iadd, 1) := by decide +kernel
theorem d_L_472 : decode code 472 = .ok (.iaload, 1) := by decide +kernel
theorem d_L_473 : decode code 473 = .ok (.invokevirtual 77, 3) := by decide +kernel
theorem d_L_476 : decode code 476 = .ok (.if_icmp .eq 1044, 3) := by decide +kernel
theorem d_L_479 : decode code 479 = .ok (.iconst 0, 1) := by decide +kernel
theorem d_L_480 : decode code 480 = .ok (.ireturn, 1) := by decide +kernel
theorem d_L_481 : decode code 481 = .ok (.aload_n 1, 1) := by decide +kernel
theorem d_L_482 : decode code 482 = .ok (.invokevirtual 78, 3) := by decide +kernel
theorem d_L_485 : decode code 485 = .ok (.aload_n 2, 1) := by decide +kernel
theorem d_L_486 : decode code 486 = .ok (.invokevirtual 81, 3) := by decide +kernel
theorem d_L_489 : decode code 489 = .ok (.if_icmp .eq 1031, 3) := by decide +kernel
theorem d_L_492 : decode code 492 = .ok (.iconst 0, 1) := by decide +kernel
theorem d_L_493 : decode code 493 = .ok (.ireturn, 1) := by decide +kernel
theorem d_L_494 : decode code 494 = .ok (.aload_n 1, 1) := by decide +kernel
theorem d_L_495 : decode code 495 = .ok (.aload_n 0, 1) := by decide +kernel
theorem d_L_496 : decode code 496 = .ok (.iload 4, 2) := by decide +kernel
theorem d_L_498 : decode code 498 = .ok (.iconst 1, 1) := by decide +kernel
theorem d_L_499 : decode code 499 = .ok (.iadd, 1) := by decide +kernel
theorem d_L_500 : decode code 500 = .ok (.iaload, 1) := by decide +kernel
theorem d_L_501 : decode code 501 = .ok (.invokevirtual 82, 3) := by decide +kernel
theorem d_L_504 : decode code 504 = .ok (.aload_n 2, 1) := by decide +kernel
theorem d_L_505 : decode code 505 = .ok (.aload_n 0, 1) := by decide +kernel
theorem d_L_506 : decode code 506 = .ok (.iload 4, 2) := by decide +kernel
theorem d_L_508 : decode code 508 = .ok (.iconst 1, 1) := by decide +kernel
theorem d_L_509 : decode code 509 = .ok (.iadd, 1) := by decide +kernel
theorem d_L_510 : decode code 510 = .ok (.iaload, 1) := by decide +kernel
theorem d_L_511 : decode code 511 = .ok (.invokevirtual 85, 3) := by decide +kernel
theorem d_L_514 : decode code 514 = .ok (.if_icmp .eq 1006, 3) := by decide +kernel
theorem d_L_517 : decode code 517 = .ok (.iconst 0, 1) := by decide +kernel
theorem d_L_518 : decode code 518 = .ok (.ireturn, 1) := by decide +kernel
theorem d_L_519 : decode code 519 = .ok (.aload_n 1, 1) := by decide +kernel
theorem d_L_520 : decode code 520 = .ok (.invokevirtual 86, 3) := by decide +kernel
theorem d_L_523 : decode code 523 = .ok (.aload_n 2, 1) := by decide +kernel
theorem d_L_524 : decode code 524 = .ok (.invokevirtual 89, 3) := by decide +kernel
theorem d_L_527 : decode code 527 = .ok (.if_icmp .eq 993, 3) := by decide +kernel
theorem d_L_530 : decode code 530 = .ok (.iconst 0, 1) := by decide +kernel
theorem d_L_531 : decode code 531 = .ok (.ireturn, 1) := by decide +kernel
theorem d_L_532 : decode code 532 = .ok (.aload_n 1, 1) := by decide +kernel
theorem d_L_533 : decode code 533 = .ok (.aload_n 0, 1) := by decide +kernel
theorem d_L_534 : decode code 534 = .ok (.iload 4, 2) := by decide +kernel
theorem d_L_536 : decode code 536 = .ok (.iconst 1, 1) := by decide +kernel
theorem d_L_537 : decode code 537 = .ok (.iadd, 1) := by decide +kernel
theorem d_L_538 : decode code 538 = .ok (.iaload, 1) := by decide +kernel
theorem d_L_539 : decode code 539 = .ok (.invokevirtual 90, 3) := by decide +kernel
theorem d_L_542 : decode code 542 = .ok (.aload_n 2, 1) := by decide +kernel
theorem d_L_543 : decode code 543 = .ok (.aload_n 0, 1) := by decide +kernel
theorem d_L_544 : decode code 544 = .ok (.iload 4, 2) := by decide +kernel
theorem d_L_546 : decode code 546 = .ok (.iconst 1, 1) := by decide +kernel
theorem d_L_547 : decode code 547 = .ok (.iadd, 1) := by decide +kernel
theorem d_L_548 : decode code 548 = .ok (.iaload, 1) := by decide +kernel
theorem d_L_549 : decode code 549 = .ok (.invokevirtual 93, 3) := by decide +kernel
theorem d_L_552 : decode code 552 = .ok (.if_icmp .eq 968, 3) := by decide +kernel
theorem d_L_555 : decode code 555 = .ok (.iconst 0, 1) := by decide +kernel
theorem d_L_556 : decode code 556 = .ok (.ireturn, 1) := by decide +kernel
theorem d_L_557 : decode code 557 = .ok (.aload_n 1, 1) := by decide +kernel
theorem d_L_558 : decode code 558 = .ok (.aload_n 0, 1) := by decide +kernel
theorem d_L_559 : decode code 559 = .ok (.iload 4, 2) := by decide +kernel
theorem d_L_561 : decode code 561 = .ok (.iconst 1, 1) := by decide +kernel
theorem d_L_562 : decode code 562 = .ok (.iadd, 1) := by decide +kernel
theorem d_L_563 : decode code 563 = .ok (.iaload, 1) := by decide +kernel
theorem d_L_564 : decode code 564 = .ok (.invokevirtual 94, 3) := by decide +kernel
theorem d_L_567 : decode code 567 = .ok (.aload_n 2, 1) := by decide +kernel
theorem d_L_568 : decode code 568 = .ok (.aload_n 0, 1) := by decide +kernel
theorem d_L_569 : decode code 569 = .ok (.iload 4, 2) := by decide +kernel
theorem d_L_571 : decode code 571 = .ok (.iconst 1, 1) := by decide +kernel
theorem d_L_572 : decode code 572 = .ok (.iadd, 1) := by decide +kernel
theorem d_L_573 : decode code 573 = .ok (.iaload, 1) := by decide +kernel
theorem d_L_574 : decode code 574 = .ok (.invokevirtual 97, 3) := by decide +kernel
theorem d_L_577 : decode code 577 = .ok (.if_icmp .eq 943, 3) := by decide +kernel
theorem d_L_580 : decode code 580 = .ok (.iconst 0, 1) := by decide +kernel
theorem d_L_581 : decode code 581 = .ok (.ireturn, 1) := by decide +kernel
theorem d_L_582 : decode code 582 = .ok (.aload_n 1, 1) := by decide +kernel
theorem d_L_583 : decode code 583 = .ok (.aload_n 0, 1) := by decide +kernel
theorem d_L_584 : decode code 584 = .ok (.iload 4, 2) := by decide +kernel
theorem d_L_586 : decode code 586 = .ok (.iconst 1, 1) := by decide +kernel
theorem d_L_587 : decode code 587 = .ok (.iadd, 1) := by decide +kernel
theorem d_L_588 : decode code 588 = .ok (.iaload, 1) := by decide +kernel
theorem d_L_589 : decode code 589 = .ok (.aload_n 0, 1) := by decide +kernel
theorem d_L_590 : decode code 590 = .ok (.iload 4, 2) := by decide +kernel
theorem d_L_592 : decode code 592 = .ok (.iconst 2, 1) := by decide +kernel
theorem d_L_593 : decode code 593 = .ok (.iadd, 1) := by decide +kernel
theorem d_L_594 : decode code 594 = .ok (.iaload, 1) := by decide +kernel
theorem d_L_595 : decode code 595 = .ok (.invokevirtual 98, 3) := by decide +kernel
theorem d_L_598 : decode code 598 = .ok (.aload_n 2, 1) := by decide +kernel
theorem d_L_599 : decode code 599 = .ok (.aload_n 0, 1) := by decide +kernel
theorem d_L_600 : decode code 600 = .ok (.iload 4, 2) := by decide +kernel
theorem d_L_602 : decode code 602 = .ok (.iconst 1, 1) := by decide +kernel
theorem d_L_603 : decode code 603 = .ok (.iadd, 1) := by decide +kernel
theorem d_L_604 : decode code 604 = .ok (.iaload, 1) := by decide +kernel
theorem d_L_605 : decode code 605 = .ok (.aload_n 0, 1) := by decide +kernel
theorem d_L_606 : decode code 606 = .ok (.iload 4, 2) := by decide +kernel
theorem d_L_608 : decode code 608 = .ok (.iconst 2, 1) := by decide +kernel
theorem d_L_609 : decode code 609 = .ok (.iadd, 1) := by decide +kernel
theorem d_L_610 : decode code 610 = .ok (.iaload, 1) := by decide +kernel
theorem d_L_611 : decode code 611 = .ok (.invokevirtual 101, 3) := by decide +kernel
theorem d_L_614 : decode code 614 = .ok (.if_icmp .eq 906, 3) := by decide +kernel
theorem d_L_617 : decode code 617 = .ok (.iconst 0, 1) := by decide +kernel
theorem d_L_618 : decode code 618 = .ok (.ireturn, 1) := by decide +kernel
theorem d_L_619 : decode code 619 = .ok (.aload_n 1, 1) := by decide +kernel
theorem d_L_620 : decode code 620 = .ok (.aload_n 0, 1) := by decide +kernel
theorem d_L_621 : decode code 621 = .ok (.iload 4, 2) := by decide +kernel
theorem d_L_623 : decode code 623 = .ok (.iconst 1, 1) := by decide +kernel
theorem d_L_624 : decode code 624 = .ok (.iadd, 1) := by decide +kernel
theorem d_L_625 : decode code 625 = .ok (.iaload, 1) := by decide +kernel
theorem d_L_626 : decode code 626 = .ok (.invokevirtual 102, 3) := by decide +kernel
theorem d_L_629 : decode code 629 = .ok (.aload_n 2, 1) := by decide +kernel
theorem d_L_630 : decode code 630 = .ok (.aload_n 0, 1) := by decide +kernel
theorem d_L_631 : decode code 631 = .ok (.iload 4, 2) := by decide +kernel
theorem d_L_633 : decode code 633 = .ok (.iconst 1, 1) := by decide +kernel
theorem d_L_634 : decode code 634 = .ok (.iadd, 1) := by decide +kernel
theorem d_L_635 : decode code 635 = .ok (.iaload, 1) := by decide +kernel
theorem d_L_636 : decode code 636 = .ok (.invokevirtual 105, 3) := by decide +kernel
theorem d_L_639 : decode code 639 = .ok (.if_icmp .eq 881, 3) := by decide +kernel
theorem d_L_642 : decode code 642 = .ok (.iconst 0, 1) := by decide +kernel
theorem d_L_643 : decode code 643 = .ok (.ireturn, 1) := by decide +kernel
theorem d_L_644 : decode code 644 = .ok (.aload_n 1, 1) := by decide +kernel
theorem d_L_645 : decode code 645 = .ok (.aload_n 0, 1) := by decide +kernel
theorem d_L_646 : decode code 646 = .ok (.iload 4, 2) := by decide +kernel
theorem d_L_648 : decode code 648 = .ok (.iconst 1, 1) := by decide +kernel
theorem d_L_649 : decode code 649 = .ok (.iadd, 1) := by decide +kernel
theorem d_L_650 : decode code 650 = .ok (.iaload, 1) := by decide +kernel
theorem d_L_651 : decode code 651 = .ok (.invokevirtual 106, 3) := by decide +kernel
theorem d_L_654 : decode code 654 = .ok (.aload_n 2, 1) := by decide +kernel
theorem d_L_655 : decode code 655 = .ok (.aload_n 0, 1) := by decide +kernel
theorem d_L_656 : decode code 656 = .ok (.iload 4, 2) := by decide +kernel
theorem d_L_658 : decode code 658 = .ok (.iconst 1, 1) := by decide +kernel
theorem d_L_659 : decode code 659 = .ok (.iadd, 1) := by decide +kernel
theorem d_L_660 : decode code 660 = .ok (.iaload, 1) := by decide +kernel
theorem d_L_661 : decode code 661 = .ok (.invokevirtual 109, 3) := by decide +kernel
theorem d_L_664 : decode code 664 = .ok (.if_icmp .eq 856, 3) := by decide +kernel
theorem d_L_667 : decode code 667 = .ok (.iconst 0, 1) := by decide +kernel
theorem d_L_668 : decode code 668 = .ok (.ireturn, 1) := by decide +kernel
theorem d_L_669 : decode code 669 = .ok (.aload_n 1, 1) := by decide +kernel
theorem d_L_670 : decode code 670 = .ok (.aload_n 0, 1) := by decide +kernel
theorem d_L_671 : decode code 671 = .ok (.iload 4, 2) := by decide +kernel
theorem d_L_673 : decode code 673 = .ok (.iconst 1, 1) := by decide +kernel
theorem d_L_674 : decode code 674 = .ok (.iadd, 1) := by decide +kernel
theorem d_L_675 : decode code 675 = .ok (.iaload, 1) := by decide +kernel
theorem d_L_676 : decode code 676 = .ok (.invokevirtual 110, 3) := by decide +kernel
theorem d_L_679 : decode code 679 = .ok (.aload_n 2, 1) := by decide +kernel
theorem d_L_680 : decode code 680 = .ok (.aload_n 0, 1) := by decide +kernel
theorem d_L_681 : decode code 681 = .ok (.iload 4, 2) := by decide +kernel
theorem d_L_683 : decode code 683 = .ok (.iconst 1, 1) := by decide +kernel
theorem d_L_684 : decode code 684 = .ok (.iadd, 1) := by decide +kernel
theorem d_L_685 : decode code 685 = .ok (.iaload, 1) := by decide +kernel
theorem d_L_686 : decode code 686 = .ok (.invokevirtual 114, 3) := by decide +kernel
theorem d_L_689 : decode code 689 = .ok (.lcmp, 1) := by decide +kernel
theorem d_L_690 : decode code 690 = .ok (.ifCond .eq 830, 3) := by decide +kernel
theorem d_L_693 : decode code 693 = .ok (.iconst 0, 1) := by decide +kernel
theorem d_L_694 : decode code 694 = .ok (.ireturn, 1) := by decide +kernel
theorem d_L_695 : decode code 695 = .ok (.aload_n 1, 1) := by decide +kernel
theorem d_L_696 : decode code 696 = .ok (.aload_n 0, 1) := by decide +kernel
theorem d_L_697 : decode code 697 = .ok (.iload 4, 2) := by decide +kernel
theorem d_L_699 : decode code 699 = .ok (.iconst 1, 1) := by decide +kernel
theorem d_L_700 : decode code 700 = .ok (.iadd, 1) := by decide +kernel
theorem d_L_701 : decode code 701 = .ok (.iaload, 1) := by decide +kernel
theorem d_L_702 : decode code 702 = .ok (.aload_n 0, 1) := by decide +kernel
theorem d_L_703 : decode code 703 = .ok (.iload 4, 2) := by decide +kernel
theorem d_L_705 : decode code 705 = .ok (.iconst 2, 1) := by decide +kernel
theorem d_L_706 : decode code 706 = .ok (.iadd, 1) := by decide +kernel
theorem d_L_707 : decode code 707 = .ok (.iaload, 1) := by decide +kernel
theorem d_L_708 : decode code 708 = .ok (.aload_n 0, 1) := by decide +kernel
theorem d_L_709 : decode code 709 = .ok (.iload 4, 2) := by decide +kernel
theorem d_L_711 : decode code 711 = .ok (.iconst 3, 1) := by decide +kernel
theorem d_L_712 : decode code 712 = .ok (.iadd, 1) := by decide +kernel
theorem d_L_713 : decode code 713 = .ok (.iaload, 1) := by decide +kernel
theorem d_L_714 : decode code 714 = .ok (.invokevirtual 115, 3) := by decide +kernel
theorem d_L_717 : decode code 717 = .ok (.aload_n 2, 1) := by decide +kernel
theorem d_L_718 : decode code 718 = .ok (.aload_n 0, 1) := by decide +kernel
theorem d_L_719 : decode code 719 = .ok (.iload 4, 2) := by decide +kernel
theorem d_L_721 : decode code 721 = .ok (.iconst 1, 1) := by decide +kernel
theorem d_L_722 : decode code 722 = .ok (.iadd, 1) := by decide +kernel
theorem d_L_723 : decode code 723 = .ok (.iaload, 1) := by decide +kernel
theorem d_L_724 : decode code 724 = .ok (.aload_n 0, 1) := by decide +kernel
theorem d_L_725 : decode code 725 = .ok (.iload 4, 2) := by decide +kernel
theorem d_L_727 : decode code 727 = .ok (.iconst 2, 1) := by decide +kernel
theorem d_L_728 : decode code 728 = .ok (.iadd, 1) := by decide +kernel
theorem d_L_729 : decode code 729 = .ok (.iaload, 1) := by decide +kernel
theorem d_L_730 : decode code 730 = .ok (.aload_n 0, 1) := by decide +kernel
theorem d_L_731 : decode code 731 = .ok (.iload 4, 2) := by decide +kernel
theorem d_L_733 : decode code 733 = .ok (.iconst 3, 1) := by decide +kernel
theorem d_L_734 : decode code 734 = .ok (.iadd, 1) := by decide +kernel
theorem d_L_735 : decode code 735 = .ok (.iaload, 1) := by decide +kernel
theorem d_L_736 : decode code 736 = .ok (.invokevirtual 119, 3) := by decide +kernel
theorem d_L_739 : decode code 739 = .ok (.if_icmp .eq 781, 3) := by decide +kernel
theorem d_L_742 : decode code 742 = .ok (.iconst 0, 1) := by decide +kernel
theorem d_L_743 : decode code 743 = .ok (.ireturn, 1) := by decide +kernel
theorem d_L_744 : decode code 744 = .ok (.aload_n 1, 1) := by decide +kernel
theorem d_L_745 : decode code 745 = .ok (.aload_n 0, 1) := by decide +kernel
theorem d_L_746 : decode code 746 = .ok (.iload 4, 2) := by decide +kernel
theorem d_L_748 : decode code 748 = .ok (.iconst 1, 1) := by decide +kernel
theorem d_L_749 : decode code 749 = .ok (.iadd, 1) := by decide +kernel
theorem d_L_750 : decode code 750 = .ok (.iaload, 1) := by decide +kernel
theorem d_L_751 : decode code 751 = .ok (.aload_n 0, 1) := by decide +kernel
theorem d_L_752 : decode code 752 = .ok (.iload 4, 2) := by decide +kernel
theorem d_L_754 : decode code 754 = .ok (.iconst 2, 1) := by decide +kernel
theorem d_L_755 : decode code 755 = .ok (.iadd, 1) := by decide +kernel
theorem d_L_756 : decode code 756 = .ok (.iaload, 1) := by decide +kernel
theorem d_L_757 : decode code 757 = .ok (.aload_n 0, 1) := by decide +kernel
theorem d_L_758 : decode code 758 = .ok (.iload 4, 2) := by decide +kernel
theorem d_L_760 : decode code 760 = .ok (.iconst 3, 1) := by decide +kernel
theorem d_L_761 : decode code 761 = .ok (.iadd, 1) := by decide +kernel
theorem d_L_762 : decode code 762 = .ok (.iaload, 1) := by decide +kernel
theorem d_L_763 : decode code 763 = .ok (.invokevirtual 120, 3) := by decide +kernel
theorem d_L_766 : decode code 766 = .ok (.aload_n 2, 1) := by decide +kernel
theorem d_L_767 : decode code 767 = .ok (.aload_n 0, 1) := by decide +kernel
theorem d_L_768 : decode code 768 = .ok (.iload 4, 2) := by decide +kernel
theorem d_L_770 : decode code 770 = .ok (.iconst 1, 1) := by decide +kernel
theorem d_L_771 : decode code 771 = .ok (.iadd, 1) := by decide +kernel
theorem d_L_772 : decode code 772 = .ok (.iaload, 1) := by decide +kernel
theorem d_L_773 : decode code 773 = .ok (.aload_n 0, 1) := by decide +kernel
theorem d_L_774 : decode code 774 = .ok (.iload 4, 2) := by decide +kernel
theorem d_L_776 : decode code 776 = .ok (.iconst 2, 1) := by decide +kernel
theorem d_L_777 : decode code 777 = .ok (.iadd, 1) := by decide +kernel
theorem d_L_778 : decode code 778 = .ok (.iaload, 1) := by decide +kernel
theorem d_L_779 : decode code 779 = .ok (.aload_n 0, 1) := by decide +kernel
theorem d_L_780 : decode code 780 = .ok (.iload 4, 2) := by decide +kernel
theorem d_L_782 : decode code 782 = .ok (.iconst 3, 1) := by decide +kernel
theorem d_L_783 : decode code 783 = .ok (.iadd, 1) := by decide +kernel
theorem d_L_784 : decode code 784 = .ok (.iaload, 1) := by decide +kernel
theorem d_L_785 : decode code 785 = .ok (.invokevirtual 123, 3) := by decide +kernel
theorem d_L_788 : decode code 788 = .ok (.if_icmp .eq 732, 3) := by decide +kernel
theorem d_L_791 : decode code 791 = .ok (.iconst 0, 1) := by decide +kernel
theorem d_L_792 : decode code 792 = .ok (.ireturn, 1) := by decide +kernel
theorem d_L_793 : decode code 793 = .ok (.aload_n 1, 1) := by decide +kernel
theorem d_L_794 : decode code 794 = .ok (.aload_n 0, 1) := by decide +kernel
theorem d_L_795 : decode code 795 = .ok (.iload 4, 2) := by decide +kernel
theorem d_L_797 : decode code 797 = .ok (.iconst 1, 1) := by decide +kernel
theorem d_L_798 : decode code 798 = .ok (.iadd, 1) := by decide +kernel
theorem d_L_799 : decode code 799 = .ok (.iaload, 1) := by decide +kernel
theorem d_L_800 : decode code 800 = .ok (.invokevirtual 124, 3) := by decide +kernel
theorem d_L_803 : decode code 803 = .ok (.aload_n 2, 1) := by decide +kernel
theorem d_L_804 : decode code 804 = .ok (.aload_n 0, 1) := by decide +kernel
theorem d_L_805 : decode code 805 = .ok (.iload 4, 2) := by decide +kernel
theorem d_L_807 : decode code 807 = .ok (.iconst 1, 1) := by decide +kernel
theorem d_L_808 : decode code 808 = .ok (.iadd, 1) := by decide +kernel
theorem d_L_809 : decode code 809 = .ok (.iaload, 1) := by decide +kernel
theorem d_L_810 : decode code 810 = .ok (.invokevirtual 127, 3) := by decide +kernel
theorem d_L_813 : decode code 813 = .ok (.if_icmp .eq 707, 3) := by decide +kernel
theorem d_L_816 : decode code 816 = .ok (.iconst 0, 1) := by decide +kernel
theorem d_L_817 : decode code 817 = .ok (.ireturn, 1) := by decide +kernel
theorem d_L_818 : decode code 818 = .ok (.aload_n 1, 1) := by decide +kernel
theorem d_L_819 : decode code 819 = .ok (.aload_n 0, 1) := by decide +kernel
theorem d_L_820 : decode code 820 = .ok (.iload 4, 2) := by decide +kernel
theorem d_L_822 : decode code 822 = .ok (.iconst 1, 1) := by decide +kernel
theorem d_L_823 : decode code 823 = .ok (.iadd, 1) := by decide +kernel
theorem d_L_824 : decode code 824 = .ok (.iaload, 1) := by decide +kernel
theorem d_L_825 : decode code 825 = .ok (.invokevirtual 128, 3) := by decide +kernel
theorem d_L_828 : decode code 828 = .ok (.aload_n 2, 1) := by decide +kernel
theorem d_L_829 : decode code 829 = .ok (.aload_n 0, 1) := by decide +kernel
theorem d_L_830 : decode code 830 = .ok (.iload 4, 2) := by decide +kernel
theorem d_L_832 : decode code 832 = .ok (.iconst 1, 1) := by decide +kernel
theorem d_L_833 : decode code 833 = .ok (.iadd, 1) := by decide +kernel
theorem d_L_834 : decode code 834 = .ok (.iaload, 1) := by decide +kernel
theorem d_L_835 : decode code 835 = .ok (.invokevirtual 131, 3) := by decide +kernel
theorem d_L_838 : decode code 838 = .ok (.if_icmp .eq 682, 3) := by decide +kernel
theorem d_L_841 : decode code 841 = .ok (.iconst 0, 1) := by decide +kernel
theorem d_L_842 : decode code 842 = .ok (.ireturn, 1) := by decide +kernel
theorem d_L_843 : decode code 843 = .ok (.aload_n 1, 1) := by decide +kernel
theorem d_L_844 : decode code 844 = .ok (.invokevirtual 132, 3) := by decide +kernel
theorem d_L_847 : decode code 847 = .ok (.aload_n 2, 1) := by decide +kernel
theorem d_L_848 : decode code 848 = .ok (.invokevirtual 135, 3) := by decide +kernel
theorem d_L_851 : decode code 851 = .ok (.if_icmp .eq 669, 3) := by decide +kernel
theorem d_L_854 : decode code 854 = .ok (.iconst 0, 1) := by decide +kernel
theorem d_L_855 : decode code 855 = .ok (.ireturn, 1) := by decide +kernel
theorem d_L_856 : decode code 856 = .ok (.aload_n 1, 1) := by decide +kernel
theorem d_L_857 : decode code 857 = .ok (.invokevirtual 136, 3) := by decide +kernel
theorem d_L_860 : decode code 860 = .ok (.aload_n 2, 1) := by decide +kernel
theorem d_L_861 : decode code 861 = .ok (.invokevirtual 139, 3) := by decide +kernel
theorem d_L_864 : decode code 864 = .ok (.if_icmp .eq 656, 3) := by decide +kernel
theorem d_L_867 : decode code 867 = .ok (.iconst 0, 1) := by decide +kernel
theorem d_L_868 : decode code 868 = .ok (.ireturn, 1) := by decide +kernel
theorem d_L_869 : decode code 869 = .ok (.aload_n 1, 1) := by decide +kernel
theorem d_L_870 : decode code 870 = .ok (.invokevirtual 140, 3) := by decide +kernel
theorem d_L_873 : decode code 873 = .ok (.aload_n 2, 1) := by decide +kernel
theorem d_L_874 : decode code 874 = .ok (.invokevirtual 143, 3) := by decide +kernel
theorem d_L_877 : decode code 877 = .ok (.if_icmp .eq 643, 3) := by decide +kernel
theorem d_L_880 : decode code 880 = .ok (.iconst 0, 1) := by decide +kernel
theorem d_L_881 : decode code 881 = .ok (.ireturn, 1) := by decide +kernel
theorem d_L_882 : decode code 882 = .ok (.aload_n 1, 1) := by decide +kernel
theorem d_L_883 : decode code 883 = .ok (.aload_n 0, 1) := by decide +kernel
theorem d_L_884 : decode code 884 = .ok (.iload 4, 2) := by decide +kernel
theorem d_L_886 : decode code 886 = .ok (.iconst 1, 1) := by decide +kernel
theorem d_L_887 : decode code 887 = .ok (.iadd, 1) := by decide +kernel
theorem d_L_888 : decode code 888 = .ok (.iaload, 1) := by decide +kernel
theorem d_L_889 : decode code 889 = .ok (.invokevirtual 144, 3) := by decide +kernel
theorem d_L_892 : decode code 892 = .ok (.aload_n 2, 1) := by decide +kernel
theorem d_L_893 : decode code 893 = .ok (.aload_n 0, 1) := by decide +kernel
theorem d_L_894 : decode code 894 = .ok (.iload 4, 2) := by decide +kernel
theorem d_L_896 : decode code 896 = .ok (.iconst 1, 1) := by decide +kernel
theorem d_L_897 : decode code 897 = .ok (.iadd, 1) := by decide +kernel
theorem d_L_898 : decode code 898 = .ok (.iaload, 1) := by decide +kernel
theorem d_L_899 : decode code 899 = .ok (.invokevirtual 147, 3) := by decide +kernel
theorem d_L_902 : decode code 902 = .ok (.if_icmp .eq 618, 3) := by decide +kernel
theorem d_L_905 : decode code 905 = .ok (.iconst 0, 1) := by decide +kernel
theorem d_L_906 : decode code 906 = .ok (.ireturn, 1) := by decide +kernel
theorem d_L_907 : decode code 907 = .ok (.aload_n 1, 1) := by decide +kernel
theorem d_L_908 : decode code 908 = .ok (.aload_n 0, 1) := by decide +kernel
theorem d_L_909 : decode code 909 = .ok (.iload 4, 2) := by decide +kernel
theorem d_L_911 : decode code 911 = .ok (.iconst 1, 1) := by decide +kernel
theorem d_L_912 : decode code 912 = .ok (.iadd, 1) := by decide +kernel
theorem d_L_913 : decode code 913 = .ok (.iaload, 1) := by decide +kernel
theorem d_L_914 : decode code 914 = .ok (.aload_n 0, 1) := by decide +kernel
theorem d_L_915 : decode code 915 = .ok (.iload 4, 2) := by decide +kernel
theorem d_L_917 : decode code 917 = .ok (.iconst 2, 1) := by decide +kernel
theorem d_L_918 : decode code 918 = .ok (.iadd, 1) := by decide +kernel
theorem d_L_919 : decode code 919 = .ok (.iaload, 1) := by decide +kernel
theorem d_L_920 : decode code 920 = .ok (.invokevirtual 148, 3) := by decide +kernel
theorem d_L_923 : decode code 923 = .ok (.aload_n 2, 1) := by decide +kernel
theorem d_L_924 : decode code 924 = .ok (.aload_n 0, 1) := by decide +kernel
theorem d_L_925 : decode code 925 = .ok (.iload 4, 2) := by decide +kernel
theorem d_L_927 : decode code 927 = .ok (.iconst 1, 1) := by decide +kernel
theorem d_L_928 : decode code 928 = .ok (.iadd, 1) := by decide +kernel
theorem d_L_929 : decode code 929 = .ok (.iaload, 1) := by decide +kernel
theorem d_L_930 : decode code 930 = .ok (.aload_n 0, 1) := by decide +kernel
theorem d_L_931 : decode code 931 = .ok (.iload 4, 2) := by decide +kernel
theorem d_L_933 : decode code 933 = .ok (.iconst 2, 1) := by decide +kernel
theorem d_L_934 : decode code 934 = .ok (.iadd, 1) := by decide +kernel
theorem d_L_935 : decode code 935 = .ok (.iaload, 1) := by decide +kernel
theorem d_L_936 : decode code 936 = .ok (.invokevirtual 151, 3) := by decide +kernel
theorem d_L_939 : decode code 939 = .ok (.if_icmp .eq 581, 3) := by decide +kernel
theorem d_L_942 : decode code 942 = .ok (.iconst 0, 1) := by decide +kernel
theorem d_L_943 : decode code 943 = .ok (.ireturn, 1) := by decide +kernel
theorem d_L_944 : decode code 944 = .ok (.aload_n 1, 1) := by decide +kernel
theorem d_L_945 : decode code 945 = .ok (.aload_n 0, 1) := by decide +kernel
theorem d_L_946 : decode code 946 = .ok (.iload 4, 2) := by decide +kernel
theorem d_L_948 : decode code 948 = .ok (.iconst 1, 1) := by decide +kernel
theorem d_L_949 : decode code 949 = .ok (.iadd, 1) := by decide +kernel
theorem d_L_950 : decode code 950 = .ok (.iaload, 1) := by decide +kernel
theorem d_L_951 : decode code 951 = .ok (.invokevirtual 152, 3) := by decide +kernel
theorem d_L_954 : decode code 954 = .ok (.aload_n 2, 1) := by decide +kernel
theorem d_L_955 : decode code 955 = .ok (.aload_n 0, 1) := by decide +kernel
theorem d_L_956 : decode code 956 = .ok (.iload 4, 2) := by decide +kernel
theorem d_L_958 : decode code 958 = .ok (.iconst 1, 1) := by decide +kernel
theorem d_L_959 : decode code 959 = .ok (.iadd, 1) := by decide +kernel
theorem d_L_960 : decode code 960 = .ok (.iaload, 1) := by decide +kernel
theorem d_L_961 : decode code 961 = .ok (.invokevirtual 155, 3) := by decide +kernel
theorem d_L_964 : decode code 964 = .ok (.if_icmp .eq 556, 3) := by decide +kernel
theorem d_L_967 : decode code 967 = .ok (.iconst 0, 1) := by decide +kernel
theorem d_L_968 : decode code 968 = .ok (.ireturn, 1) := by decide +kernel
theorem d_L_969 : decode code 969 = .ok (.aload_n 1, 1) := by decide +kernel
theorem d_L_970 : decode code 970 = .ok (.invokevirtual 156, 3) := by decide +kernel
theorem d_L_973 : decode code 973 = .ok (.aload_n 2, 1) := by decide +kernel
theorem d_L_974 : decode code 974 = .ok (.invokevirtual 159, 3) := by decide +kernel
theorem d_L_977 : decode code 977 = .ok (.if_icmp .eq 543, 3) := by decide +kernel
theorem d_L_980 : decode code 980 = .ok (.iconst 0, 1) := by decide +kernel
theorem d_L_981 : decode code 981 = .ok (.ireturn, 1) := by decide +kernel
theorem d_L_982 : decode code 982 = .ok (.aload_n 1, 1) := by decide +kernel
theorem d_L_983 : decode code 983 = .ok (.invokevirtual 160, 3) := by decide +kernel
theorem d_L_986 : decode code 986 = .ok (.aload_n 2, 1) := by decide +kernel
theorem d_L_987 : decode code 987 = .ok (.invokevirtual 163, 3) := by decide +kernel
theorem d_L_990 : decode code 990 = .ok (.if_icmp .eq 530, 3) := by decide +kernel
theorem d_L_993 : decode code 993 = .ok (.iconst 0, 1) := by decide +kernel
theorem d_L_994 : decode code 994 = .ok (.ireturn, 1) := by decide +kernel
theorem d_L_995 : decode code 995 = .ok (.aload_n 1, 1) := by decide +kernel
theorem d_L_996 : decode code 996 = .ok (.aload_n 0, 1) := by decide +kernel
theorem d_L_997 : decode code 997 = .ok (.iload 4, 2) := by decide +kernel
theorem d_L_999 : decode code 999 = .ok (.iconst 1, 1) := by decide +kernel
theorem d_L_1000 : decode code 1000 = .ok (.iadd, 1) := by decide +kernel
theorem d_L_1001 : decode code 1001 = .ok (.iaload, 1) := by decide +kernel
theorem d_L_1002 : decode code 1002 = .ok (.aload_n 0, 1) := by decide +kernel
theorem d_L_1003 : decode code 1003 = .ok (.iload 4, 2) := by decide +kernel
theorem d_L_1005 : decode code 1005 = .ok (.iconst 2, 1) := by decide +kernel
theorem d_L_1006 : decode code 1006 = .ok (.iadd, 1) := by decide +kernel
theorem d_L_1007 : decode code 1007 = .ok (.iaload, 1) := by decide +kernel
theorem d_L_1008 : decode code 1008 = .ok (.aload_n 3, 1) := by decide +kernel
theorem d_L_1009 : decode code 1009 = .ok (.invokestatic 164, 3) := by decide +kernel
theorem d_L_1012 : decode code 1012 = .ok (.istore 5, 2) := by decide +kernel
theorem d_L_1014 : decode code 1014 = .ok (.aload_n 2, 1) := by decide +kernel
theorem d_L_1015 : decode code 1015 = .ok (.aload_n 0, 1) := by decide +kernel
theorem d_L_1016 : decode code 1016 = .ok (.iload 4, 2) := by decide +kernel
theorem d_L_1018 : decode code 1018 = .ok (.iconst 1, 1) := by decide +kernel
theorem d_L_1019 : decode code 1019 = .ok (.iadd, 1) := by decide +kernel
theorem d_L_1020 : decode code 1020 = .ok (.iaload, 1) := by decide +kernel
theorem d_L_1021 : decode code 1021 = .ok (.aload_n 0, 1) := by decide +kernel
theorem d_L_1022 : decode code 1022 = .ok (.iload 4, 2) := by decide +kernel
theorem d_L_1024 : decode code 1024 = .ok (.iconst 2, 1) := by decide +kernel
theorem d_L_1025 : decode code 1025 = .ok (.iadd, 1) := by decide +kernel
theorem d_L_1026 : decode code 1026 = .ok (.iaload, 1) := by decide +kernel
theorem d_L_1027 : decode code 1027 = .ok (.invokevirtual 167, 3) := by decide +kernel
theorem d_L_1030 : decode code 1030 = .ok (.istore 6, 2) := by decide +kernel
theorem d_L_1032 : decode code 1032 = .ok (.aload_n 2, 1) := by decide +kernel
theorem d_L_1033 : decode code 1033 = .ok (.invokevirtual 66, 3) := by decide +kernel
theorem d_L_1036 : decode code 1036 = .ok (.iload 5, 2) := by decide +kernel
theorem d_L_1038 : decode code 1038 = .ok (.if_icmp .eq 5, 3) := by decide +kernel
theorem d_L_1041 : decode code 1041 = .ok (.iconst 0, 1) := by decide +kernel
theorem d_L_1042 : decode code 1042 = .ok (.ireturn, 1) := by decide +kernel
theorem d_L_1043 : decode code 1043 = .ok (.iload 5, 2) := by decide +kernel
theorem d_L_1045 : decode code 1045 = .ok (.ifCond .ne 15, 3) := by decide +kernel
theorem d_L_1048 : decode code 1048 = .ok (.aload_n 3, 1) := by decide +kernel
theorem d_L_1049 : decode code 1049 = .ok (.iconst 0, 1) := by decide +kernel
theorem d_L_1050 : decode code 1050 = .ok (.laload, 1) := by decide +kernel
theorem d_L_1051 : decode code 1051 = .ok (.iload 6, 2) := by decide +kernel
theorem d_L_1053 : decode code 1053 = .ok (.i2l, 1) := by decide +kernel
theorem d_L_1054 : decode code 1054 = .ok (.lcmp, 1) := by decide +kernel
theorem d_L_1055 : decode code 1055 = .ok (.ifCond .eq 5, 3) := by decide +kernel
theorem d_L_1058 : decode code 1058 = .ok (.iconst 0, 1) := by decide +kernel
theorem d_L_1059 : decode code 1059 = .ok (.ireturn, 1) := by decide +kernel
theorem d_L_1060 : decode code 1060 = .ok (.goto 460, 3) := by decide +kernel
theorem d_L_1063 : decode code 1063 = .ok (.aload_n 1, 1) := by decide +kernel
theorem d_L_1064 : decode code 1064 = .ok (.aload_n 0, 1) := by decide +kernel
theorem d_L_1065 : decode code 1065 = .ok (.iload 4, 2) := by decide +kernel
theorem d_L_1067 : decode code 1067 = .ok (.iconst 1, 1) := by decide +kernel
theorem d_L_1068 : decode code 1068 = .ok (.iadd, 1) := by decide +kernel
theorem d_L_1069 : decode code 1069 = .ok (.iaload, 1) := by decide +kernel
theorem d_L_1070 : decode code 1070 = .ok (.aload_n 0, 1) := by decide +kernel
theorem d_L_1071 : decode code 1071 = .ok (.iload 4, 2) := by decide +kernel
theorem d_L_1073 : decode code 1073 = .ok (.iconst 2, 1) := by decide +kernel
theorem d_L_1074 : decode code 1074 = .ok (.iadd, 1) := by decide +kernel
theorem d_L_1075 : decode code 1075 = .ok (.iaload, 1) := by decide +kernel
theorem d_L_1076 : decode code 1076 = .ok (.aload_n 3, 1) := by decide +kernel
theorem d_L_1077 : decode code 1077 = .ok (.invokestatic 168, 3) := by decide +kernel
theorem d_L_1080 : decode code 1080 = .ok (.istore 5, 2) := by decide +kernel
theorem d_L_1082 : decode code 1082 = .ok (.aload_n 2, 1) := by decide +kernel
theorem d_L_1083 : decode code 1083 = .ok (.aload_n 0, 1) := by decide +kernel
theorem d_L_1084 : decode code 1084 = .ok (.iload 4, 2) := by decide +kernel
theorem d_L_1086 : decode code 1086 = .ok (.iconst 1, 1) := by decide +kernel
theorem d_L_1087 : decode code 1087 = .ok (.iadd, 1) := by decide +kernel
theorem d_L_1088 : decode code 1088 = .ok (.iaload, 1) := by decide +kernel
theorem d_L_1089 : decode code 1089 = .ok (.aload_n 0, 1) := by decide +kernel
theorem d_L_1090 : decode code 1090 = .ok (.iload 4, 2) := by decide +kernel
theorem d_L_1092 : decode code 1092 = .ok (.iconst 2, 1) := by decide +kernel
theorem d_L_1093 : decode code 1093 = .ok (.iadd, 1) := by decide +kernel
theorem d_L_1094 : decode code 1094 = .ok (.iaload, 1) := by decide +kernel
theorem d_L_1095 : decode code 1095 = .ok (.invokevirtual 170, 3) := by decide +kernel
theorem d_L_1098 : decode code 1098 = .ok (.lstore 6, 2) := by decide +kernel
theorem d_L_1100 : decode code 1100 = .ok (.aload_n 2, 1) := by decide +kernel
theorem d_L_1101 : decode code 1101 = .ok (.invokevirtual 66, 3) := by decide +kernel
theorem d_L_1104 : decode code 1104 = .ok (.iload 5, 2) := by decide +kernel
theorem d_L_1106 : decode code 1106 = .ok (.if_icmp .eq 5, 3) := by decide +kernel
theorem d_L_1109 : decode code 1109 = .ok (.iconst 0, 1) := by decide +kernel
theorem d_L_1110 : decode code 1110 = .ok (.ireturn, 1) := by decide +kernel
theorem d_L_1111 : decode code 1111 = .ok (.iload 5, 2) := by decide +kernel
theorem d_L_1113 : decode code 1113 = .ok (.ifCond .ne 14, 3) := by decide +kernel
theorem d_L_1116 : decode code 1116 = .ok (.aload_n 3, 1) := by decide +kernel
theorem d_L_1117 : decode code 1117 = .ok (.iconst 0, 1) := by decide +kernel
theorem d_L_1118 : decode code 1118 = .ok (.laload, 1) := by decide +kernel
theorem d_L_1119 : decode code 1119 = .ok (.lload 6, 2) := by decide +kernel
theorem d_L_1121 : decode code 1121 = .ok (.lcmp, 1) := by decide +kernel
theorem d_L_1122 : decode code 1122 = .ok (.ifCond .eq 5, 3) := by decide +kernel
theorem d_L_1125 : decode code 1125 = .ok (.iconst 0, 1) := by decide +kernel
theorem d_L_1126 : decode code 1126 = .ok (.ireturn, 1) := by decide +kernel
theorem d_L_1127 : decode code 1127 = .ok (.goto 393, 3) := by decide +kernel
theorem d_L_1130 : decode code 1130 = .ok (.aload_n 1, 1) := by decide +kernel
theorem d_L_1131 : decode code 1131 = .ok (.aload_n 0, 1) := by decide +kernel
theorem d_L_1132 : decode code 1132 = .ok (.iload 4, 2) := by decide +kernel
theorem d_L_1134 : decode code 1134 = .ok (.iconst 1, 1) := by decide +kernel
theorem d_L_1135 : decode code 1135 = .ok (.iadd, 1) := by decide +kernel
theorem d_L_1136 : decode code 1136 = .ok (.iaload, 1) := by decide +kernel
theorem d_L_1137 : decode code 1137 = .ok (.aload_n 0, 1) := by decide +kernel
theorem d_L_1138 : decode code 1138 = .ok (.iload 4, 2) := by decide +kernel
theorem d_L_1140 : decode code 1140 = .ok (.iconst 2, 1) := by decide +kernel
theorem d_L_1141 : decode code 1141 = .ok (.iadd, 1) := by decide +kernel
theorem d_L_1142 : decode code 1142 = .ok (.iaload, 1) := by decide +kernel
theorem d_L_1143 : decode code 1143 = .ok (.aload_n 3, 1) := by decide +kernel
theorem d_L_1144 : decode code 1144 = .ok (.invokestatic 171, 3) := by decide +kernel
theorem d_L_1147 : decode code 1147 = .ok (.istore 5, 2) := by decide +kernel
theorem d_L_1149 : decode code 1149 = .ok (.aload_n 2, 1) := by decide +kernel
theorem d_L_1150 : decode code 1150 = .ok (.aload_n 0, 1) := by decide +kernel
theorem d_L_1151 : decode code 1151 = .ok (.iload 4, 2) := by decide +kernel
theorem d_L_1153 : decode code 1153 = .ok (.iconst 1, 1) := by decide +kernel
theorem d_L_1154 : decode code 1154 = .ok (.iadd, 1) := by decide +kernel
theorem d_L_1155 : decode code 1155 = .ok (.iaload, 1) := by decide +kernel
theorem d_L_1156 : decode code 1156 = .ok (.aload_n 0, 1) := by decide +kernel
theorem d_L_1157 : decode code 1157 = .ok (.iload 4, 2) := by decide +kernel
theorem d_L_1159 : decode code 1159 = .ok (.iconst 2, 1) := by decide +kernel
theorem d_L_1160 : decode code 1160 = .ok (.iadd, 1) := by decide +kernel
theorem d_L_1161 : decode code 1161 = .ok (.iaload, 1) := by decide +kernel
theorem d_L_1162 : decode code 1162 = .ok (.invokevirtual 173, 3) := by decide +kernel
theorem d_L_1165 : decode code 1165 = .ok (.istore 6, 2) := by decide +kernel
theorem d_L_1167 : decode code 1167 = .ok (.aload_n 2, 1) := by decide +kernel
theorem d_L_1168 : decode code 1168 = .ok (.invokevirtual 66, 3) := by decide +kernel
theorem d_L_1171 : decode code 1171 = .ok (.iload 5, 2) := by decide +kernel
theorem d_L_1173 : decode code 1173 = .ok (.if_icmp .eq 5, 3) := by decide +kernel
theorem d_L_1176 : decode code 1176 = .ok (.iconst 0, 1) := by decide +kernel
theorem d_L_1177 : decode code 1177 = .ok (.ireturn, 1) := by decide +kernel
theorem d_L_1178 : decode code 1178 = .ok (.iload 5, 2) := by decide +kernel
theorem d_L_1180 : decode code 1180 = .ok (.ifCond .ne 15, 3) := by decide +kernel
theorem d_L_1183 : decode code 1183 = .ok (.aload_n 3, 1) := by decide +kernel
theorem d_L_1184 : decode code 1184 = .ok (.iconst 0, 1) := by decide +kernel
theorem d_L_1185 : decode code 1185 = .ok (.laload, 1) := by decide +kernel
theorem d_L_1186 : decode code 1186 = .ok (.iload 6, 2) := by decide +kernel
theorem d_L_1188 : decode code 1188 = .ok (.i2l, 1) := by decide +kernel
theorem d_L_1189 : decode code 1189 = .ok (.lcmp, 1) := by decide +kernel
theorem d_L_1190 : decode code 1190 = .ok (.ifCond .eq 5, 3) := by decide +kernel
theorem d_L_1193 : decode code 1193 = .ok (.iconst 0, 1) := by decide +kernel
theorem d_L_1194 : decode code 1194 = .ok (.ireturn, 1) := by decide +kernel
theorem d_L_1195 : decode code 1195 = .ok (.goto 325, 3) := by decide +kernel
theorem d_L_1198 : decode code 1198 = .ok (.aload_n 1, 1) := by decide +kernel
theorem d_L_1199 : decode code 1199 = .ok (.aload_n 0, 1) := by decide +kernel
theorem d_L_1200 : decode code 1200 = .ok (.iload 4, 2) := by decide +kernel
theorem d_L_1202 : decode code 1202 = .ok (.iconst 1, 1) := by decide +kernel
theorem d_L_1203 : decode code 1203 = .ok (.iadd, 1) := by decide +kernel
theorem d_L_1204 : decode code 1204 = .ok (.iaload, 1) := by decide +kernel
theorem d_L_1205 : decode code 1205 = .ok (.aload_n 0, 1) := by decide +kernel
theorem d_L_1206 : decode code 1206 = .ok (.iload 4, 2) := by decide +kernel
theorem d_L_1208 : decode code 1208 = .ok (.iconst 2, 1) := by decide +kernel
theorem d_L_1209 : decode code 1209 = .ok (.iadd, 1) := by decide +kernel
theorem d_L_1210 : decode code 1210 = .ok (.iaload, 1) := by decide +kernel
theorem d_L_1211 : decode code 1211 = .ok (.aload_n 3, 1) := by decide +kernel
theorem d_L_1212 : decode code 1212 = .ok (.invokestatic 174, 3) := by decide +kernel
theorem d_L_1215 : decode code 1215 = .ok (.istore 5, 2) := by decide +kernel
theorem d_L_1217 : decode code 1217 = .ok (.aload_n 2, 1) := by decide +kernel
theorem d_L_1218 : decode code 1218 = .ok (.aload_n 0, 1) := by decide +kernel
theorem d_L_1219 : decode code 1219 = .ok (.iload 4, 2) := by decide +kernel
theorem d_L_1221 : decode code 1221 = .ok (.iconst 1, 1) := by decide +kernel
theorem d_L_1222 : decode code 1222 = .ok (.iadd, 1) := by decide +kernel
theorem d_L_1223 : decode code 1223 = .ok (.iaload, 1) := by decide +kernel
theorem d_L_1224 : decode code 1224 = .ok (.aload_n 0, 1) := by decide +kernel
theorem d_L_1225 : decode code 1225 = .ok (.iload 4, 2) := by decide +kernel
theorem d_L_1227 : decode code 1227 = .ok (.iconst 2, 1) := by decide +kernel
theorem d_L_1228 : decode code 1228 = .ok (.iadd, 1) := by decide +kernel
theorem d_L_1229 : decode code 1229 = .ok (.iaload, 1) := by decide +kernel
theorem d_L_1230 : decode code 1230 = .ok (.invokevirtual 176, 3) := by decide +kernel
theorem d_L_1233 : decode code 1233 = .ok (.istore 6, 2) := by decide +kernel
theorem d_L_1235 : decode code 1235 = .ok (.aload_n 2, 1) := by decide +kernel
theorem d_L_1236 : decode code 1236 = .ok (.invokevirtual 66, 3) := by decide +kernel
theorem d_L_1239 : decode code 1239 = .ok (.iload 5, 2) := by decide +kernel
theorem d_L_1241 : decode code 1241 = .ok (.if_icmp .eq 5, 3) := by decide +kernel
theorem d_L_1244 : decode code 1244 = .ok (.iconst 0, 1) := by decide +kernel
theorem d_L_1245 : decode code 1245 = .ok (.ireturn, 1) := by decide +kernel
theorem d_L_1246 : decode code 1246 = .ok (.iload 5, 2) := by decide +kernel
theorem d_L_1248 : decode code 1248 = .ok (.ifCond .ne 15, 3) := by decide +kernel
theorem d_L_1251 : decode code 1251 = .ok (.aload_n 3, 1) := by decide +kernel
theorem d_L_1252 : decode code 1252 = .ok (.iconst 0, 1) := by decide +kernel
theorem d_L_1253 : decode code 1253 = .ok (.laload, 1) := by decide +kernel
theorem d_L_1254 : decode code 1254 = .ok (.iload 6, 2) := by decide +kernel
theorem d_L_1256 : decode code 1256 = .ok (.i2l, 1) := by decide +kernel
theorem d_L_1257 : decode code 1257 = .ok (.lcmp, 1) := by decide +kernel
theorem d_L_1258 : decode code 1258 = .ok (.ifCond .eq 5, 3) := by decide +kernel
theorem d_L_1261 : decode code 1261 = .ok (.iconst 0, 1) := by decide +kernel
theorem d_L_1262 : decode code 1262 = .ok (.ireturn, 1) := by decide +kernel
theorem d_L_1263 : decode code 1263 = .ok (.goto 257, 3) := by decide +kernel
theorem d_L_1266 : decode code 1266 = .ok (.aload_n 1, 1) := by decide +kernel
theorem d_L_1267 : decode code 1267 = .ok (.aload_n 0, 1) := by decide +kernel
theorem d_L_1268 : decode code 1268 = .ok (.iload 4, 2) := by decide +kernel
theorem d_L_1270 : decode code 1270 = .ok (.iconst 1, 1) := by decide +kernel
theorem d_L_1271 : decode code 1271 = .ok (.iadd, 1) := by decide +kernel
theorem d_L_1272 : decode code 1272 = .ok (.iaload, 1) := by decide +kernel
theorem d_L_1273 : decode code 1273 = .ok (.aload_n 0, 1) := by decide +kernel
theorem d_L_1274 : decode code 1274 = .ok (.iload 4, 2) := by decide +kernel
theorem d_L_1276 : decode code 1276 = .ok (.iconst 2, 1) := by decide +kernel
theorem d_L_1277 : decode code 1277 = .ok (.iadd, 1) := by decide +kernel
theorem d_L_1278 : decode code 1278 = .ok (.iaload, 1) := by decide +kernel
theorem d_L_1279 : decode code 1279 = .ok (.aload_n 3, 1) := by decide +kernel
theorem d_L_1280 : decode code 1280 = .ok (.invokestatic 177, 3) := by decide +kernel
theorem d_L_1283 : decode code 1283 = .ok (.istore 5, 2) := by decide +kernel
theorem d_L_1285 : decode code 1285 = .ok (.aload_n 2, 1) := by decide +kernel
theorem d_L_1286 : decode code 1286 = .ok (.aload_n 0, 1) := by decide +kernel
theorem d_L_1287 : decode code 1287 = .ok (.iload 4, 2) := by decide +kernel
theorem d_L_1289 : decode code 1289 = .ok (.iconst 1, 1) := by decide +kernel
theorem d_L_1290 : decode code 1290 = .ok (.iadd, 1) := by decide +kernel
theorem d_L_1291 : decode code 1291 = .ok (.iaload, 1) := by decide +kernel
theorem d_L_1292 : decode code 1292 = .ok (.aload_n 0, 1) := by decide +kernel
theorem d_L_1293 : decode code 1293 = .ok (.iload 4, 2) := by decide +kernel
theorem d_L_1295 : decode code 1295 = .ok (.iconst 2, 1) := by decide +kernel
theorem d_L_1296 : decode code 1296 = .ok (.iadd, 1) := by decide +kernel
theorem d_L_1297 : decode code 1297 = .ok (.iaload, 1) := by decide +kernel
theorem d_L_1298 : decode code 1298 = .ok (.invokevirtual 179, 3) := by decide +kernel
theorem d_L_1301 : decode code 1301 = .ok (.istore 6, 2) := by decide +kernel
theorem d_L_1303 : decode code 1303 = .ok (.aload_n 2, 1) := by decide +kernel
theorem d_L_1304 : decode code 1304 = .ok (.invokevirtual 66, 3) := by decide +kernel
theorem d_L_1307 : decode code 1307 = .ok (.iload 5, 2) := by decide +kernel
theorem d_L_1309 : decode code 1309 = .ok (.if_icmp .eq 5, 3) := by decide +kernel
theorem d_L_1312 : decode code 1312 = .ok (.iconst 0, 1) := by decide +kernel
theorem d_L_1313 : decode code 1313 = .ok (.ireturn, 1) := by decide +kernel
theorem d_L_1314 : decode code 1314 = .ok (.iload 5, 2) := by decide +kernel
theorem d_L_1316 : decode code 1316 = .ok (.ifCond .ne 15, 3) := by decide +kernel
theorem d_L_1319 : decode code 1319 = .ok (.aload_n 3, 1) := by decide +kernel
theorem d_L_1320 : decode code 1320 = .ok (.iconst 0, 1) := by decide +kernel
theorem d_L_1321 : decode code 1321 = .ok (.laload, 1) := by decide +kernel
theorem d_L_1322 : decode code 1322 = .ok (.iload 6, 2) := by decide +kernel
theorem d_L_1324 : decode code 1324 = .ok (.i2l, 1) := by decide +kernel
theorem d_L_1325 : decode code 1325 = .ok (.lcmp, 1) := by decide +kernel
theorem d_L_1326 : decode code 1326 = .ok (.ifCond .eq 5, 3) := by decide +kernel
theorem d_L_1329 : decode code 1329 = .ok (.iconst 0, 1) := by decide +kernel
theorem d_L_1330 : decode code 1330 = .ok (.ireturn, 1) := by decide +kernel
theorem d_L_1331 : decode code 1331 = .ok (.goto 189, 3) := by decide +kernel
theorem d_L_1334 : decode code 1334 = .ok (.aload_n 1, 1) := by decide +kernel
theorem d_L_1335 : decode code 1335 = .ok (.aload_n 0, 1) := by decide +kernel
theorem d_L_1336 : decode code 1336 = .ok (.iload 4, 2) := by decide +kernel
theorem d_L_1338 : decode code 1338 = .ok (.iconst 1, 1) := by decide +kernel
theorem d_L_1339 : decode code 1339 = .ok (.iadd, 1) := by decide +kernel
theorem d_L_1340 : decode code 1340 = .ok (.iaload, 1) := by decide +kernel
theorem d_L_1341 : decode code 1341 = .ok (.aload_n 0, 1) := by decide +kernel
theorem d_L_1342 : decode code 1342 = .ok (.iload 4, 2) := by decide +kernel
theorem d_L_1344 : decode code 1344 = .ok (.iconst 2, 1) := by decide +kernel
theorem d_L_1345 : decode code 1345 = .ok (.iadd, 1) := by decide +kernel
theorem d_L_1346 : decode code 1346 = .ok (.iaload, 1) := by decide +kernel
theorem d_L_1347 : decode code 1347 = .ok (.aload_n 3, 1) := by decide +kernel
theorem d_L_1348 : decode code 1348 = .ok (.invokestatic 180, 3) := by decide +kernel
theorem d_L_1351 : decode code 1351 = .ok (.istore 5, 2) := by decide +kernel
theorem d_L_1353 : decode code 1353 = .ok (.aload_n 2, 1) := by decide +kernel
theorem d_L_1354 : decode code 1354 = .ok (.aload_n 0, 1) := by decide +kernel
theorem d_L_1355 : decode code 1355 = .ok (.iload 4, 2) := by decide +kernel
theorem d_L_1357 : decode code 1357 = .ok (.iconst 1, 1) := by decide +kernel
theorem d_L_1358 : decode code 1358 = .ok (.iadd, 1) := by decide +kernel
theorem d_L_1359 : decode code 1359 = .ok (.iaload, 1) := by decide +kernel
theorem d_L_1360 : decode code 1360 = .ok (.aload_n 0, 1) := by decide +kernel
theorem d_L_1361 : decode code 1361 = .ok (.iload 4, 2) := by decide +kernel
theorem d_L_1363 : decode code 1363 = .ok (.iconst 2, 1) := by decide +kernel
theorem d_L_1364 : decode code 1364 = .ok (.iadd, 1) := by decide +kernel
theorem d_L_1365 : decode code 1365 = .ok (.iaload, 1) := by decide +kernel
theorem d_L_1366 : decode code 1366 = .ok (.invokevirtual 182, 3) := by decide +kernel
theorem d_L_1369 : decode code 1369 = .ok (.istore 6, 2) := by decide +kernel
theorem d_L_1371 : decode code 1371 = .ok (.aload_n 2, 1) := by decide +kernel
theorem d_L_1372 : decode code 1372 = .ok (.invokevirtual 66, 3) := by decide +kernel
theorem d_L_1375 : decode code 1375 = .ok (.iload 5, 2) := by decide +kernel
theorem d_L_1377 : decode code 1377 = .ok (.if_icmp .eq 5, 3) := by decide +kernel
theorem d_L_1380 : decode code 1380 = .ok (.iconst 0, 1) := by decide +kernel
theorem d_L_1381 : decode code 1381 = .ok (.ireturn, 1) := by decide +kernel
theorem d_L_1382 : decode code 1382 = .ok (.iload 5, 2) := by decide +kernel
theorem d_L_1384 : decode code 1384 = .ok (.ifCond .ne 15, 3) := by decide +kernel
theorem d_L_1387 : decode code 1387 = .ok (.aload_n 3, 1) := by decide +kernel
theorem d_L_1388 : decode code 1388 = .ok (.iconst 0, 1) := by decide +kernel
theorem d_L_1389 : decode code 1389 = .ok (.laload, 1) := by decide +kernel
theorem d_L_1390 : decode code 1390 = .ok (.iload 6, 2) := by decide +kernel
theorem d_L_1392 : decode code 1392 = .ok (.i2l, 1) := by decide +kernel
theorem d_L_1393 : decode code 1393 = .ok (.lcmp, 1) := by decide +kernel
theorem d_L_1394 : decode code 1394 = .ok (.ifCond .eq 5, 3) := by decide +kernel
theorem d_L_1397 : decode code 1397 = .ok (.iconst 0, 1) := by decide +kernel
theorem d_L_1398 : decode code 1398 = .ok (.ireturn, 1) := by decide +kernel
theorem d_L_1399 : decode code 1399 = .ok (.goto 121, 3) := by decide +kernel
theorem d_L_1402 : decode code 1402 = .ok (.aload_n 1, 1) := by decide +kernel
theorem d_L_1403 : decode code 1403 = .ok (.aload_n 0, 1) := by decide +kernel
theorem d_L_1404 : decode code 1404 = .ok (.iload 4, 2) := by decide +kernel
theorem d_L_1406 : decode code 1406 = .ok (.iconst 1, 1) := by decide +kernel
theorem d_L_1407 : decode code 1407 = .ok (.iadd, 1) := by decide +kernel
theorem d_L_1408 : decode code 1408 = .ok (.iaload, 1) := by decide +kernel
theorem d_L_1409 : decode code 1409 = .ok (.aload_n 0, 1) := by decide +kernel
theorem d_L_1410 : decode code 1410 = .ok (.iload 4, 2) := by decide +kernel
theorem d_L_1412 : decode code 1412 = .ok (.iconst 2, 1) := by decide +kernel
theorem d_L_1413 : decode code 1413 = .ok (.iadd, 1) := by decide +kernel
theorem d_L_1414 : decode code 1414 = .ok (.iaload, 1) := by decide +kernel
theorem d_L_1415 : decode code 1415 = .ok (.invokevirtual 183, 3) := by decide +kernel
theorem d_L_1418 : decode code 1418 = .ok (.aload_n 2, 1) := by decide +kernel
theorem d_L_1419 : decode code 1419 = .ok (.aload_n 0, 1) := by decide +kernel
theorem d_L_1420 : decode code 1420 = .ok (.iload 4, 2) := by decide +kernel
theorem d_L_1422 : decode code 1422 = .ok (.iconst 1, 1) := by decide +kernel
theorem d_L_1423 : decode code 1423 = .ok (.iadd, 1) := by decide +kernel
theorem d_L_1424 : decode code 1424 = .ok (.iaload, 1) := by decide +kernel
theorem d_L_1425 : decode code 1425 = .ok (.aload_n 0, 1) := by decide +kernel
theorem d_L_1426 : decode code 1426 = .ok (.iload 4, 2) := by decide +kernel
theorem d_L_1428 : decode code 1428 = .ok (.iconst 2, 1) := by decide +kernel
theorem d_L_1429 : decode code 1429 = .ok (.iadd, 1) := by decide +kernel
theorem d_L_1430 : decode code 1430 = .ok (.iaload, 1) := by decide +kernel
theorem d_L_1431 : decode code 1431 = .ok (.invokevirtual 186, 3) := by decide +kernel
theorem d_L_1434 : decode code 1434 = .ok (.if_icmp .eq 86, 3) := by decide +kernel
theorem d_L_1437 : decode code 1437 = .ok (.iconst 0, 1) := by decide +kernel
theorem d_L_1438 : decode code 1438 = .ok (.ireturn, 1) := by decide +kernel
theorem d_L_1439 : decode code 1439 = .ok (.aload_n 1, 1) := by decide +kernel
theorem d_L_1440 : decode code 1440 = .ok (.aload_n 0, 1) := by decide +kernel
theorem d_L_1441 : decode code 1441 = .ok (.iload 4, 2) := by decide +kernel
theorem d_L_1443 : decode code 1443 = .ok (.iconst 1, 1) := by decide +kernel
theorem d_L_1444 : decode code 1444 = .ok (.iadd, 1) := by decide +kernel
theorem d_L_1445 : decode code 1445 = .ok (.iaload, 1) := by decide +kernel
theorem d_L_1446 : decode code 1446 = .ok (.aload_n 3, 1) := by decide +kernel
theorem d_L_1447 : decode code 1447 = .ok (.invokestatic 187, 3) := by decide +kernel
theorem d_L_1450 : decode code 1450 = .ok (.istore 5, 2) := by decide +kernel
theorem d_L_1452 : decode code 1452 = .ok (.aload_n 2, 1) := by decide +kernel
theorem d_L_1453 : decode code 1453 = .ok (.aload_n 0, 1) := by decide +kernel
theorem d_L_1454 : decode code 1454 = .ok (.iload 4, 2) := by decide +kernel
theorem d_L_1456 : decode code 1456 = .ok (.iconst 1, 1) := by decide +kernel
theorem d_L_1457 : decode code 1457 = .ok (.iadd, 1) := by decide +kernel
theorem d_L_1458 : decode code 1458 = .ok (.iaload, 1) := by decide +kernel
theorem d_L_1459 : decode code 1459 = .ok (.invokevirtual 190, 3) := by decide +kernel
theorem d_L_1462 : decode code 1462 = .ok (.istore 6, 2) := by decide +kernel
theorem d_L_1464 : decode code 1464 = .ok (.aload_n 2, 1) := by decide +kernel
theorem d_L_1465 : decode code 1465 = .ok (.invokevirtual 66, 3) := by decide +kernel
theorem d_L_1468 : decode code 1468 = .ok (.iload 5, 2) := by decide +kernel
theorem d_L_1470 : decode code 1470 = .ok (.if_icmp .eq 5, 3) := by decide +kernel
theorem d_L_1473 : decode code 1473 = .ok (.iconst 0, 1) := by decide +kernel
theorem d_L_1474 : decode code 1474 = .ok (.ireturn, 1) := by decide +kernel
theorem d_L_1475 : decode code 1475 = .ok (.iload 5, 2) := by decide +kernel
theorem d_L_1477 : decode code 1477 = .ok (.ifCond .ne 15, 3) := by decide +kernel
theorem d_L_1480 : decode code 1480 = .ok (.aload_n 3, 1) := by decide +kernel
theorem d_L_1481 : decode code 1481 = .ok (.iconst 0, 1) := by decide +kernel
theorem d_L_1482 : decode code 1482 = .ok (.laload, 1) := by decide +kernel
theorem d_L_1483 : decode code 1483 = .ok (.iload 6, 2) := by decide +kernel
theorem d_L_1485 : decode code 1485 = .ok (.i2l, 1) := by decide +kernel
theorem d_L_1486 : decode code 1486 = .ok (.lcmp, 1) := by decide +kernel
theorem d_L_1487 : decode code 1487 = .ok (.ifCond .eq 5, 3) := by decide +kernel
theorem d_L_1490 : decode code 1490 = .ok (.iconst 0, 1) := by decide +kernel
theorem d_L_1491 : decode code 1491 = .ok (.ireturn, 1) := by decide +kernel
theorem d_L_1492 : decode code 1492 = .ok (.goto 28, 3) := by decide +kernel
theorem d_L_1495 : decode code 1495 = .ok (.aload_n 1, 1) := by decide +kernel
theorem d_L_1496 : decode code 1496 = .ok (.aload_n 0, 1) := by decide +kernel
theorem d_L_1497 : decode code 1497 = .ok (.iload 4, 2) := by decide +kernel
theorem d_L_1499 : decode code 1499 = .ok (.iconst 1, 1) := by decide +kernel
theorem d_L_1500 : decode code 1500 = .ok (.iadd, 1) := by decide +kernel
theorem d_L_1501 : decode code 1501 = .ok (.iaload, 1) := by decide +kernel
theorem d_L_1502 : decode code 1502 = .ok (.invokevirtual 191, 3) := by decide +kernel
theorem d_L_1505 : decode code 1505 = .ok (.aload_n 2, 1) := by decide +kernel
theorem d_L_1506 : decode code 1506 = .ok (.aload_n 0, 1) := by decide +kernel
theorem d_L_1507 : decode code 1507 = .ok (.iload 4, 2) := by decide +kernel
theorem d_L_1509 : decode code 1509 = .ok (.iconst 1, 1) := by decide +kernel
theorem d_L_1510 : decode code 1510 = .ok (.iadd, 1) := by decide +kernel
theorem d_L_1511 : decode code 1511 = .ok (.iaload, 1) := by decide +kernel
theorem d_L_1512 : decode code 1512 = .ok (.invokevirtual 194, 3) := by decide +kernel
theorem d_L_1515 : decode code 1515 = .ok (.if_icmp .eq 5, 3) := by decide +kernel
theorem d_L_1518 : decode code 1518 = .ok (.iconst 0, 1) := by decide +kernel
theorem d_L_1519 : decode code 1519 = .ok (.ireturn, 1) := by decide +kernel
theorem d_L_1520 : decode code 1520 = .ok (.iinc 4 6, 3) := by decide +kernel
theorem d_L_1523 : decode code 1523 = .ok (.goto (-1500), 3) := by decide +kernel
theorem d_L_1526 : decode code 1526 = .ok (.iconst 1, 1) := by decide +kernel
theorem d_L_1527 : decode code 1527 = .ok (.ireturn, 1) := by decide +kernel
