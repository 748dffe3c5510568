theorem mw_67 : Cond.code yX0_init cX0_init 2 none ∈ tw := tw_in 67 (by decide +kernel) rfl
theorem mw_368 : Cond.code yX1_init cX1_init 2 none ∈ tw := tw_in 368 (by decide +kernel) rfl
theorem mw_121 : Cond.methodLink RL 13 yX0_read ∈ tw := tw_in 121 (by decide +kernel) rfl
theorem mw_122 : Cond.instanceMethod yX0_read ∈ tw := tw_in 122 (by decide +kernel) rfl
theorem mw_123 : Cond.selects RX0 yX0_read yX0_read ∈ tw := tw_in 123 (by decide +kernel) rfl
theorem mw_124 : Cond.code yX0_read cX0_read 3 (some .int) ∈ tw := tw_in 124 (by decide +kernel) rfl
theorem mw_423 : Cond.methodLink RL 17 yX1_read ∈ tw := tw_in 423 (by decide +kernel) rfl
theorem mw_424 : Cond.instanceMethod yX1_read ∈ tw := tw_in 424 (by decide +kernel) rfl
theorem mw_425 : Cond.selects RX1 yX1_read yX1_read ∈ tw := tw_in 425 (by decide +kernel) rfl
theorem mw_426 : Cond.code yX1_read cX1_read 4 (some .int) ∈ tw := tw_in 426 (by decide +kernel) rfl
theorem mw_146 : Cond.methodLink RL 18 yX0_write ∈ tw := tw_in 146 (by decide +kernel) rfl
theorem mw_147 : Cond.instanceMethod yX0_write ∈ tw := tw_in 147 (by decide +kernel) rfl
theorem mw_148 : Cond.selects RX0 yX0_write yX0_write ∈ tw := tw_in 148 (by decide +kernel) rfl
theorem mw_149 : Cond.code yX0_write cX0_write 5 (some .int) ∈ tw := tw_in 149 (by decide +kernel) rfl
theorem mw_433 : Cond.methodLink RL 22 yX1_write ∈ tw := tw_in 433 (by decide +kernel) rfl
theorem mw_434 : Cond.instanceMethod yX1_write ∈ tw := tw_in 434 (by decide +kernel) rfl
theorem mw_435 : Cond.selects RX1 yX1_write yX1_write ∈ tw := tw_in 435 (by decide +kernel) rfl
theorem mw_436 : Cond.code yX1_write cX1_write 6 (some .int) ∈ tw := tw_in 436 (by decide +kernel) rfl
theorem mw_234 : Cond.methodLink RL 23 yX0_cut ∈ tw := tw_in 234 (by decide +kernel) rfl
theorem mw_235 : Cond.instanceMethod yX0_cut ∈ tw := tw_in 235 (by decide +kernel) rfl
theorem mw_236 : Cond.selects RX0 yX0_cut yX0_cut ∈ tw := tw_in 236 (by decide +kernel) rfl
theorem mw_237 : Cond.code yX0_cut cX0_cut 4 (some .int) ∈ tw := tw_in 237 (by decide +kernel) rfl
theorem mw_477 : Cond.methodLink RL 26 yX1_cut ∈ tw := tw_in 477 (by decide +kernel) rfl
theorem mw_478 : Cond.instanceMethod yX1_cut ∈ tw := tw_in 478 (by decide +kernel) rfl
theorem mw_479 : Cond.selects RX1 yX1_cut yX1_cut ∈ tw := tw_in 479 (by decide +kernel) rfl
theorem mw_480 : Cond.code yX1_cut cX1_cut 4 (some .int) ∈ tw := tw_in 480 (by decide +kernel) rfl
theorem mw_250 : Cond.methodLink RL 27 yX0_punch ∈ tw := tw_in 250 (by decide +kernel) rfl
theorem mw_251 : Cond.instanceMethod yX0_punch ∈ tw := tw_in 251 (by decide +kernel) rfl
theorem mw_252 : Cond.selects RX0 yX0_punch yX0_punch ∈ tw := tw_in 252 (by decide +kernel) rfl
theorem mw_253 : Cond.code yX0_punch cX0_punch 5 (some .int) ∈ tw := tw_in 253 (by decide +kernel) rfl
theorem mw_493 : Cond.methodLink RL 31 yX1_punch ∈ tw := tw_in 493 (by decide +kernel) rfl
theorem mw_494 : Cond.instanceMethod yX1_punch ∈ tw := tw_in 494 (by decide +kernel) rfl
theorem mw_495 : Cond.selects RX1 yX1_punch yX1_punch ∈ tw := tw_in 495 (by decide +kernel) rfl
theorem mw_496 : Cond.code yX1_punch cX1_punch 5 (some .int) ∈ tw := tw_in 496 (by decide +kernel) rfl
theorem mw_254 : Cond.methodLink RL 32 yX0_collapse ∈ tw := tw_in 254 (by decide +kernel) rfl
theorem mw_255 : Cond.instanceMethod yX0_collapse ∈ tw := tw_in 255 (by decide +kernel) rfl
theorem mw_256 : Cond.selects RX0 yX0_collapse yX0_collapse ∈ tw := tw_in 256 (by decide +kernel) rfl
theorem mw_257 : Cond.code yX0_collapse cX0_collapse 5 (some .int) ∈ tw := tw_in 257 (by decide +kernel) rfl
theorem mw_497 : Cond.methodLink RL 35 yX1_collapse ∈ tw := tw_in 497 (by decide +kernel) rfl
theorem mw_498 : Cond.instanceMethod yX1_collapse ∈ tw := tw_in 498 (by decide +kernel) rfl
theorem mw_499 : Cond.selects RX1 yX1_collapse yX1_collapse ∈ tw := tw_in 499 (by decide +kernel) rfl
theorem mw_500 : Cond.code yX1_collapse cX1_collapse 5 (some .int) ∈ tw := tw_in 500 (by decide +kernel) rfl
theorem mw_261 : Cond.methodLink RL 36 yX0_insert ∈ tw := tw_in 261 (by decide +kernel) rfl
theorem mw_262 : Cond.instanceMethod yX0_insert ∈ tw := tw_in 262 (by decide +kernel) rfl
theorem mw_263 : Cond.selects RX0 yX0_insert yX0_insert ∈ tw := tw_in 263 (by decide +kernel) rfl
theorem mw_264 : Cond.code yX0_insert cX0_insert 5 (some .int) ∈ tw := tw_in 264 (by decide +kernel) rfl
theorem mw_504 : Cond.methodLink RL 39 yX1_insert ∈ tw := tw_in 504 (by decide +kernel) rfl
theorem mw_505 : Cond.instanceMethod yX1_insert ∈ tw := tw_in 505 (by decide +kernel) rfl
theorem mw_506 : Cond.selects RX1 yX1_insert yX1_insert ∈ tw := tw_in 506 (by decide +kernel) rfl
theorem mw_507 : Cond.code yX1_insert cX1_insert 5 (some .int) ∈ tw := tw_in 507 (by decide +kernel) rfl
theorem mw_265 : Cond.methodLink RL 40 yX0_share ∈ tw := tw_in 265 (by decide +kernel) rfl
theorem mw_266 : Cond.instanceMethod yX0_share ∈ tw := tw_in 266 (by decide +kernel) rfl
theorem mw_267 : Cond.selects RX0 yX0_share yX0_share ∈ tw := tw_in 267 (by decide +kernel) rfl
theorem mw_268 : Cond.code yX0_share cX0_share 7 (some .int) ∈ tw := tw_in 268 (by decide +kernel) rfl
theorem mw_508 : Cond.methodLink RL 44 yX1_share ∈ tw := tw_in 508 (by decide +kernel) rfl
theorem mw_509 : Cond.instanceMethod yX1_share ∈ tw := tw_in 509 (by decide +kernel) rfl
theorem mw_510 : Cond.selects RX1 yX1_share yX1_share ∈ tw := tw_in 510 (by decide +kernel) rfl
theorem mw_511 : Cond.code yX1_share cX1_share 7 (some .int) ∈ tw := tw_in 511 (by decide +kernel) rfl
theorem mw_276 : Cond.methodLink RL 45 yX0_unshare ∈ tw := tw_in 276 (by decide +kernel) rfl
theorem mw_277 : Cond.instanceMethod yX0_unshare ∈ tw := tw_in 277 (by decide +kernel) rfl
theorem mw_278 : Cond.selects RX0 yX0_unshare yX0_unshare ∈ tw := tw_in 278 (by decide +kernel) rfl
theorem mw_279 : Cond.code yX0_unshare cX0_unshare 4 (some .int) ∈ tw := tw_in 279 (by decide +kernel) rfl
theorem mw_518 : Cond.methodLink RL 48 yX1_unshare ∈ tw := tw_in 518 (by decide +kernel) rfl
theorem mw_519 : Cond.instanceMethod yX1_unshare ∈ tw := tw_in 519 (by decide +kernel) rfl
theorem mw_520 : Cond.selects RX1 yX1_unshare yX1_unshare ∈ tw := tw_in 520 (by decide +kernel) rfl
theorem mw_521 : Cond.code yX1_unshare cX1_unshare 5 (some .int) ∈ tw := tw_in 521 (by decide +kernel) rfl
theorem mw_280 : Cond.methodLink RL 49 yX0_failure ∈ tw := tw_in 280 (by decide +kernel) rfl
theorem mw_281 : Cond.instanceMethod yX0_failure ∈ tw := tw_in 281 (by decide +kernel) rfl
theorem mw_282 : Cond.selects RX0 yX0_failure yX0_failure ∈ tw := tw_in 282 (by decide +kernel) rfl
theorem mw_283 : Cond.code yX0_failure cX0_failure 3 (some .int) ∈ tw := tw_in 283 (by decide +kernel) rfl
theorem mw_522 : Cond.methodLink RL 53 yX1_failure ∈ tw := tw_in 522 (by decide +kernel) rfl
theorem mw_523 : Cond.instanceMethod yX1_failure ∈ tw := tw_in 523 (by decide +kernel) rfl
theorem mw_524 : Cond.selects RX1 yX1_failure yX1_failure ∈ tw := tw_in 524 (by decide +kernel) rfl
theorem mw_525 : Cond.code yX1_failure cX1_failure 3 (some .int) ∈ tw := tw_in 525 (by decide +kernel) rfl
theorem mw_284 : Cond.methodLink RL 54 yX0_exchange ∈ tw := tw_in 284 (by decide +kernel) rfl
theorem mw_285 : Cond.instanceMethod yX0_exchange ∈ tw := tw_in 285 (by decide +kernel) rfl
theorem mw_286 : Cond.selects RX0 yX0_exchange yX0_exchange ∈ tw := tw_in 286 (by decide +kernel) rfl
theorem mw_287 : Cond.code yX0_exchange cX0_exchange 6 (some .int) ∈ tw := tw_in 287 (by decide +kernel) rfl
theorem mw_526 : Cond.methodLink RL 57 yX1_exchange ∈ tw := tw_in 526 (by decide +kernel) rfl
theorem mw_527 : Cond.instanceMethod yX1_exchange ∈ tw := tw_in 527 (by decide +kernel) rfl
theorem mw_528 : Cond.selects RX1 yX1_exchange yX1_exchange ∈ tw := tw_in 528 (by decide +kernel) rfl
theorem mw_529 : Cond.code yX1_exchange cX1_exchange 7 (some .int) ∈ tw := tw_in 529 (by decide +kernel) rfl
theorem mw_296 : Cond.methodLink RL 58 yX0_mount ∈ tw := tw_in 296 (by decide +kernel) rfl
theorem mw_297 : Cond.instanceMethod yX0_mount ∈ tw := tw_in 297 (by decide +kernel) rfl
theorem mw_298 : Cond.selects RX0 yX0_mount yX0_mount ∈ tw := tw_in 298 (by decide +kernel) rfl
theorem mw_299 : Cond.code yX0_mount cX0_mount 4 (some .int) ∈ tw := tw_in 299 (by decide +kernel) rfl
theorem mw_534 : Cond.methodLink RL 62 yX1_mount ∈ tw := tw_in 534 (by decide +kernel) rfl
theorem mw_535 : Cond.instanceMethod yX1_mount ∈ tw := tw_in 535 (by decide +kernel) rfl
theorem mw_536 : Cond.selects RX1 yX1_mount yX1_mount ∈ tw := tw_in 536 (by decide +kernel) rfl
theorem mw_537 : Cond.code yX1_mount cX1_mount 5 (some .int) ∈ tw := tw_in 537 (by decide +kernel) rfl
theorem mw_300 : Cond.methodLink RL 63 yX0_ofFile ∈ tw := tw_in 300 (by decide +kernel) rfl
theorem mw_301 : Cond.instanceMethod yX0_ofFile ∈ tw := tw_in 301 (by decide +kernel) rfl
theorem mw_302 : Cond.selects RX0 yX0_ofFile yX0_ofFile ∈ tw := tw_in 302 (by decide +kernel) rfl
theorem mw_303 : Cond.code yX0_ofFile cX0_ofFile 3 (some .int) ∈ tw := tw_in 303 (by decide +kernel) rfl
theorem mw_538 : Cond.methodLink RL 66 yX1_ofFile ∈ tw := tw_in 538 (by decide +kernel) rfl
theorem mw_539 : Cond.instanceMethod yX1_ofFile ∈ tw := tw_in 539 (by decide +kernel) rfl
theorem mw_540 : Cond.selects RX1 yX1_ofFile yX1_ofFile ∈ tw := tw_in 540 (by decide +kernel) rfl
theorem mw_541 : Cond.code yX1_ofFile cX1_ofFile 3 (some .int) ∈ tw := tw_in 541 (by decide +kernel) rfl
theorem mw_320 : Cond.methodLink RL 67 yX0_block ∈ tw := tw_in 320 (by decide +kernel) rfl
theorem mw_321 : Cond.instanceMethod yX0_block ∈ tw := tw_in 321 (by decide +kernel) rfl
theorem mw_322 : Cond.selects RX0 yX0_block yX0_block ∈ tw := tw_in 322 (by decide +kernel) rfl
theorem mw_323 : Cond.code yX0_block cX0_block 3 (some .int) ∈ tw := tw_in 323 (by decide +kernel) rfl
theorem mw_558 : Cond.methodLink RL 70 yX1_block ∈ tw := tw_in 558 (by decide +kernel) rfl
theorem mw_559 : Cond.instanceMethod yX1_block ∈ tw := tw_in 559 (by decide +kernel) rfl
theorem mw_560 : Cond.selects RX1 yX1_block yX1_block ∈ tw := tw_in 560 (by decide +kernel) rfl
theorem mw_561 : Cond.code yX1_block cX1_block 3 (some .int) ∈ tw := tw_in 561 (by decide +kernel) rfl
theorem mw_324 : Cond.methodLink RL 71 yX0_piece ∈ tw := tw_in 324 (by decide +kernel) rfl
theorem mw_325 : Cond.instanceMethod yX0_piece ∈ tw := tw_in 325 (by decide +kernel) rfl
theorem mw_326 : Cond.selects RX0 yX0_piece yX0_piece ∈ tw := tw_in 326 (by decide +kernel) rfl
theorem mw_327 : Cond.code yX0_piece cX0_piece 5 (some .int) ∈ tw := tw_in 327 (by decide +kernel) rfl
theorem mw_562 : Cond.methodLink RL 74 yX1_piece ∈ tw := tw_in 562 (by decide +kernel) rfl
theorem mw_563 : Cond.instanceMethod yX1_piece ∈ tw := tw_in 563 (by decide +kernel) rfl
theorem mw_564 : Cond.selects RX1 yX1_piece yX1_piece ∈ tw := tw_in 564 (by decide +kernel) rfl
theorem mw_565 : Cond.code yX1_piece cX1_piece 6 (some .int) ∈ tw := tw_in 565 (by decide +kernel) rfl
theorem mw_336 : Cond.methodLink RL 75 yX0_seek ∈ tw := tw_in 336 (by decide +kernel) rfl
theorem mw_337 : Cond.instanceMethod yX0_seek ∈ tw := tw_in 337 (by decide +kernel) rfl
theorem mw_338 : Cond.selects RX0 yX0_seek yX0_seek ∈ tw := tw_in 338 (by decide +kernel) rfl
theorem mw_339 : Cond.code yX0_seek cX0_seek 5 (some .int) ∈ tw := tw_in 339 (by decide +kernel) rfl
theorem mw_570 : Cond.methodLink RL 79 yX1_seek ∈ tw := tw_in 570 (by decide +kernel) rfl
theorem mw_571 : Cond.instanceMethod yX1_seek ∈ tw := tw_in 571 (by decide +kernel) rfl
theorem mw_572 : Cond.selects RX1 yX1_seek yX1_seek ∈ tw := tw_in 572 (by decide +kernel) rfl
theorem mw_573 : Cond.code yX1_seek cX1_seek 5 (some .int) ∈ tw := tw_in 573 (by decide +kernel) rfl
theorem mw_340 : Cond.methodLink RL 80 yX0_count ∈ tw := tw_in 340 (by decide +kernel) rfl
theorem mw_341 : Cond.instanceMethod yX0_count ∈ tw := tw_in 341 (by decide +kernel) rfl
theorem mw_342 : Cond.selects RX0 yX0_count yX0_count ∈ tw := tw_in 342 (by decide +kernel) rfl
theorem mw_343 : Cond.code yX0_count cX0_count 2 (some .int) ∈ tw := tw_in 343 (by decide +kernel) rfl
theorem mw_574 : Cond.methodLink RL 83 yX1_count ∈ tw := tw_in 574 (by decide +kernel) rfl
theorem mw_575 : Cond.instanceMethod yX1_count ∈ tw := tw_in 575 (by decide +kernel) rfl
theorem mw_576 : Cond.selects RX1 yX1_count yX1_count ∈ tw := tw_in 576 (by decide +kernel) rfl
theorem mw_577 : Cond.code yX1_count cX1_count 2 (some .int) ∈ tw := tw_in 577 (by decide +kernel) rfl
theorem mw_344 : Cond.methodLink RL 84 yX0_range ∈ tw := tw_in 344 (by decide +kernel) rfl
theorem mw_345 : Cond.instanceMethod yX0_range ∈ tw := tw_in 345 (by decide +kernel) rfl
theorem mw_346 : Cond.selects RX0 yX0_range yX0_range ∈ tw := tw_in 346 (by decide +kernel) rfl
theorem mw_347 : Cond.code yX0_range cX0_range 4 (some .int) ∈ tw := tw_in 347 (by decide +kernel) rfl
theorem mw_578 : Cond.methodLink RL 87 yX1_range ∈ tw := tw_in 578 (by decide +kernel) rfl
theorem mw_579 : Cond.instanceMethod yX1_range ∈ tw := tw_in 579 (by decide +kernel) rfl
theorem mw_580 : Cond.selects RX1 yX1_range yX1_range ∈ tw := tw_in 580 (by decide +kernel) rfl
theorem mw_581 : Cond.code yX1_range cX1_range 5 (some .int) ∈ tw := tw_in 581 (by decide +kernel) rfl
theorem mw_352 : Cond.methodLink RL 88 yX0_many ∈ tw := tw_in 352 (by decide +kernel) rfl
theorem mw_353 : Cond.instanceMethod yX0_many ∈ tw := tw_in 353 (by decide +kernel) rfl
theorem mw_354 : Cond.selects RX0 yX0_many yX0_many ∈ tw := tw_in 354 (by decide +kernel) rfl
theorem mw_355 : Cond.code yX0_many cX0_many 2 (some .int) ∈ tw := tw_in 355 (by decide +kernel) rfl
theorem mw_590 : Cond.methodLink RL 91 yX1_many ∈ tw := tw_in 590 (by decide +kernel) rfl
theorem mw_591 : Cond.instanceMethod yX1_many ∈ tw := tw_in 591 (by decide +kernel) rfl
theorem mw_592 : Cond.selects RX1 yX1_many yX1_many ∈ tw := tw_in 592 (by decide +kernel) rfl
theorem mw_593 : Cond.code yX1_many cX1_many 2 (some .int) ∈ tw := tw_in 593 (by decide +kernel) rfl
theorem mw_64 : Cond.instantiable RX0 16 ∈ tw := tw_in 64 (by decide +kernel) rfl
theorem mw_365 : Cond.instantiable RX1 17 ∈ tw := tw_in 365 (by decide +kernel) rfl
theorem mw_63 : Cond.classLink RL 7 RX0 ∈ tw := tw_in 63 (by decide +kernel) rfl
theorem mw_65 : Cond.methodLink RL 9 yX0_init ∈ tw := tw_in 65 (by decide +kernel) rfl
theorem mw_66 : Cond.instanceMethod yX0_init ∈ tw := tw_in 66 (by decide +kernel) rfl
theorem mw_364 : Cond.classLink RL 10 RX1 ∈ tw := tw_in 364 (by decide +kernel) rfl
theorem mw_366 : Cond.methodLink RL 12 yX1_init ∈ tw := tw_in 366 (by decide +kernel) rfl
theorem mw_367 : Cond.instanceMethod yX1_init ∈ tw := tw_in 367 (by decide +kernel) rfl
/-! THE CLAIM OUT OF ONE WALK OF THE LAW'S BODY. Your part is whole_start (and what it stands on); all else here is the same for every law, but numbers. -/
def R_law : String := "CutFilesLaw"
def lw_P (b : Addr) (xs : List Int32) (args : Array Value) (s : State) : Prop := args = #[.ref b] ∧ s.IntsAt b xs ∧ xs.length ≤ 3072 ∧ (Jvm.Cond.and given_1 narrow_1).before args s = true
def lw_Q (_ : Array Value) (s : State) (o : Outcome) (t : State) : Prop := o = .returned (some (.int 1)) ∧ Framed s o t [] 14 833
def lw_Z (below : List Frame) (a : Array Value) (s : State) : State → Prop := fun t => ∃ o, t.status = .running ∧ Ended t below o ∧ lw_Q a s o t
/-- the law's own end, with 1 on the stack, nothing written that was there before, its room as the claim has it -/
theorem lw_ret {p : Program} {l : Launch} {e : Env} {s : State} {m : MethodId} {below : List Frame} {meth : Method} {c : Code} {b : Nat} (hx : p.tables.exec = Jvm.exec) (hb : c.code = code) (hr : meth.sig.returnType = ret) (hlocks : meth.locks = false) {pc : Nat} {H : Heap} {ls : Array Slot} (hdg : decode code pc = .ok (.ireturn, 1)) : W p l e room_1 s m #[Value.ref b] below meth c H [] 14 833 (lw_Z below #[Value.ref b] s) (F0 m pc ls [.int 1]) := by
  intro T hT X
  obtain ⟨fs, hret, hrun, hended, hW, hframe⟩ := X.leave (v := some (.int 1)) (hlocks := hlocks) (fun h => by rw [hr] at h; cases h)
  have hmeth' : T.vm.method? m = some meth := X.method'
  refine ⟨T.setFrames fs, ?_, .returned (some (.int 1)), hrun, hended, rfl, ⟨_, rfl⟩, hW, hframe⟩
  jvm_step X.here [X.here.top, hx, hb, hdg, hmeth', hr, ret, narrow_b1]
  (try refine ⟨rfl, ?_⟩); (try refine ⟨rfl, ?_⟩)
  first | (intro acts; rw [hret _ acts rfl rfl rfl]) | rw [hret _ _ rfl rfl rfl]
  exact Steps.refl _
/-- what holds at the law's entry: the machine, the code, the tables' words (any of lw_tbl by 'hts w (by decide +kernel)'), the script of L ints xs at the cell b, what the Statement gives of the start (any of its parts by flat_of_before) -/
def lw_At (p : Program) (s : State) (m : MethodId) (meth : Method) (c : Code) (b L : Nat) (xs : Nat → Int32) : Prop :=
  p.tables.exec = Jvm.exec ∧ c.code = code ∧ meth.sig.returnType = ret ∧ c.maxLocals = 4 ∧ s.vm.findClass R_law = some m.cls ∧ (∀ w ∈ lw_tbl, w.before #[Value.ref b] s = true) ∧ va_X b L xs s s.heap ∧ b < s.heap.size ∧ meth.locks = false ∧ (Jvm.Cond.and given_1 narrow_1).before #[Value.ref b] s = true
theorem gL_X0_init : GoodIn tw (.code yX0_init cX0_init 2 none :: tw) := fun w h => (List.mem_cons.mp h).elim (fun q => by rw [q]; exact gL_all _ mw_67) (gL_all w)
theorem gL_X1_init : GoodIn tw (.code yX1_init cX1_init 2 none :: tw) := fun w h => (List.mem_cons.mp h).elim (fun q => by rw [q]; exact gL_all _ mw_368) (gL_all w)
theorem gL_X0_read : GoodIn tw (wsV RL 13 RX0 yX0_read (.code yX0_read cX0_read 3 (some .int) :: tw)) := gV_mk mw_121 mw_122 mw_123 mw_60 mw_124
theorem gL_X1_read : GoodIn tw (wsV RL 17 RX1 yX1_read (.code yX1_read cX1_read 4 (some .int) :: tw)) := gV_mk mw_423 mw_424 mw_425 mw_61 mw_426
theorem gL_X0_write : GoodIn tw (wsV RL 18 RX0 yX0_write (.code yX0_write cX0_write 5 (some .int) :: tw)) := gV_mk mw_146 mw_147 mw_148 mw_60 mw_149
theorem gL_X1_write : GoodIn tw (wsV RL 22 RX1 yX1_write (.code yX1_write cX1_write 6 (some .int) :: tw)) := gV_mk mw_433 mw_434 mw_435 mw_61 mw_436
theorem gL_X0_cut : GoodIn tw (wsV RL 23 RX0 yX0_cut (.code yX0_cut cX0_cut 4 (some .int) :: tw)) := gV_mk mw_234 mw_235 mw_236 mw_60 mw_237
theorem gL_X1_cut : GoodIn tw (wsV RL 26 RX1 yX1_cut (.code yX1_cut cX1_cut 4 (some .int) :: tw)) := gV_mk mw_477 mw_478 mw_479 mw_61 mw_480
theorem gL_X0_punch : GoodIn tw (wsV RL 27 RX0 yX0_punch (.code yX0_punch cX0_punch 5 (some .int) :: tw)) := gV_mk mw_250 mw_251 mw_252 mw_60 mw_253
theorem gL_X1_punch : GoodIn tw (wsV RL 31 RX1 yX1_punch (.code yX1_punch cX1_punch 5 (some .int) :: tw)) := gV_mk mw_493 mw_494 mw_495 mw_61 mw_496
theorem gL_X0_collapse : GoodIn tw (wsV RL 32 RX0 yX0_collapse (.code yX0_collapse cX0_collapse 5 (some .int) :: tw)) := gV_mk mw_254 mw_255 mw_256 mw_60 mw_257
theorem gL_X1_collapse : GoodIn tw (wsV RL 35 RX1 yX1_collapse (.code yX1_collapse cX1_collapse 5 (some .int) :: tw)) := gV_mk mw_497 mw_498 mw_499 mw_61 mw_500
theorem gL_X0_insert : GoodIn tw (wsV RL 36 RX0 yX0_insert (.code yX0_insert cX0_insert 5 (some .int) :: tw)) := gV_mk mw_261 mw_262 mw_263 mw_60 mw_264
theorem gL_X1_insert : GoodIn tw (wsV RL 39 RX1 yX1_insert (.code yX1_insert cX1_insert 5 (some .int) :: tw)) := gV_mk mw_504 mw_505 mw_506 mw_61 mw_507
theorem gL_X0_share : GoodIn tw (wsV RL 40 RX0 yX0_share (.code yX0_share cX0_share 7 (some .int) :: tw)) := gV_mk mw_265 mw_266 mw_267 mw_60 mw_268
theorem gL_X1_share : GoodIn tw (wsV RL 44 RX1 yX1_share (.code yX1_share cX1_share 7 (some .int) :: tw)) := gV_mk mw_508 mw_509 mw_510 mw_61 mw_511
theorem gL_X0_unshare : GoodIn tw (wsV RL 45 RX0 yX0_unshare (.code yX0_unshare cX0_unshare 4 (some .int) :: tw)) := gV_mk mw_276 mw_277 mw_278 mw_60 mw_279
theorem gL_X1_unshare : GoodIn tw (wsV RL 48 RX1 yX1_unshare (.code yX1_unshare cX1_unshare 5 (some .int) :: tw)) := gV_mk mw_518 mw_519 mw_520 mw_61 mw_521
theorem gL_X0_failure : GoodIn tw (wsV RL 49 RX0 yX0_failure (.code yX0_failure cX0_failure 3 (some .int) :: tw)) := gV_mk mw_280 mw_281 mw_282 mw_60 mw_283
theorem gL_X1_failure : GoodIn tw (wsV RL 53 RX1 yX1_failure (.code yX1_failure cX1_failure 3 (some .int) :: tw)) := gV_mk mw_522 mw_523 mw_524 mw_61 mw_525
theorem gL_X0_exchange : GoodIn tw (wsV RL 54 RX0 yX0_exchange (.code yX0_exchange cX0_exchange 6 (some .int) :: tw)) := gV_mk mw_284 mw_285 mw_286 mw_60 mw_287
theorem gL_X1_exchange : GoodIn tw (wsV RL 57 RX1 yX1_exchange (.code yX1_exchange cX1_exchange 7 (some .int) :: tw)) := gV_mk mw_526 mw_527 mw_528 mw_61 mw_529
theorem gL_X0_mount : GoodIn tw (wsV RL 58 RX0 yX0_mount (.code yX0_mount cX0_mount 4 (some .int) :: tw)) := gV_mk mw_296 mw_297 mw_298 mw_60 mw_299
theorem gL_X1_mount : GoodIn tw (wsV RL 62 RX1 yX1_mount (.code yX1_mount cX1_mount 5 (some .int) :: tw)) := gV_mk mw_534 mw_535 mw_536 mw_61 mw_537
theorem gL_X0_ofFile : GoodIn tw (wsV RL 63 RX0 yX0_ofFile (.code yX0_ofFile cX0_ofFile 3 (some .int) :: tw)) := gV_mk mw_300 mw_301 mw_302 mw_60 mw_303
theorem gL_X1_ofFile : GoodIn tw (wsV RL 66 RX1 yX1_ofFile (.code yX1_ofFile cX1_ofFile 3 (some .int) :: tw)) := gV_mk mw_538 mw_539 mw_540 mw_61 mw_541
theorem gL_X0_block : GoodIn tw (wsV RL 67 RX0 yX0_block (.code yX0_block cX0_block 3 (some .int) :: tw)) := gV_mk mw_320 mw_321 mw_322 mw_60 mw_323
theorem gL_X1_block : GoodIn tw (wsV RL 70 RX1 yX1_block (.code yX1_block cX1_block 3 (some .int) :: tw)) := gV_mk mw_558 mw_559 mw_560 mw_61 mw_561
theorem gL_X0_piece : GoodIn tw (wsV RL 71 RX0 yX0_piece (.code yX0_piece cX0_piece 5 (some .int) :: tw)) := gV_mk mw_324 mw_325 mw_326 mw_60 mw_327
theorem gL_X1_piece : GoodIn tw (wsV RL 74 RX1 yX1_piece (.code yX1_piece cX1_piece 6 (some .int) :: tw)) := gV_mk mw_562 mw_563 mw_564 mw_61 mw_565
theorem gL_X0_seek : GoodIn tw (wsV RL 75 RX0 yX0_seek (.code yX0_seek cX0_seek 5 (some .int) :: tw)) := gV_mk mw_336 mw_337 mw_338 mw_60 mw_339
theorem gL_X1_seek : GoodIn tw (wsV RL 79 RX1 yX1_seek (.code yX1_seek cX1_seek 5 (some .int) :: tw)) := gV_mk mw_570 mw_571 mw_572 mw_61 mw_573
theorem gL_X0_count : GoodIn tw (wsV RL 80 RX0 yX0_count (.code yX0_count cX0_count 2 (some .int) :: tw)) := gV_mk mw_340 mw_341 mw_342 mw_60 mw_343
theorem gL_X1_count : GoodIn tw (wsV RL 83 RX1 yX1_count (.code yX1_count cX1_count 2 (some .int) :: tw)) := gV_mk mw_574 mw_575 mw_576 mw_61 mw_577
theorem gL_X0_range : GoodIn tw (wsV RL 84 RX0 yX0_range (.code yX0_range cX0_range 4 (some .int) :: tw)) := gV_mk mw_344 mw_345 mw_346 mw_60 mw_347
theorem gL_X1_range : GoodIn tw (wsV RL 87 RX1 yX1_range (.code yX1_range cX1_range 5 (some .int) :: tw)) := gV_mk mw_578 mw_579 mw_580 mw_61 mw_581
theorem gL_X0_many : GoodIn tw (wsV RL 88 RX0 yX0_many (.code yX0_many cX0_many 2 (some .int) :: tw)) := gV_mk mw_352 mw_353 mw_354 mw_60 mw_355
theorem gL_X1_many : GoodIn tw (wsV RL 91 RX1 yX1_many (.code yX1_many cX1_many 2 (some .int) :: tw)) := gV_mk mw_590 mw_591 mw_592 mw_61 mw_593
set_option maxRecDepth 100000 in
set_option maxHeartbeats 4000000 in
theorem law_0 {p : Program} {l : Launch} {e : Env} {s : State} {m : MethodId} {below : List Frame} {meth : Method} {c : Code} {A : Nat → Prop} {D : va_G} {h0 h1 : Nat} {E E1 : EX} {b L : Nat} {xs : Nat → Int32} (hL : L ≤ 3072) (hX : va_X b L xs s s.heap) (hbl : b < s.heap.size) (hbA : ¬ A b) (C : GC p room_1 s m #[Value.ref b] meth c A D code 4 14 833 (tysX0 E ++ tysX1 E1) RL ret) {j : Nat} (hj : j + 6 ≤ L) {σ τ : SX} (hI : IV σ τ) (kk : ∀ σ τ : SX, IV σ τ → GW p l e room_1 s m #[Value.ref b] below meth c (lw_Z below #[Value.ref b] s) A D 4 14 833 (wX0 h0 E σ ++ wX1 h1 E1 τ) 846 [(0, .ref b), (1, .ref h0), (2, .ref h1), (3, .int (nI j))] []) : GW p l e room_1 s m #[Value.ref b] below meth c (lw_Z below #[Value.ref b] s) A D 4 14 833 (wX0 h0 E σ ++ wX1 h1 E1 τ) 120 [(0, .ref b), (1, .ref h0), (2, .ref h1), (3, .int (nI j))] [] := by
  have vin : ∀ t, t < 6 → vp_in (nI j + nI t) L := fun t ht => by rw [nI_add]; exact vp_in_nI (by omega) (by omega)
  obtain ⟨r, σ', τ', e0, e1, hI'⟩ := T_read hI (xs (nI j + nI 1).toNatClampNeg) (xs (nI j + nI 2).toNatClampNeg)
  refine g_aload_n C dL_law_120 1 rfl ?_
  refine g_aload_n C dL_law_121 0 rfl ?_
  refine g_iload_n C dL_law_122 3 rfl ?_
  refine g_iconst (v := nI 1) C dL_law_123 rfl ?_
  refine g_iadd C dL_law_124 ?_
  refine g_sld C hX hbl hbA (vin 1 (by omega)) dL_law_125 ?_
  refine g_aload_n C dL_law_126 0 rfl ?_
  refine g_iload_n C dL_law_127 3 rfl ?_
  refine g_iconst (v := nI 2) C dL_law_128 rfl ?_
  refine g_iadd C dL_law_129 ?_
  refine g_sld C hX hbl hbA (vin 2 (by omega)) dL_law_130 ?_
  refine l_call0 C (kX0_read l D h0 E _ _ _ _ _ e0) gL_X0_read hn_X0_read rfl (Nat.le_of_ble_eq_true rfl) (Nat.le_of_ble_eq_true rfl) rfl (Nat.le_of_ble_eq_true rfl) dL_law_131 ?_
  refine g_aload_n C dL_law_134 2 rfl ?_
  refine g_aload_n C dL_law_135 0 rfl ?_
  refine g_iload_n C dL_law_136 3 rfl ?_
  refine g_iconst (v := nI 1) C dL_law_137 rfl ?_
  refine g_iadd C dL_law_138 ?_
  refine g_sld C hX hbl hbA (vin 1 (by omega)) dL_law_139 ?_
  refine g_aload_n C dL_law_140 0 rfl ?_
  refine g_iload_n C dL_law_141 3 rfl ?_
  refine g_iconst (v := nI 2) C dL_law_142 rfl ?_
  refine g_iadd C dL_law_143 ?_
  refine g_sld C hX hbl hbA (vin 2 (by omega)) dL_law_144 ?_
  refine l_call1 C (kX1_read l D h1 E1 _ _ _ _ _ e1) gL_X1_read hn_X1_read rfl (Nat.le_of_ble_eq_true rfl) (Nat.le_of_ble_eq_true rfl) rfl (Nat.le_of_ble_eq_true rfl) dL_law_145 ?_
  refine b_icmp_eq (tgt := 846) C dL_law_148 rfl (fun _ => ?_) (fun h => absurd rfl h)
  exact kk σ' τ' hI'
set_option maxRecDepth 100000 in
set_option maxHeartbeats 4000000 in
theorem law_1 {p : Program} {l : Launch} {e : Env} {s : State} {m : MethodId} {below : List Frame} {meth : Method} {c : Code} {A : Nat → Prop} {D : va_G} {h0 h1 : Nat} {E E1 : EX} {b L : Nat} {xs : Nat → Int32} (hL : L ≤ 3072) (hX : va_X b L xs s s.heap) (hbl : b < s.heap.size) (hbA : ¬ A b) (C : GC p room_1 s m #[Value.ref b] meth c A D code 4 14 833 (tysX0 E ++ tysX1 E1) RL ret) {j : Nat} (hj : j + 6 ≤ L) {σ τ : SX} (hI : IV σ τ) (kk : ∀ σ τ : SX, IV σ τ → GW p l e room_1 s m #[Value.ref b] below meth c (lw_Z below #[Value.ref b] s) A D 4 14 833 (wX0 h0 E σ ++ wX1 h1 E1 τ) 846 [(0, .ref b), (1, .ref h0), (2, .ref h1), (3, .int (nI j))] []) : GW p l e room_1 s m #[Value.ref b] below meth c (lw_Z below #[Value.ref b] s) A D 4 14 833 (wX0 h0 E σ ++ wX1 h1 E1 τ) 153 [(0, .ref b), (1, .ref h0), (2, .ref h1), (3, .int (nI j))] [] := by
  have vin : ∀ t, t < 6 → vp_in (nI j + nI t) L := fun t ht => by rw [nI_add]; exact vp_in_nI (by omega) (by omega)
  obtain ⟨r, σ', τ', e0, e1, hI'⟩ := T_write hI (xs (nI j + nI 1).toNatClampNeg) (xs (nI j + nI 2).toNatClampNeg) (xs (nI j + nI 3).toNatClampNeg) (xs (nI j + nI 4).toNatClampNeg)
  refine g_aload_n C dL_law_153 1 rfl ?_
  refine g_aload_n C dL_law_154 0 rfl ?_
  refine g_iload_n C dL_law_155 3 rfl ?_
  refine g_iconst (v := nI 1) C dL_law_156 rfl ?_
  refine g_iadd C dL_law_157 ?_
  refine g_sld C hX hbl hbA (vin 1 (by omega)) dL_law_158 ?_
  refine g_aload_n C dL_law_159 0 rfl ?_
  refine g_iload_n C dL_law_160 3 rfl ?_
  refine g_iconst (v := nI 2) C dL_law_161 rfl ?_
  refine g_iadd C dL_law_162 ?_
  refine g_sld C hX hbl hbA (vin 2 (by omega)) dL_law_163 ?_
  refine g_aload_n C dL_law_164 0 rfl ?_
  refine g_iload_n C dL_law_165 3 rfl ?_
  refine g_iconst (v := nI 3) C dL_law_166 rfl ?_
  refine g_iadd C dL_law_167 ?_
  refine g_sld C hX hbl hbA (vin 3 (by omega)) dL_law_168 ?_
  refine g_aload_n C dL_law_169 0 rfl ?_
  refine g_iload_n C dL_law_170 3 rfl ?_
  refine g_iconst (v := nI 4) C dL_law_171 rfl ?_
  refine g_iadd C dL_law_172 ?_
  refine g_sld C hX hbl hbA (vin 4 (by omega)) dL_law_173 ?_
  refine l_call0 C (kX0_write l D h0 E _ _ _ _ _ _ _ e0) gL_X0_write hn_X0_write rfl (Nat.le_of_ble_eq_true rfl) (Nat.le_of_ble_eq_true rfl) rfl (Nat.le_of_ble_eq_true rfl) dL_law_174 ?_
  refine g_aload_n C dL_law_177 2 rfl ?_
  refine g_aload_n C dL_law_178 0 rfl ?_
  refine g_iload_n C dL_law_179 3 rfl ?_
  refine g_iconst (v := nI 1) C dL_law_180 rfl ?_
  refine g_iadd C dL_law_181 ?_
  refine g_sld C hX hbl hbA (vin 1 (by omega)) dL_law_182 ?_
  refine g_aload_n C dL_law_183 0 rfl ?_
  refine g_iload_n C dL_law_184 3 rfl ?_
  refine g_iconst (v := nI 2) C dL_law_185 rfl ?_
  refine g_iadd C dL_law_186 ?_
  refine g_sld C hX hbl hbA (vin 2 (by omega)) dL_law_187 ?_
  refine g_aload_n C dL_law_188 0 rfl ?_
  refine g_iload_n C dL_law_189 3 rfl ?_
  refine g_iconst (v := nI 3) C dL_law_190 rfl ?_
  refine g_iadd C dL_law_191 ?_
  refine g_sld C hX hbl hbA (vin 3 (by omega)) dL_law_192 ?_
  refine g_aload_n C dL_law_193 0 rfl ?_
  refine g_iload_n C dL_law_194 3 rfl ?_
  refine g_iconst (v := nI 4) C dL_law_195 rfl ?_
  refine g_iadd C dL_law_196 ?_
  refine g_sld C hX hbl hbA (vin 4 (by omega)) dL_law_197 ?_
  refine l_call1 C (kX1_write l D h1 E1 _ _ _ _ _ _ _ e1) gL_X1_write hn_X1_write rfl (Nat.le_of_ble_eq_true rfl) (Nat.le_of_ble_eq_true rfl) rfl (Nat.le_of_ble_eq_true rfl) dL_law_198 ?_
  refine b_icmp_eq (tgt := 846) C dL_law_201 rfl (fun _ => ?_) (fun h => absurd rfl h)
  exact kk σ' τ' hI'
set_option maxRecDepth 100000 in
set_option maxHeartbeats 4000000 in
theorem law_2 {p : Program} {l : Launch} {e : Env} {s : State} {m : MethodId} {below : List Frame} {meth : Method} {c : Code} {A : Nat → Prop} {D : va_G} {h0 h1 : Nat} {E E1 : EX} {b L : Nat} {xs : Nat → Int32} (hL : L ≤ 3072) (hX : va_X b L xs s s.heap) (hbl : b < s.heap.size) (hbA : ¬ A b) (C : GC p room_1 s m #[Value.ref b] meth c A D code 4 14 833 (tysX0 E ++ tysX1 E1) RL ret) {j : Nat} (hj : j + 6 ≤ L) {σ τ : SX} (hI : IV σ τ) (kk : ∀ σ τ : SX, IV σ τ → GW p l e room_1 s m #[Value.ref b] below meth c (lw_Z below #[Value.ref b] s) A D 4 14 833 (wX0 h0 E σ ++ wX1 h1 E1 τ) 846 [(0, .ref b), (1, .ref h0), (2, .ref h1), (3, .int (nI j))] []) : GW p l e room_1 s m #[Value.ref b] below meth c (lw_Z below #[Value.ref b] s) A D 4 14 833 (wX0 h0 E σ ++ wX1 h1 E1 τ) 206 [(0, .ref b), (1, .ref h0), (2, .ref h1), (3, .int (nI j))] [] := by
  have vin : ∀ t, t < 6 → vp_in (nI j + nI t) L := fun t ht => by rw [nI_add]; exact vp_in_nI (by omega) (by omega)
  obtain ⟨r, σ', τ', e0, e1, hI'⟩ := T_cut hI (xs (nI j + nI 1).toNatClampNeg) (xs (nI j + nI 2).toNatClampNeg)
  refine g_aload_n C dL_law_206 1 rfl ?_
  refine g_aload_n C dL_law_207 0 rfl ?_
  refine g_iload_n C dL_law_208 3 rfl ?_
  refine g_iconst (v := nI 1) C dL_law_209 rfl ?_
  refine g_iadd C dL_law_210 ?_
  refine g_sld C hX hbl hbA (vin 1 (by omega)) dL_law_211 ?_
  refine g_aload_n C dL_law_212 0 rfl ?_
  refine g_iload_n C dL_law_213 3 rfl ?_
  refine g_iconst (v := nI 2) C dL_law_214 rfl ?_
  refine g_iadd C dL_law_215 ?_
  refine g_sld C hX hbl hbA (vin 2 (by omega)) dL_law_216 ?_
  refine l_call0 C (kX0_cut l D h0 E _ _ _ _ _ e0) gL_X0_cut hn_X0_cut rfl (Nat.le_of_ble_eq_true rfl) (Nat.le_of_ble_eq_true rfl) rfl (Nat.le_of_ble_eq_true rfl) dL_law_217 ?_
  refine g_aload_n C dL_law_220 2 rfl ?_
  refine g_aload_n C dL_law_221 0 rfl ?_
  refine g_iload_n C dL_law_222 3 rfl ?_
  refine g_iconst (v := nI 1) C dL_law_223 rfl ?_
  refine g_iadd C dL_law_224 ?_
  refine g_sld C hX hbl hbA (vin 1 (by omega)) dL_law_225 ?_
  refine g_aload_n C dL_law_226 0 rfl ?_
  refine g_iload_n C dL_law_227 3 rfl ?_
  refine g_iconst (v := nI 2) C dL_law_228 rfl ?_
  refine g_iadd C dL_law_229 ?_
  refine g_sld C hX hbl hbA (vin 2 (by omega)) dL_law_230 ?_
  refine l_call1 C (kX1_cut l D h1 E1 _ _ _ _ _ e1) gL_X1_cut hn_X1_cut rfl (Nat.le_of_ble_eq_true rfl) (Nat.le_of_ble_eq_true rfl) rfl (Nat.le_of_ble_eq_true rfl) dL_law_231 ?_
  refine b_icmp_eq (tgt := 846) C dL_law_234 rfl (fun _ => ?_) (fun h => absurd rfl h)
  exact kk σ' τ' hI'
set_option maxRecDepth 100000 in
set_option maxHeartbeats 4000000 in
theorem law_3 {p : Program} {l : Launch} {e : Env} {s : State} {m : MethodId} {below : List Frame} {meth : Method} {c : Code} {A : Nat → Prop} {D : va_G} {h0 h1 : Nat} {E E1 : EX} {b L : Nat} {xs : Nat → Int32} (hL : L ≤ 3072) (hX : va_X b L xs s s.heap) (hbl : b < s.heap.size) (hbA : ¬ A b) (C : GC p room_1 s m #[Value.ref b] meth c A D code 4 14 833 (tysX0 E ++ tysX1 E1) RL ret) {j : Nat} (hj : j + 6 ≤ L) {σ τ : SX} (hI : IV σ τ) (kk : ∀ σ τ : SX, IV σ τ → GW p l e room_1 s m #[Value.ref b] below meth c (lw_Z below #[Value.ref b] s) A D 4 14 833 (wX0 h0 E σ ++ wX1 h1 E1 τ) 846 [(0, .ref b), (1, .ref h0), (2, .ref h1), (3, .int (nI j))] []) : GW p l e room_1 s m #[Value.ref b] below meth c (lw_Z below #[Value.ref b] s) A D 4 14 833 (wX0 h0 E σ ++ wX1 h1 E1 τ) 239 [(0, .ref b), (1, .ref h0), (2, .ref h1), (3, .int (nI j))] [] := by
  have vin : ∀ t, t < 6 → vp_in (nI j + nI t) L := fun t ht => by rw [nI_add]; exact vp_in_nI (by omega) (by omega)
  obtain ⟨r, σ', τ', e0, e1, hI'⟩ := T_punch hI (xs (nI j + nI 1).toNatClampNeg) (xs (nI j + nI 2).toNatClampNeg) (xs (nI j + nI 3).toNatClampNeg)
  refine g_aload_n C dL_law_239 1 rfl ?_
  refine g_aload_n C dL_law_240 0 rfl ?_
  refine g_iload_n C dL_law_241 3 rfl ?_
  refine g_iconst (v := nI 1) C dL_law_242 rfl ?_
  refine g_iadd C dL_law_243 ?_
  refine g_sld C hX hbl hbA (vin 1 (by omega)) dL_law_244 ?_
  refine g_aload_n C dL_law_245 0 rfl ?_
  refine g_iload_n C dL_law_246 3 rfl ?_
  refine g_iconst (v := nI 2) C dL_law_247 rfl ?_
  refine g_iadd C dL_law_248 ?_
  refine g_sld C hX hbl hbA (vin 2 (by omega)) dL_law_249 ?_
  refine g_aload_n C dL_law_250 0 rfl ?_
  refine g_iload_n C dL_law_251 3 rfl ?_
  refine g_iconst (v := nI 3) C dL_law_252 rfl ?_
  refine g_iadd C dL_law_253 ?_
  refine g_sld C hX hbl hbA (vin 3 (by omega)) dL_law_254 ?_
  refine l_call0 C (kX0_punch l D h0 E _ _ _ _ _ _ e0) gL_X0_punch hn_X0_punch rfl (Nat.le_of_ble_eq_true rfl) (Nat.le_of_ble_eq_true rfl) rfl (Nat.le_of_ble_eq_true rfl) dL_law_255 ?_
  refine g_aload_n C dL_law_258 2 rfl ?_
  refine g_aload_n C dL_law_259 0 rfl ?_
  refine g_iload_n C dL_law_260 3 rfl ?_
  refine g_iconst (v := nI 1) C dL_law_261 rfl ?_
  refine g_iadd C dL_law_262 ?_
  refine g_sld C hX hbl hbA (vin 1 (by omega)) dL_law_263 ?_
  refine g_aload_n C dL_law_264 0 rfl ?_
  refine g_iload_n C dL_law_265 3 rfl ?_
  refine g_iconst (v := nI 2) C dL_law_266 rfl ?_
  refine g_iadd C dL_law_267 ?_
  refine g_sld C hX hbl hbA (vin 2 (by omega)) dL_law_268 ?_
  refine g_aload_n C dL_law_269 0 rfl ?_
  refine g_iload_n C dL_law_270 3 rfl ?_
  refine g_iconst (v := nI 3) C dL_law_271 rfl ?_
  refine g_iadd C dL_law_272 ?_
  refine g_sld C hX hbl hbA (vin 3 (by omega)) dL_law_273 ?_
  refine l_call1 C (kX1_punch l D h1 E1 _ _ _ _ _ _ e1) gL_X1_punch hn_X1_punch rfl (Nat.le_of_ble_eq_true rfl) (Nat.le_of_ble_eq_true rfl) rfl (Nat.le_of_ble_eq_true rfl) dL_law_274 ?_
  refine b_icmp_eq (tgt := 846) C dL_law_277 rfl (fun _ => ?_) (fun h => absurd rfl h)
  exact kk σ' τ' hI'
set_option maxRecDepth 100000 in
set_option maxHeartbeats 4000000 in
theorem law_4 {p : Program} {l : Launch} {e : Env} {s : State} {m : MethodId} {below : List Frame} {meth : Method} {c : Code} {A : Nat → Prop} {D : va_G} {h0 h1 : Nat} {E E1 : EX} {b L : Nat} {xs : Nat → Int32} (hL : L ≤ 3072) (hX : va_X b L xs s s.heap) (hbl : b < s.heap.size) (hbA : ¬ A b) (C : GC p room_1 s m #[Value.ref b] meth c A D code 4 14 833 (tysX0 E ++ tysX1 E1) RL ret) {j : Nat} (hj : j + 6 ≤ L) {σ τ : SX} (hI : IV σ τ) (kk : ∀ σ τ : SX, IV σ τ → GW p l e room_1 s m #[Value.ref b] below meth c (lw_Z below #[Value.ref b] s) A D 4 14 833 (wX0 h0 E σ ++ wX1 h1 E1 τ) 846 [(0, .ref b), (1, .ref h0), (2, .ref h1), (3, .int (nI j))] []) : GW p l e room_1 s m #[Value.ref b] below meth c (lw_Z below #[Value.ref b] s) A D 4 14 833 (wX0 h0 E σ ++ wX1 h1 E1 τ) 282 [(0, .ref b), (1, .ref h0), (2, .ref h1), (3, .int (nI j))] [] := by
  have vin : ∀ t, t < 6 → vp_in (nI j + nI t) L := fun t ht => by rw [nI_add]; exact vp_in_nI (by omega) (by omega)
  obtain ⟨r, σ', τ', e0, e1, hI'⟩ := T_collapse hI (xs (nI j + nI 1).toNatClampNeg) (xs (nI j + nI 2).toNatClampNeg) (xs (nI j + nI 3).toNatClampNeg)
  refine g_aload_n C dL_law_282 1 rfl ?_
  refine g_aload_n C dL_law_283 0 rfl ?_
  refine g_iload_n C dL_law_284 3 rfl ?_
  refine g_iconst (v := nI 1) C dL_law_285 rfl ?_
  refine g_iadd C dL_law_286 ?_
  refine g_sld C hX hbl hbA (vin 1 (by omega)) dL_law_287 ?_
  refine g_aload_n C dL_law_288 0 rfl ?_
  refine g_iload_n C dL_law_289 3 rfl ?_
  refine g_iconst (v := nI 2) C dL_law_290 rfl ?_
  refine g_iadd C dL_law_291 ?_
  refine g_sld C hX hbl hbA (vin 2 (by omega)) dL_law_292 ?_
  refine g_aload_n C dL_law_293 0 rfl ?_
  refine g_iload_n C dL_law_294 3 rfl ?_
  refine g_iconst (v := nI 3) C dL_law_295 rfl ?_
  refine g_iadd C dL_law_296 ?_
  refine g_sld C hX hbl hbA (vin 3 (by omega)) dL_law_297 ?_
  refine l_call0 C (kX0_collapse l D h0 E _ _ _ _ _ _ e0) gL_X0_collapse hn_X0_collapse rfl (Nat.le_of_ble_eq_true rfl) (Nat.le_of_ble_eq_true rfl) rfl (Nat.le_of_ble_eq_true rfl) dL_law_298 ?_
  refine g_aload_n C dL_law_301 2 rfl ?_
  refine g_aload_n C dL_law_302 0 rfl ?_
  refine g_iload_n C dL_law_303 3 rfl ?_
  refine g_iconst (v := nI 1) C dL_law_304 rfl ?_
  refine g_iadd C dL_law_305 ?_
  refine g_sld C hX hbl hbA (vin 1 (by omega)) dL_law_306 ?_
  refine g_aload_n C dL_law_307 0 rfl ?_
  refine g_iload_n C dL_law_308 3 rfl ?_
  refine g_iconst (v := nI 2) C dL_law_309 rfl ?_
  refine g_iadd C dL_law_310 ?_
  refine g_sld C hX hbl hbA (vin 2 (by omega)) dL_law_311 ?_
  refine g_aload_n C dL_law_312 0 rfl ?_
  refine g_iload_n C dL_law_313 3 rfl ?_
  refine g_iconst (v := nI 3) C dL_law_314 rfl ?_
  refine g_iadd C dL_law_315 ?_
  refine g_sld C hX hbl hbA (vin 3 (by omega)) dL_law_316 ?_
  refine l_call1 C (kX1_collapse l D h1 E1 _ _ _ _ _ _ e1) gL_X1_collapse hn_X1_collapse rfl (Nat.le_of_ble_eq_true rfl) (Nat.le_of_ble_eq_true rfl) rfl (Nat.le_of_ble_eq_true rfl) dL_law_317 ?_
  refine b_icmp_eq (tgt := 846) C dL_law_320 rfl (fun _ => ?_) (fun h => absurd rfl h)
  exact kk σ' τ' hI'
set_option maxRecDepth 100000 in
set_option maxHeartbeats 4000000 in
theorem law_5 {p : Program} {l : Launch} {e : Env} {s : State} {m : MethodId} {below : List Frame} {meth : Method} {c : Code} {A : Nat → Prop} {D : va_G} {h0 h1 : Nat} {E E1 : EX} {b L : Nat} {xs : Nat → Int32} (hL : L ≤ 3072) (hX : va_X b L xs s s.heap) (hbl : b < s.heap.size) (hbA : ¬ A b) (C : GC p room_1 s m #[Value.ref b] meth c A D code 4 14 833 (tysX0 E ++ tysX1 E1) RL ret) {j : Nat} (hj : j + 6 ≤ L) {σ τ : SX} (hI : IV σ τ) (kk : ∀ σ τ : SX, IV σ τ → GW p l e room_1 s m #[Value.ref b] below meth c (lw_Z below #[Value.ref b] s) A D 4 14 833 (wX0 h0 E σ ++ wX1 h1 E1 τ) 846 [(0, .ref b), (1, .ref h0), (2, .ref h1), (3, .int (nI j))] []) : GW p l e room_1 s m #[Value.ref b] below meth c (lw_Z below #[Value.ref b] s) A D 4 14 833 (wX0 h0 E σ ++ wX1 h1 E1 τ) 325 [(0, .ref b), (1, .ref h0), (2, .ref h1), (3, .int (nI j))] [] := by
  have vin : ∀ t, t < 6 → vp_in (nI j + nI t) L := fun t ht => by rw [nI_add]; exact vp_in_nI (by omega) (by omega)
  obtain ⟨r, σ', τ', e0, e1, hI'⟩ := T_insert hI (xs (nI j + nI 1).toNatClampNeg) (xs (nI j + nI 2).toNatClampNeg) (xs (nI j + nI 3).toNatClampNeg)
  refine g_aload_n C dL_law_325 1 rfl ?_
  refine g_aload_n C dL_law_326 0 rfl ?_
  refine g_iload_n C dL_law_327 3 rfl ?_
  refine g_iconst (v := nI 1) C dL_law_328 rfl ?_
  refine g_iadd C dL_law_329 ?_
  refine g_sld C hX hbl hbA (vin 1 (by omega)) dL_law_330 ?_
  refine g_aload_n C dL_law_331 0 rfl ?_
  refine g_iload_n C dL_law_332 3 rfl ?_
  refine g_iconst (v := nI 2) C dL_law_333 rfl ?_
  refine g_iadd C dL_law_334 ?_
  refine g_sld C hX hbl hbA (vin 2 (by omega)) dL_law_335 ?_
  refine g_aload_n C dL_law_336 0 rfl ?_
  refine g_iload_n C dL_law_337 3 rfl ?_
  refine g_iconst (v := nI 3) C dL_law_338 rfl ?_
  refine g_iadd C dL_law_339 ?_
  refine g_sld C hX hbl hbA (vin 3 (by omega)) dL_law_340 ?_
  refine l_call0 C (kX0_insert l D h0 E _ _ _ _ _ _ e0) gL_X0_insert hn_X0_insert rfl (Nat.le_of_ble_eq_true rfl) (Nat.le_of_ble_eq_true rfl) rfl (Nat.le_of_ble_eq_true rfl) dL_law_341 ?_
  refine g_aload_n C dL_law_344 2 rfl ?_
  refine g_aload_n C dL_law_345 0 rfl ?_
  refine g_iload_n C dL_law_346 3 rfl ?_
  refine g_iconst (v := nI 1) C dL_law_347 rfl ?_
  refine g_iadd C dL_law_348 ?_
  refine g_sld C hX hbl hbA (vin 1 (by omega)) dL_law_349 ?_
  refine g_aload_n C dL_law_350 0 rfl ?_
  refine g_iload_n C dL_law_351 3 rfl ?_
  refine g_iconst (v := nI 2) C dL_law_352 rfl ?_
  refine g_iadd C dL_law_353 ?_
  refine g_sld C hX hbl hbA (vin 2 (by omega)) dL_law_354 ?_
  refine g_aload_n C dL_law_355 0 rfl ?_
  refine g_iload_n C dL_law_356 3 rfl ?_
  refine g_iconst (v := nI 3) C dL_law_357 rfl ?_
  refine g_iadd C dL_law_358 ?_
  refine g_sld C hX hbl hbA (vin 3 (by omega)) dL_law_359 ?_
  refine l_call1 C (kX1_insert l D h1 E1 _ _ _ _ _ _ e1) gL_X1_insert hn_X1_insert rfl (Nat.le_of_ble_eq_true rfl) (Nat.le_of_ble_eq_true rfl) rfl (Nat.le_of_ble_eq_true rfl) dL_law_360 ?_
  refine b_icmp_eq (tgt := 846) C dL_law_363 rfl (fun _ => ?_) (fun h => absurd rfl h)
  exact kk σ' τ' hI'
set_option maxRecDepth 100000 in
set_option maxHeartbeats 4000000 in
theorem law_6 {p : Program} {l : Launch} {e : Env} {s : State} {m : MethodId} {below : List Frame} {meth : Method} {c : Code} {A : Nat → Prop} {D : va_G} {h0 h1 : Nat} {E E1 : EX} {b L : Nat} {xs : Nat → Int32} (hL : L ≤ 3072) (hX : va_X b L xs s s.heap) (hbl : b < s.heap.size) (hbA : ¬ A b) (C : GC p room_1 s m #[Value.ref b] meth c A D code 4 14 833 (tysX0 E ++ tysX1 E1) RL ret) {j : Nat} (hj : j + 6 ≤ L) {σ τ : SX} (hI : IV σ τ) (kk : ∀ σ τ : SX, IV σ τ → GW p l e room_1 s m #[Value.ref b] below meth c (lw_Z below #[Value.ref b] s) A D 4 14 833 (wX0 h0 E σ ++ wX1 h1 E1 τ) 846 [(0, .ref b), (1, .ref h0), (2, .ref h1), (3, .int (nI j))] []) : GW p l e room_1 s m #[Value.ref b] below meth c (lw_Z below #[Value.ref b] s) A D 4 14 833 (wX0 h0 E σ ++ wX1 h1 E1 τ) 368 [(0, .ref b), (1, .ref h0), (2, .ref h1), (3, .int (nI j))] [] := by
  have vin : ∀ t, t < 6 → vp_in (nI j + nI t) L := fun t ht => by rw [nI_add]; exact vp_in_nI (by omega) (by omega)
  obtain ⟨r, σ', τ', e0, e1, hI'⟩ := T_share hI (xs (nI j + nI 1).toNatClampNeg) (xs (nI j + nI 2).toNatClampNeg) (xs (nI j + nI 3).toNatClampNeg) (xs (nI j + nI 4).toNatClampNeg) (xs (nI j + nI 5).toNatClampNeg)
  refine g_aload_n C dL_law_368 1 rfl ?_
  refine g_aload_n C dL_law_369 0 rfl ?_
  refine g_iload_n C dL_law_370 3 rfl ?_
  refine g_iconst (v := nI 1) C dL_law_371 rfl ?_
  refine g_iadd C dL_law_372 ?_
  refine g_sld C hX hbl hbA (vin 1 (by omega)) dL_law_373 ?_
  refine g_aload_n C dL_law_374 0 rfl ?_
  refine g_iload_n C dL_law_375 3 rfl ?_
  refine g_iconst (v := nI 2) C dL_law_376 rfl ?_
  refine g_iadd C dL_law_377 ?_
  refine g_sld C hX hbl hbA (vin 2 (by omega)) dL_law_378 ?_
  refine g_aload_n C dL_law_379 0 rfl ?_
  refine g_iload_n C dL_law_380 3 rfl ?_
  refine g_iconst (v := nI 3) C dL_law_381 rfl ?_
  refine g_iadd C dL_law_382 ?_
  refine g_sld C hX hbl hbA (vin 3 (by omega)) dL_law_383 ?_
  refine g_aload_n C dL_law_384 0 rfl ?_
  refine g_iload_n C dL_law_385 3 rfl ?_
  refine g_iconst (v := nI 4) C dL_law_386 rfl ?_
  refine g_iadd C dL_law_387 ?_
  refine g_sld C hX hbl hbA (vin 4 (by omega)) dL_law_388 ?_
  refine g_aload_n C dL_law_389 0 rfl ?_
  refine g_iload_n C dL_law_390 3 rfl ?_
  refine g_iconst (v := nI 5) C dL_law_391 rfl ?_
  refine g_iadd C dL_law_392 ?_
  refine g_sld C hX hbl hbA (vin 5 (by omega)) dL_law_393 ?_
  refine l_call0 C (kX0_share l D h0 E _ _ _ _ _ _ _ _ e0) gL_X0_share hn_X0_share rfl (Nat.le_of_ble_eq_true rfl) (Nat.le_of_ble_eq_true rfl) rfl (Nat.le_of_ble_eq_true rfl) dL_law_394 ?_
  refine g_aload_n C dL_law_397 2 rfl ?_
  refine g_aload_n C dL_law_398 0 rfl ?_
  refine g_iload_n C dL_law_399 3 rfl ?_
  refine g_iconst (v := nI 1) C dL_law_400 rfl ?_
  refine g_iadd C dL_law_401 ?_
  refine g_sld C hX hbl hbA (vin 1 (by omega)) dL_law_402 ?_
  refine g_aload_n C dL_law_403 0 rfl ?_
  refine g_iload_n C dL_law_404 3 rfl ?_
  refine g_iconst (v := nI 2) C dL_law_405 rfl ?_
  refine g_iadd C dL_law_406 ?_
  refine g_sld C hX hbl hbA (vin 2 (by omega)) dL_law_407 ?_
  refine g_aload_n C dL_law_408 0 rfl ?_
  refine g_iload_n C dL_law_409 3 rfl ?_
  refine g_iconst (v := nI 3) C dL_law_410 rfl ?_
  refine g_iadd C dL_law_411 ?_
  refine g_sld C hX hbl hbA (vin 3 (by omega)) dL_law_412 ?_
  refine g_aload_n C dL_law_413 0 rfl ?_
  refine g_iload_n C dL_law_414 3 rfl ?_
  refine g_iconst (v := nI 4) C dL_law_415 rfl ?_
  refine g_iadd C dL_law_416 ?_
  refine g_sld C hX hbl hbA (vin 4 (by omega)) dL_law_417 ?_
  refine g_aload_n C dL_law_418 0 rfl ?_
  refine g_iload_n C dL_law_419 3 rfl ?_
  refine g_iconst (v := nI 5) C dL_law_420 rfl ?_
  refine g_iadd C dL_law_421 ?_
  refine g_sld C hX hbl hbA (vin 5 (by omega)) dL_law_422 ?_
  refine l_call1 C (kX1_share l D h1 E1 _ _ _ _ _ _ _ _ e1) gL_X1_share hn_X1_share rfl (Nat.le_of_ble_eq_true rfl) (Nat.le_of_ble_eq_true rfl) rfl (Nat.le_of_ble_eq_true rfl) dL_law_423 ?_
  refine b_icmp_eq (tgt := 846) C dL_law_426 rfl (fun _ => ?_) (fun h => absurd rfl h)
  exact kk σ' τ' hI'
set_option maxRecDepth 100000 in
set_option maxHeartbeats 4000000 in
theorem law_7 {p : Program} {l : Launch} {e : Env} {s : State} {m : MethodId} {below : List Frame} {meth : Method} {c : Code} {A : Nat → Prop} {D : va_G} {h0 h1 : Nat} {E E1 : EX} {b L : Nat} {xs : Nat → Int32} (hL : L ≤ 3072) (hX : va_X b L xs s s.heap) (hbl : b < s.heap.size) (hbA : ¬ A b) (C : GC p room_1 s m #[Value.ref b] meth c A D code 4 14 833 (tysX0 E ++ tysX1 E1) RL ret) {j : Nat} (hj : j + 6 ≤ L) {σ τ : SX} (hI : IV σ τ) (kk : ∀ σ τ : SX, IV σ τ → GW p l e room_1 s m #[Value.ref b] below meth c (lw_Z below #[Value.ref b] s) A D 4 14 833 (wX0 h0 E σ ++ wX1 h1 E1 τ) 846 [(0, .ref b), (1, .ref h0), (2, .ref h1), (3, .int (nI j))] []) : GW p l e room_1 s m #[Value.ref b] below meth c (lw_Z below #[Value.ref b] s) A D 4 14 833 (wX0 h0 E σ ++ wX1 h1 E1 τ) 431 [(0, .ref b), (1, .ref h0), (2, .ref h1), (3, .int (nI j))] [] := by
  have vin : ∀ t, t < 6 → vp_in (nI j + nI t) L := fun t ht => by rw [nI_add]; exact vp_in_nI (by omega) (by omega)
  obtain ⟨r, σ', τ', e0, e1, hI'⟩ := T_unshare hI (xs (nI j + nI 1).toNatClampNeg) (xs (nI j + nI 2).toNatClampNeg) (xs (nI j + nI 3).toNatClampNeg)
  refine g_aload_n C dL_law_431 1 rfl ?_
  refine g_aload_n C dL_law_432 0 rfl ?_
  refine g_iload_n C dL_law_433 3 rfl ?_
  refine g_iconst (v := nI 1) C dL_law_434 rfl ?_
  refine g_iadd C dL_law_435 ?_
  refine g_sld C hX hbl hbA (vin 1 (by omega)) dL_law_436 ?_
  refine g_aload_n C dL_law_437 0 rfl ?_
  refine g_iload_n C dL_law_438 3 rfl ?_
  refine g_iconst (v := nI 2) C dL_law_439 rfl ?_
  refine g_iadd C dL_law_440 ?_
  refine g_sld C hX hbl hbA (vin 2 (by omega)) dL_law_441 ?_
  refine g_aload_n C dL_law_442 0 rfl ?_
  refine g_iload_n C dL_law_443 3 rfl ?_
  refine g_iconst (v := nI 3) C dL_law_444 rfl ?_
  refine g_iadd C dL_law_445 ?_
  refine g_sld C hX hbl hbA (vin 3 (by omega)) dL_law_446 ?_
  refine l_call0 C (kX0_unshare l D h0 E _ _ _ _ _ _ e0) gL_X0_unshare hn_X0_unshare rfl (Nat.le_of_ble_eq_true rfl) (Nat.le_of_ble_eq_true rfl) rfl (Nat.le_of_ble_eq_true rfl) dL_law_447 ?_
  refine g_aload_n C dL_law_450 2 rfl ?_
  refine g_aload_n C dL_law_451 0 rfl ?_
  refine g_iload_n C dL_law_452 3 rfl ?_
  refine g_iconst (v := nI 1) C dL_law_453 rfl ?_
  refine g_iadd C dL_law_454 ?_
  refine g_sld C hX hbl hbA (vin 1 (by omega)) dL_law_455 ?_
  refine g_aload_n C dL_law_456 0 rfl ?_
  refine g_iload_n C dL_law_457 3 rfl ?_
  refine g_iconst (v := nI 2) C dL_law_458 rfl ?_
  refine g_iadd C dL_law_459 ?_
  refine g_sld C hX hbl hbA (vin 2 (by omega)) dL_law_460 ?_
  refine g_aload_n C dL_law_461 0 rfl ?_
  refine g_iload_n C dL_law_462 3 rfl ?_
  refine g_iconst (v := nI 3) C dL_law_463 rfl ?_
  refine g_iadd C dL_law_464 ?_
  refine g_sld C hX hbl hbA (vin 3 (by omega)) dL_law_465 ?_
  refine l_call1 C (kX1_unshare l D h1 E1 _ _ _ _ _ _ e1) gL_X1_unshare hn_X1_unshare rfl (Nat.le_of_ble_eq_true rfl) (Nat.le_of_ble_eq_true rfl) rfl (Nat.le_of_ble_eq_true rfl) dL_law_466 ?_
  refine b_icmp_eq (tgt := 846) C dL_law_469 rfl (fun _ => ?_) (fun h => absurd rfl h)
  exact kk σ' τ' hI'
set_option maxRecDepth 100000 in
set_option maxHeartbeats 4000000 in
theorem law_8 {p : Program} {l : Launch} {e : Env} {s : State} {m : MethodId} {below : List Frame} {meth : Method} {c : Code} {A : Nat → Prop} {D : va_G} {h0 h1 : Nat} {E E1 : EX} {b L : Nat} {xs : Nat → Int32} (hL : L ≤ 3072) (hX : va_X b L xs s s.heap) (hbl : b < s.heap.size) (hbA : ¬ A b) (C : GC p room_1 s m #[Value.ref b] meth c A D code 4 14 833 (tysX0 E ++ tysX1 E1) RL ret) {j : Nat} (hj : j + 6 ≤ L) {σ τ : SX} (hI : IV σ τ) (kk : ∀ σ τ : SX, IV σ τ → GW p l e room_1 s m #[Value.ref b] below meth c (lw_Z below #[Value.ref b] s) A D 4 14 833 (wX0 h0 E σ ++ wX1 h1 E1 τ) 846 [(0, .ref b), (1, .ref h0), (2, .ref h1), (3, .int (nI j))] []) : GW p l e room_1 s m #[Value.ref b] below meth c (lw_Z below #[Value.ref b] s) A D 4 14 833 (wX0 h0 E σ ++ wX1 h1 E1 τ) 474 [(0, .ref b), (1, .ref h0), (2, .ref h1), (3, .int (nI j))] [] := by
  have vin : ∀ t, t < 6 → vp_in (nI j + nI t) L := fun t ht => by rw [nI_add]; exact vp_in_nI (by omega) (by omega)
  obtain ⟨r, σ', τ', e0, e1, hI'⟩ := T_failure hI (xs (nI j + nI 1).toNatClampNeg)
  refine g_aload_n C dL_law_474 1 rfl ?_
  refine g_aload_n C dL_law_475 0 rfl ?_
  refine g_iload_n C dL_law_476 3 rfl ?_
  refine g_iconst (v := nI 1) C dL_law_477 rfl ?_
  refine g_iadd C dL_law_478 ?_
  refine g_sld C hX hbl hbA (vin 1 (by omega)) dL_law_479 ?_
  refine l_call0 C (kX0_failure l D h0 E _ _ _ _ e0) gL_X0_failure hn_X0_failure rfl (Nat.le_of_ble_eq_true rfl) (Nat.le_of_ble_eq_true rfl) rfl (Nat.le_of_ble_eq_true rfl) dL_law_480 ?_
  refine g_aload_n C dL_law_483 2 rfl ?_
  refine g_aload_n C dL_law_484 0 rfl ?_
  refine g_iload_n C dL_law_485 3 rfl ?_
  refine g_iconst (v := nI 1) C dL_law_486 rfl ?_
  refine g_iadd C dL_law_487 ?_
  refine g_sld C hX hbl hbA (vin 1 (by omega)) dL_law_488 ?_
  refine l_call1 C (kX1_failure l D h1 E1 _ _ _ _ e1) gL_X1_failure hn_X1_failure rfl (Nat.le_of_ble_eq_true rfl) (Nat.le_of_ble_eq_true rfl) rfl (Nat.le_of_ble_eq_true rfl) dL_law_489 ?_
  refine b_icmp_eq (tgt := 846) C dL_law_492 rfl (fun _ => ?_) (fun h => absurd rfl h)
  exact kk σ' τ' hI'
set_option maxRecDepth 100000 in
set_option maxHeartbeats 4000000 in
theorem law_9 {p : Program} {l : Launch} {e : Env} {s : State} {m : MethodId} {below : List Frame} {meth : Method} {c : Code} {A : Nat → Prop} {D : va_G} {h0 h1 : Nat} {E E1 : EX} {b L : Nat} {xs : Nat → Int32} (hL : L ≤ 3072) (hX : va_X b L xs s s.heap) (hbl : b < s.heap.size) (hbA : ¬ A b) (C : GC p room_1 s m #[Value.ref b] meth c A D code 4 14 833 (tysX0 E ++ tysX1 E1) RL ret) {j : Nat} (hj : j + 6 ≤ L) {σ τ : SX} (hI : IV σ τ) (kk : ∀ σ τ : SX, IV σ τ → GW p l e room_1 s m #[Value.ref b] below meth c (lw_Z below #[Value.ref b] s) A D 4 14 833 (wX0 h0 E σ ++ wX1 h1 E1 τ) 846 [(0, .ref b), (1, .ref h0), (2, .ref h1), (3, .int (nI j))] []) : GW p l e room_1 s m #[Value.ref b] below meth c (lw_Z below #[Value.ref b] s) A D 4 14 833 (wX0 h0 E σ ++ wX1 h1 E1 τ) 497 [(0, .ref b), (1, .ref h0), (2, .ref h1), (3, .int (nI j))] [] := by
  have vin : ∀ t, t < 6 → vp_in (nI j + nI t) L := fun t ht => by rw [nI_add]; exact vp_in_nI (by omega) (by omega)
  obtain ⟨r, σ', τ', e0, e1, hI'⟩ := T_exchange hI (xs (nI j + nI 1).toNatClampNeg) (xs (nI j + nI 2).toNatClampNeg) (xs (nI j + nI 3).toNatClampNeg) (xs (nI j + nI 4).toNatClampNeg) (xs (nI j + nI 5).toNatClampNeg)
  refine g_aload_n C dL_law_497 1 rfl ?_
  refine g_aload_n C dL_law_498 0 rfl ?_
  refine g_iload_n C dL_law_499 3 rfl ?_
  refine g_iconst (v := nI 1) C dL_law_500 rfl ?_
  refine g_iadd C dL_law_501 ?_
  refine g_sld C hX hbl hbA (vin 1 (by omega)) dL_law_502 ?_
  refine g_aload_n C dL_law_503 0 rfl ?_
  refine g_iload_n C dL_law_504 3 rfl ?_
  refine g_iconst (v := nI 2) C dL_law_505 rfl ?_
  refine g_iadd C dL_law_506 ?_
  refine g_sld C hX hbl hbA (vin 2 (by omega)) dL_law_507 ?_
  refine g_aload_n C dL_law_508 0 rfl ?_
  refine g_iload_n C dL_law_509 3 rfl ?_
  refine g_iconst (v := nI 3) C dL_law_510 rfl ?_
  refine g_iadd C dL_law_511 ?_
  refine g_sld C hX hbl hbA (vin 3 (by omega)) dL_law_512 ?_
  refine g_aload_n C dL_law_513 0 rfl ?_
  refine g_iload_n C dL_law_514 3 rfl ?_
  refine g_iconst (v := nI 4) C dL_law_515 rfl ?_
  refine g_iadd C dL_law_516 ?_
  refine g_sld C hX hbl hbA (vin 4 (by omega)) dL_law_517 ?_
  refine g_aload_n C dL_law_518 0 rfl ?_
  refine g_iload_n C dL_law_519 3 rfl ?_
  refine g_iconst (v := nI 5) C dL_law_520 rfl ?_
  refine g_iadd C dL_law_521 ?_
  refine g_sld C hX hbl hbA (vin 5 (by omega)) dL_law_522 ?_
  refine l_call0 C (kX0_exchange l D h0 E _ _ _ _ _ _ _ _ e0) gL_X0_exchange hn_X0_exchange rfl (Nat.le_of_ble_eq_true rfl) (Nat.le_of_ble_eq_true rfl) rfl (Nat.le_of_ble_eq_true rfl) dL_law_523 ?_
  refine g_aload_n C dL_law_526 2 rfl ?_
  refine g_aload_n C dL_law_527 0 rfl ?_
  refine g_iload_n C dL_law_528 3 rfl ?_
  refine g_iconst (v := nI 1) C dL_law_529 rfl ?_
  refine g_iadd C dL_law_530 ?_
  refine g_sld C hX hbl hbA (vin 1 (by omega)) dL_law_531 ?_
  refine g_aload_n C dL_law_532 0 rfl ?_
  refine g_iload_n C dL_law_533 3 rfl ?_
  refine g_iconst (v := nI 2) C dL_law_534 rfl ?_
  refine g_iadd C dL_law_535 ?_
  refine g_sld C hX hbl hbA (vin 2 (by omega)) dL_law_536 ?_
  refine g_aload_n C dL_law_537 0 rfl ?_
  refine g_iload_n C dL_law_538 3 rfl ?_
  refine g_iconst (v := nI 3) C dL_law_539 rfl ?_
  refine g_iadd C dL_law_540 ?_
  refine g_sld C hX hbl hbA (vin 3 (by omega)) dL_law_541 ?_
  refine g_aload_n C dL_law_542 0 rfl ?_
  refine g_iload_n C dL_law_543 3 rfl ?_
  refine g_iconst (v := nI 4) C dL_law_544 rfl ?_
  refine g_iadd C dL_law_545 ?_
  refine g_sld C hX hbl hbA (vin 4 (by omega)) dL_law_546 ?_
  refine g_aload_n C dL_law_547 0 rfl ?_
  refine g_iload_n C dL_law_548 3 rfl ?_
  refine g_iconst (v := nI 5) C dL_law_549 rfl ?_
  refine g_iadd C dL_law_550 ?_
  refine g_sld C hX hbl hbA (vin 5 (by omega)) dL_law_551 ?_
  refine l_call1 C (kX1_exchange l D h1 E1 _ _ _ _ _ _ _ _ e1) gL_X1_exchange hn_X1_exchange rfl (Nat.le_of_ble_eq_true rfl) (Nat.le_of_ble_eq_true rfl) rfl (Nat.le_of_ble_eq_true rfl) dL_law_552 ?_
  refine b_icmp_eq (tgt := 846) C dL_law_555 rfl (fun _ => ?_) (fun h => absurd rfl h)
  exact kk σ' τ' hI'
set_option maxRecDepth 100000 in
set_option maxHeartbeats 4000000 in
theorem law_10 {p : Program} {l : Launch} {e : Env} {s : State} {m : MethodId} {below : List Frame} {meth : Method} {c : Code} {A : Nat → Prop} {D : va_G} {h0 h1 : Nat} {E E1 : EX} {b L : Nat} {xs : Nat → Int32} (hL : L ≤ 3072) (hX : va_X b L xs s s.heap) (hbl : b < s.heap.size) (hbA : ¬ A b) (C : GC p room_1 s m #[Value.ref b] meth c A D code 4 14 833 (tysX0 E ++ tysX1 E1) RL ret) {j : Nat} (hj : j + 6 ≤ L) {σ τ : SX} (hI : IV σ τ) (kk : ∀ σ τ : SX, IV σ τ → GW p l e room_1 s m #[Value.ref b] below meth c (lw_Z below #[Value.ref b] s) A D 4 14 833 (wX0 h0 E σ ++ wX1 h1 E1 τ) 846 [(0, .ref b), (1, .ref h0), (2, .ref h1), (3, .int (nI j))] []) : GW p l e room_1 s m #[Value.ref b] below meth c (lw_Z below #[Value.ref b] s) A D 4 14 833 (wX0 h0 E σ ++ wX1 h1 E1 τ) 560 [(0, .ref b), (1, .ref h0), (2, .ref h1), (3, .int (nI j))] [] := by
  have vin : ∀ t, t < 6 → vp_in (nI j + nI t) L := fun t ht => by rw [nI_add]; exact vp_in_nI (by omega) (by omega)
  by_cases hz : (xs (nI j + nI 1).toNatClampNeg) = nI 0
  · obtain ⟨r, σ', τ', e0, e1, hI'⟩ := T_mount hI false
    refine g_aload_n C dL_law_560 1 rfl ?_
    refine g_aload_n C dL_law_561 0 rfl ?_
    refine g_iload_n C dL_law_562 3 rfl ?_
    refine g_iconst (v := nI 1) C dL_law_563 rfl ?_
    refine g_iadd C dL_law_564 ?_
    refine g_sld C hX hbl hbA (vin 1 (by omega)) dL_law_565 ?_
    refine b_if_eq (tgt := 573) C dL_law_566 rfl (fun _ => ?_) (fun h => absurd hz h)
    refine g_iconst (v := nI 0) C dL_law_573 rfl ?_
    refine l_call0 C (kX0_mount l D h0 E _ _ _ _ e0) gL_X0_mount hn_X0_mount rfl (Nat.le_of_ble_eq_true rfl) (Nat.le_of_ble_eq_true rfl) rfl (Nat.le_of_ble_eq_true rfl) dL_law_574 ?_
    refine g_aload_n C dL_law_577 2 rfl ?_
    refine g_aload_n C dL_law_578 0 rfl ?_
    refine g_iload_n C dL_law_579 3 rfl ?_
    refine g_iconst (v := nI 1) C dL_law_580 rfl ?_
    refine g_iadd C dL_law_581 ?_
    refine g_sld C hX hbl hbA (vin 1 (by omega)) dL_law_582 ?_
    refine b_if_eq (tgt := 590) C dL_law_583 rfl (fun _ => ?_) (fun h => absurd hz h)
    refine g_iconst (v := nI 0) C dL_law_590 rfl ?_
    refine l_call1 C (kX1_mount l D h1 E1 _ _ _ _ e1) gL_X1_mount hn_X1_mount rfl (Nat.le_of_ble_eq_true rfl) (Nat.le_of_ble_eq_true rfl) rfl (Nat.le_of_ble_eq_true rfl) dL_law_591 ?_
    refine b_icmp_eq (tgt := 846) C dL_law_594 rfl (fun _ => ?_) (fun h => absurd rfl h)
    exact kk σ' τ' hI'
  · obtain ⟨r, σ', τ', e0, e1, hI'⟩ := T_mount hI true
    refine g_aload_n C dL_law_560 1 rfl ?_
    refine g_aload_n C dL_law_561 0 rfl ?_
    refine g_iload_n C dL_law_562 3 rfl ?_
    refine g_iconst (v := nI 1) C dL_law_563 rfl ?_
    refine g_iadd C dL_law_564 ?_
    refine g_sld C hX hbl hbA (vin 1 (by omega)) dL_law_565 ?_
    refine b_if_eq (tgt := 573) C dL_law_566 rfl (fun h => absurd h hz) (fun _ => ?_)
    refine g_iconst (v := nI 1) C dL_law_569 rfl ?_
    refine g_goto (tgt := 574) C dL_law_570 rfl ?_
    refine l_call0 C (kX0_mount l D h0 E _ _ _ _ e0) gL_X0_mount hn_X0_mount rfl (Nat.le_of_ble_eq_true rfl) (Nat.le_of_ble_eq_true rfl) rfl (Nat.le_of_ble_eq_true rfl) dL_law_574 ?_
    refine g_aload_n C dL_law_577 2 rfl ?_
    refine g_aload_n C dL_law_578 0 rfl ?_
    refine g_iload_n C dL_law_579 3 rfl ?_
    refine g_iconst (v := nI 1) C dL_law_580 rfl ?_
    refine g_iadd C dL_law_581 ?_
    refine g_sld C hX hbl hbA (vin 1 (by omega)) dL_law_582 ?_
    refine b_if_eq (tgt := 590) C dL_law_583 rfl (fun h => absurd h hz) (fun _ => ?_)
    refine g_iconst (v := nI 1) C dL_law_586 rfl ?_
    refine g_goto (tgt := 591) C dL_law_587 rfl ?_
    refine l_call1 C (kX1_mount l D h1 E1 _ _ _ _ e1) gL_X1_mount hn_X1_mount rfl (Nat.le_of_ble_eq_true rfl) (Nat.le_of_ble_eq_true rfl) rfl (Nat.le_of_ble_eq_true rfl) dL_law_591 ?_
    refine b_icmp_eq (tgt := 846) C dL_law_594 rfl (fun _ => ?_) (fun h => absurd rfl h)
    exact kk σ' τ' hI'
set_option maxRecDepth 100000 in
set_option maxHeartbeats 4000000 in
theorem law_11 {p : Program} {l : Launch} {e : Env} {s : State} {m : MethodId} {below : List Frame} {meth : Method} {c : Code} {A : Nat → Prop} {D : va_G} {h0 h1 : Nat} {E E1 : EX} {b L : Nat} {xs : Nat → Int32} (hL : L ≤ 3072) (hX : va_X b L xs s s.heap) (hbl : b < s.heap.size) (hbA : ¬ A b) (C : GC p room_1 s m #[Value.ref b] meth c A D code 4 14 833 (tysX0 E ++ tysX1 E1) RL ret) {j : Nat} (hj : j + 6 ≤ L) {σ τ : SX} (hI : IV σ τ) (kk : ∀ σ τ : SX, IV σ τ → GW p l e room_1 s m #[Value.ref b] below meth c (lw_Z below #[Value.ref b] s) A D 4 14 833 (wX0 h0 E σ ++ wX1 h1 E1 τ) 846 [(0, .ref b), (1, .ref h0), (2, .ref h1), (3, .int (nI j))] []) : GW p l e room_1 s m #[Value.ref b] below meth c (lw_Z below #[Value.ref b] s) A D 4 14 833 (wX0 h0 E σ ++ wX1 h1 E1 τ) 599 [(0, .ref b), (1, .ref h0), (2, .ref h1), (3, .int (nI j))] [] := by
  have vin : ∀ t, t < 6 → vp_in (nI j + nI t) L := fun t ht => by rw [nI_add]; exact vp_in_nI (by omega) (by omega)
  obtain ⟨r, σ', τ', e0, e1, hI'⟩ := T_ofFile hI (xs (nI j + nI 1).toNatClampNeg) (xs (nI j + nI 2).toNatClampNeg)
  refine g_aload_n C dL_law_599 1 rfl ?_
  refine g_aload_n C dL_law_600 0 rfl ?_
  refine g_iload_n C dL_law_601 3 rfl ?_
  refine g_iconst (v := nI 1) C dL_law_602 rfl ?_
  refine g_iadd C dL_law_603 ?_
  refine g_sld C hX hbl hbA (vin 1 (by omega)) dL_law_604 ?_
  refine g_aload_n C dL_law_605 0 rfl ?_
  refine g_iload_n C dL_law_606 3 rfl ?_
  refine g_iconst (v := nI 2) C dL_law_607 rfl ?_
  refine g_iadd C dL_law_608 ?_
  refine g_sld C hX hbl hbA (vin 2 (by omega)) dL_law_609 ?_
  refine l_call0 C (kX0_ofFile l D h0 E _ _ _ _ _ e0) gL_X0_ofFile hn_X0_ofFile rfl (Nat.le_of_ble_eq_true rfl) (Nat.le_of_ble_eq_true rfl) rfl (Nat.le_of_ble_eq_true rfl) dL_law_610 ?_
  refine g_aload_n C dL_law_613 2 rfl ?_
  refine g_aload_n C dL_law_614 0 rfl ?_
  refine g_iload_n C dL_law_615 3 rfl ?_
  refine g_iconst (v := nI 1) C dL_law_616 rfl ?_
  refine g_iadd C dL_law_617 ?_
  refine g_sld C hX hbl hbA (vin 1 (by omega)) dL_law_618 ?_
  refine g_aload_n C dL_law_619 0 rfl ?_
  refine g_iload_n C dL_law_620 3 rfl ?_
  refine g_iconst (v := nI 2) C dL_law_621 rfl ?_
  refine g_iadd C dL_law_622 ?_
  refine g_sld C hX hbl hbA (vin 2 (by omega)) dL_law_623 ?_
  refine l_call1 C (kX1_ofFile l D h1 E1 _ _ _ _ _ e1) gL_X1_ofFile hn_X1_ofFile rfl (Nat.le_of_ble_eq_true rfl) (Nat.le_of_ble_eq_true rfl) rfl (Nat.le_of_ble_eq_true rfl) dL_law_624 ?_
  refine b_icmp_eq (tgt := 846) C dL_law_627 rfl (fun _ => ?_) (fun h => absurd rfl h)
  exact kk σ' τ' hI'
set_option maxRecDepth 100000 in
set_option maxHeartbeats 4000000 in
theorem law_12 {p : Program} {l : Launch} {e : Env} {s : State} {m : MethodId} {below : List Frame} {meth : Method} {c : Code} {A : Nat → Prop} {D : va_G} {h0 h1 : Nat} {E E1 : EX} {b L : Nat} {xs : Nat → Int32} (hL : L ≤ 3072) (hX : va_X b L xs s s.heap) (hbl : b < s.heap.size) (hbA : ¬ A b) (C : GC p room_1 s m #[Value.ref b] meth c A D code 4 14 833 (tysX0 E ++ tysX1 E1) RL ret) {j : Nat} (hj : j + 6 ≤ L) {σ τ : SX} (hI : IV σ τ) (kk : ∀ σ τ : SX, IV σ τ → GW p l e room_1 s m #[Value.ref b] below meth c (lw_Z below #[Value.ref b] s) A D 4 14 833 (wX0 h0 E σ ++ wX1 h1 E1 τ) 846 [(0, .ref b), (1, .ref h0), (2, .ref h1), (3, .int (nI j))] []) : GW p l e room_1 s m #[Value.ref b] below meth c (lw_Z below #[Value.ref b] s) A D 4 14 833 (wX0 h0 E σ ++ wX1 h1 E1 τ) 632 [(0, .ref b), (1, .ref h0), (2, .ref h1), (3, .int (nI j))] [] := by
  have vin : ∀ t, t < 6 → vp_in (nI j + nI t) L := fun t ht => by rw [nI_add]; exact vp_in_nI (by omega) (by omega)
  obtain ⟨r, σ', τ', e0, e1, hI'⟩ := T_block hI (xs (nI j + nI 1).toNatClampNeg) (xs (nI j + nI 2).toNatClampNeg)
  refine g_aload_n C dL_law_632 1 rfl ?_
  refine g_aload_n C dL_law_633 0 rfl ?_
  refine g_iload_n C dL_law_634 3 rfl ?_
  refine g_iconst (v := nI 1) C dL_law_635 rfl ?_
  refine g_iadd C dL_law_636 ?_
  refine g_sld C hX hbl hbA (vin 1 (by omega)) dL_law_637 ?_
  refine g_aload_n C dL_law_638 0 rfl ?_
  refine g_iload_n C dL_law_639 3 rfl ?_
  refine g_iconst (v := nI 2) C dL_law_640 rfl ?_
  refine g_iadd C dL_law_641 ?_
  refine g_sld C hX hbl hbA (vin 2 (by omega)) dL_law_642 ?_
  refine l_call0 C (kX0_block l D h0 E _ _ _ _ _ e0) gL_X0_block hn_X0_block rfl (Nat.le_of_ble_eq_true rfl) (Nat.le_of_ble_eq_true rfl) rfl (Nat.le_of_ble_eq_true rfl) dL_law_643 ?_
  refine g_aload_n C dL_law_646 2 rfl ?_
  refine g_aload_n C dL_law_647 0 rfl ?_
  refine g_iload_n C dL_law_648 3 rfl ?_
  refine g_iconst (v := nI 1) C dL_law_649 rfl ?_
  refine g_iadd C dL_law_650 ?_
  refine g_sld C hX hbl hbA (vin 1 (by omega)) dL_law_651 ?_
  refine g_aload_n C dL_law_652 0 rfl ?_
  refine g_iload_n C dL_law_653 3 rfl ?_
  refine g_iconst (v := nI 2) C dL_law_654 rfl ?_
  refine g_iadd C dL_law_655 ?_
  refine g_sld C hX hbl hbA (vin 2 (by omega)) dL_law_656 ?_
  refine l_call1 C (kX1_block l D h1 E1 _ _ _ _ _ e1) gL_X1_block hn_X1_block rfl (Nat.le_of_ble_eq_true rfl) (Nat.le_of_ble_eq_true rfl) rfl (Nat.le_of_ble_eq_true rfl) dL_law_657 ?_
  refine b_icmp_eq (tgt := 846) C dL_law_660 rfl (fun _ => ?_) (fun h => absurd rfl h)
  exact kk σ' τ' hI'
set_option maxRecDepth 100000 in
set_option maxHeartbeats 4000000 in
theorem law_13 {p : Program} {l : Launch} {e : Env} {s : State} {m : MethodId} {below : List Frame} {meth : Method} {c : Code} {A : Nat → Prop} {D : va_G} {h0 h1 : Nat} {E E1 : EX} {b L : Nat} {xs : Nat → Int32} (hL : L ≤ 3072) (hX : va_X b L xs s s.heap) (hbl : b < s.heap.size) (hbA : ¬ A b) (C : GC p room_1 s m #[Value.ref b] meth c A D code 4 14 833 (tysX0 E ++ tysX1 E1) RL ret) {j : Nat} (hj : j + 6 ≤ L) {σ τ : SX} (hI : IV σ τ) (kk : ∀ σ τ : SX, IV σ τ → GW p l e room_1 s m #[Value.ref b] below meth c (lw_Z below #[Value.ref b] s) A D 4 14 833 (wX0 h0 E σ ++ wX1 h1 E1 τ) 846 [(0, .ref b), (1, .ref h0), (2, .ref h1), (3, .int (nI j))] []) : GW p l e room_1 s m #[Value.ref b] below meth c (lw_Z below #[Value.ref b] s) A D 4 14 833 (wX0 h0 E σ ++ wX1 h1 E1 τ) 665 [(0, .ref b), (1, .ref h0), (2, .ref h1), (3, .int (nI j))] [] := by
  have vin : ∀ t, t < 6 → vp_in (nI j + nI t) L := fun t ht => by rw [nI_add]; exact vp_in_nI (by omega) (by omega)
  obtain ⟨r, σ', τ', e0, e1, hI'⟩ := T_piece hI (xs (nI j + nI 1).toNatClampNeg) (xs (nI j + nI 2).toNatClampNeg) (xs (nI j + nI 3).toNatClampNeg)
  refine g_aload_n C dL_law_665 1 rfl ?_
  refine g_aload_n C dL_law_666 0 rfl ?_
  refine g_iload_n C dL_law_667 3 rfl ?_
  refine g_iconst (v := nI 1) C dL_law_668 rfl ?_
  refine g_iadd C dL_law_669 ?_
  refine g_sld C hX hbl hbA (vin 1 (by omega)) dL_law_670 ?_
  refine g_aload_n C dL_law_671 0 rfl ?_
  refine g_iload_n C dL_law_672 3 rfl ?_
  refine g_iconst (v := nI 2) C dL_law_673 rfl ?_
  refine g_iadd C dL_law_674 ?_
  refine g_sld C hX hbl hbA (vin 2 (by omega)) dL_law_675 ?_
  refine g_aload_n C dL_law_676 0 rfl ?_
  refine g_iload_n C dL_law_677 3 rfl ?_
  refine g_iconst (v := nI 3) C dL_law_678 rfl ?_
  refine g_iadd C dL_law_679 ?_
  refine g_sld C hX hbl hbA (vin 3 (by omega)) dL_law_680 ?_
  refine l_call0 C (kX0_piece l D h0 E _ _ _ _ _ _ e0) gL_X0_piece hn_X0_piece rfl (Nat.le_of_ble_eq_true rfl) (Nat.le_of_ble_eq_true rfl) rfl (Nat.le_of_ble_eq_true rfl) dL_law_681 ?_
  refine g_aload_n C dL_law_684 2 rfl ?_
  refine g_aload_n C dL_law_685 0 rfl ?_
  refine g_iload_n C dL_law_686 3 rfl ?_
  refine g_iconst (v := nI 1) C dL_law_687 rfl ?_
  refine g_iadd C dL_law_688 ?_
  refine g_sld C hX hbl hbA (vin 1 (by omega)) dL_law_689 ?_
  refine g_aload_n C dL_law_690 0 rfl ?_
  refine g_iload_n C dL_law_691 3 rfl ?_
  refine g_iconst (v := nI 2) C dL_law_692 rfl ?_
  refine g_iadd C dL_law_693 ?_
  refine g_sld C hX hbl hbA (vin 2 (by omega)) dL_law_694 ?_
  refine g_aload_n C dL_law_695 0 rfl ?_
  refine g_iload_n C dL_law_696 3 rfl ?_
  refine g_iconst (v := nI 3) C dL_law_697 rfl ?_
  refine g_iadd C dL_law_698 ?_
  refine g_sld C hX hbl hbA (vin 3 (by omega)) dL_law_699 ?_
  refine l_call1 C (kX1_piece l D h1 E1 _ _ _ _ _ _ e1) gL_X1_piece hn_X1_piece rfl (Nat.le_of_ble_eq_true rfl) (Nat.le_of_ble_eq_true rfl) rfl (Nat.le_of_ble_eq_true rfl) dL_law_700 ?_
  refine b_icmp_eq (tgt := 846) C dL_law_703 rfl (fun _ => ?_) (fun h => absurd rfl h)
  exact kk σ' τ' hI'
set_option maxRecDepth 100000 in
set_option maxHeartbeats 4000000 in
theorem law_14 {p : Program} {l : Launch} {e : Env} {s : State} {m : MethodId} {below : List Frame} {meth : Method} {c : Code} {A : Nat → Prop} {D : va_G} {h0 h1 : Nat} {E E1 : EX} {b L : Nat} {xs : Nat → Int32} (hL : L ≤ 3072) (hX : va_X b L xs s s.heap) (hbl : b < s.heap.size) (hbA : ¬ A b) (C : GC p room_1 s m #[Value.ref b] meth c A D code 4 14 833 (tysX0 E ++ tysX1 E1) RL ret) {j : Nat} (hj : j + 6 ≤ L) {σ τ : SX} (hI : IV σ τ) (kk : ∀ σ τ : SX, IV σ τ → GW p l e room_1 s m #[Value.ref b] below meth c (lw_Z below #[Value.ref b] s) A D 4 14 833 (wX0 h0 E σ ++ wX1 h1 E1 τ) 846 [(0, .ref b), (1, .ref h0), (2, .ref h1), (3, .int (nI j))] []) : GW p l e room_1 s m #[Value.ref b] below meth c (lw_Z below #[Value.ref b] s) A D 4 14 833 (wX0 h0 E σ ++ wX1 h1 E1 τ) 708 [(0, .ref b), (1, .ref h0), (2, .ref h1), (3, .int (nI j))] [] := by
  have vin : ∀ t, t < 6 → vp_in (nI j + nI t) L := fun t ht => by rw [nI_add]; exact vp_in_nI (by omega) (by omega)
  by_cases hz : (xs (nI j + nI 3).toNatClampNeg) = nI 0
  · obtain ⟨r, σ', τ', e0, e1, hI'⟩ := T_seek hI (xs (nI j + nI 1).toNatClampNeg) (xs (nI j + nI 2).toNatClampNeg) false
    refine g_aload_n C dL_law_708 1 rfl ?_
    refine g_aload_n C dL_law_709 0 rfl ?_
    refine g_iload_n C dL_law_710 3 rfl ?_
    refine g_iconst (v := nI 1) C dL_law_711 rfl ?_
    refine g_iadd C dL_law_712 ?_
    refine g_sld C hX hbl hbA (vin 1 (by omega)) dL_law_713 ?_
    refine g_aload_n C dL_law_714 0 rfl ?_
    refine g_iload_n C dL_law_715 3 rfl ?_
    refine g_iconst (v := nI 2) C dL_law_716 rfl ?_
    refine g_iadd C dL_law_717 ?_
    refine g_sld C hX hbl hbA (vin 2 (by omega)) dL_law_718 ?_
    refine g_aload_n C dL_law_719 0 rfl ?_
    refine g_iload_n C dL_law_720 3 rfl ?_
    refine g_iconst (v := nI 3) C dL_law_721 rfl ?_
    refine g_iadd C dL_law_722 ?_
    refine g_sld C hX hbl hbA (vin 3 (by omega)) dL_law_723 ?_
    refine b_if_eq (tgt := 731) C dL_law_724 rfl (fun _ => ?_) (fun h => absurd hz h)
    refine g_iconst (v := nI 0) C dL_law_731 rfl ?_
    refine l_call0 C (kX0_seek l D h0 E _ _ _ _ _ _ e0) gL_X0_seek hn_X0_seek rfl (Nat.le_of_ble_eq_true rfl) (Nat.le_of_ble_eq_true rfl) rfl (Nat.le_of_ble_eq_true rfl) dL_law_732 ?_
    refine g_aload_n C dL_law_735 2 rfl ?_
    refine g_aload_n C dL_law_736 0 rfl ?_
    refine g_iload_n C dL_law_737 3 rfl ?_
    refine g_iconst (v := nI 1) C dL_law_738 rfl ?_
    refine g_iadd C dL_law_739 ?_
    refine g_sld C hX hbl hbA (vin 1 (by omega)) dL_law_740 ?_
    refine g_aload_n C dL_law_741 0 rfl ?_
    refine g_iload_n C dL_law_742 3 rfl ?_
    refine g_iconst (v := nI 2) C dL_law_743 rfl ?_
    refine g_iadd C dL_law_744 ?_
    refine g_sld C hX hbl hbA (vin 2 (by omega)) dL_law_745 ?_
    refine g_aload_n C dL_law_746 0 rfl ?_
    refine g_iload_n C dL_law_747 3 rfl ?_
    refine g_iconst (v := nI 3) C dL_law_748 rfl ?_
    refine g_iadd C dL_law_749 ?_
    refine g_sld C hX hbl hbA (vin 3 (by omega)) dL_law_750 ?_
    refine b_if_eq (tgt := 758) C dL_law_751 rfl (fun _ => ?_) (fun h => absurd hz h)
    refine g_iconst (v := nI 0) C dL_law_758 rfl ?_
    refine l_call1 C (kX1_seek l D h1 E1 _ _ _ _ _ _ e1) gL_X1_seek hn_X1_seek rfl (Nat.le_of_ble_eq_true rfl) (Nat.le_of_ble_eq_true rfl) rfl (Nat.le_of_ble_eq_true rfl) dL_law_759 ?_
    refine b_icmp_eq (tgt := 846) C dL_law_762 rfl (fun _ => ?_) (fun h => absurd rfl h)
    exact kk σ' τ' hI'
  · obtain ⟨r, σ', τ', e0, e1, hI'⟩ := T_seek hI (xs (nI j + nI 1).toNatClampNeg) (xs (nI j + nI 2).toNatClampNeg) true
    refine g_aload_n C dL_law_708 1 rfl ?_
    refine g_aload_n C dL_law_709 0 rfl ?_
    refine g_iload_n C dL_law_710 3 rfl ?_
    refine g_iconst (v := nI 1) C dL_law_711 rfl ?_
    refine g_iadd C dL_law_712 ?_
    refine g_sld C hX hbl hbA (vin 1 (by omega)) dL_law_713 ?_
    refine g_aload_n C dL_law_714 0 rfl ?_
    refine g_iload_n C dL_law_715 3 rfl ?_
    refine g_iconst (v := nI 2) C dL_law_716 rfl ?_
    refine g_iadd C dL_law_717 ?_
    refine g_sld C hX hbl hbA (vin 2 (by omega)) dL_law_718 ?_
    refine g_aload_n C dL_law_719 0 rfl ?_
    refine g_iload_n C dL_law_720 3 rfl ?_
    refine g_iconst (v := nI 3) C dL_law_721 rfl ?_
    refine g_iadd C dL_law_722 ?_
    refine g_sld C hX hbl hbA (vin 3 (by omega)) dL_law_723 ?_
    refine b_if_eq (tgt := 731) C dL_law_724 rfl (fun h => absurd h hz) (fun _ => ?_)
    refine g_iconst (v := nI 1) C dL_law_727 rfl ?_
    refine g_goto (tgt := 732) C dL_law_728 rfl ?_
    refine l_call0 C (kX0_seek l D h0 E _ _ _ _ _ _ e0) gL_X0_seek hn_X0_seek rfl (Nat.le_of_ble_eq_true rfl) (Nat.le_of_ble_eq_true rfl) rfl (Nat.le_of_ble_eq_true rfl) dL_law_732 ?_
    refine g_aload_n C dL_law_735 2 rfl ?_
    refine g_aload_n C dL_law_736 0 rfl ?_
    refine g_iload_n C dL_law_737 3 rfl ?_
    refine g_iconst (v := nI 1) C dL_law_738 rfl ?_
    refine g_iadd C dL_law_739 ?_
    refine g_sld C hX hbl hbA (vin 1 (by omega)) dL_law_740 ?_
    refine g_aload_n C dL_law_741 0 rfl ?_
    refine g_iload_n C dL_law_742 3 rfl ?_
    refine g_iconst (v := nI 2) C dL_law_743 rfl ?_
    refine g_iadd C dL_law_744 ?_
    refine g_sld C hX hbl hbA (vin 2 (by omega)) dL_law_745 ?_
    refine g_aload_n C dL_law_746 0 rfl ?_
    refine g_iload_n C dL_law_747 3 rfl ?_
    refine g_iconst (v := nI 3) C dL_law_748 rfl ?_
    refine g_iadd C dL_law_749 ?_
    refine g_sld C hX hbl hbA (vin 3 (by omega)) dL_law_750 ?_
    refine b_if_eq (tgt := 758) C dL_law_751 rfl (fun h => absurd h hz) (fun _ => ?_)
    refine g_iconst (v := nI 1) C dL_law_754 rfl ?_
    refine g_goto (tgt := 759) C dL_law_755 rfl ?_
    refine l_call1 C (kX1_seek l D h1 E1 _ _ _ _ _ _ e1) gL_X1_seek hn_X1_seek rfl (Nat.le_of_ble_eq_true rfl) (Nat.le_of_ble_eq_true rfl) rfl (Nat.le_of_ble_eq_true rfl) dL_law_759 ?_
    refine b_icmp_eq (tgt := 846) C dL_law_762 rfl (fun _ => ?_) (fun h => absurd rfl h)
    exact kk σ' τ' hI'
set_option maxRecDepth 100000 in
set_option maxHeartbeats 4000000 in
theorem law_15 {p : Program} {l : Launch} {e : Env} {s : State} {m : MethodId} {below : List Frame} {meth : Method} {c : Code} {A : Nat → Prop} {D : va_G} {h0 h1 : Nat} {E E1 : EX} {b L : Nat} {xs : Nat → Int32} (hL : L ≤ 3072) (hX : va_X b L xs s s.heap) (hbl : b < s.heap.size) (hbA : ¬ A b) (C : GC p room_1 s m #[Value.ref b] meth c A D code 4 14 833 (tysX0 E ++ tysX1 E1) RL ret) {j : Nat} (hj : j + 6 ≤ L) {σ τ : SX} (hI : IV σ τ) (kk : ∀ σ τ : SX, IV σ τ → GW p l e room_1 s m #[Value.ref b] below meth c (lw_Z below #[Value.ref b] s) A D 4 14 833 (wX0 h0 E σ ++ wX1 h1 E1 τ) 846 [(0, .ref b), (1, .ref h0), (2, .ref h1), (3, .int (nI j))] []) : GW p l e room_1 s m #[Value.ref b] below meth c (lw_Z below #[Value.ref b] s) A D 4 14 833 (wX0 h0 E σ ++ wX1 h1 E1 τ) 767 [(0, .ref b), (1, .ref h0), (2, .ref h1), (3, .int (nI j))] [] := by
  have vin : ∀ t, t < 6 → vp_in (nI j + nI t) L := fun t ht => by rw [nI_add]; exact vp_in_nI (by omega) (by omega)
  obtain ⟨r, σ', τ', e0, e1, hI'⟩ := T_count hI (xs (nI j + nI 1).toNatClampNeg)
  refine g_aload_n C dL_law_767 1 rfl ?_
  refine g_aload_n C dL_law_768 0 rfl ?_
  refine g_iload_n C dL_law_769 3 rfl ?_
  refine g_iconst (v := nI 1) C dL_law_770 rfl ?_
  refine g_iadd C dL_law_771 ?_
  refine g_sld C hX hbl hbA (vin 1 (by omega)) dL_law_772 ?_
  refine l_call0 C (kX0_count l D h0 E _ _ _ _ e0) gL_X0_count hn_X0_count rfl (Nat.le_of_ble_eq_true rfl) (Nat.le_of_ble_eq_true rfl) rfl (Nat.le_of_ble_eq_true rfl) dL_law_773 ?_
  refine g_aload_n C dL_law_776 2 rfl ?_
  refine g_aload_n C dL_law_777 0 rfl ?_
  refine g_iload_n C dL_law_778 3 rfl ?_
  refine g_iconst (v := nI 1) C dL_law_779 rfl ?_
  refine g_iadd C dL_law_780 ?_
  refine g_sld C hX hbl hbA (vin 1 (by omega)) dL_law_781 ?_
  refine l_call1 C (kX1_count l D h1 E1 _ _ _ _ e1) gL_X1_count hn_X1_count rfl (Nat.le_of_ble_eq_true rfl) (Nat.le_of_ble_eq_true rfl) rfl (Nat.le_of_ble_eq_true rfl) dL_law_782 ?_
  refine b_icmp_eq (tgt := 846) C dL_law_785 rfl (fun _ => ?_) (fun h => absurd rfl h)
  exact kk σ' τ' hI'
set_option maxRecDepth 100000 in
set_option maxHeartbeats 4000000 in
theorem law_16 {p : Program} {l : Launch} {e : Env} {s : State} {m : MethodId} {below : List Frame} {meth : Method} {c : Code} {A : Nat → Prop} {D : va_G} {h0 h1 : Nat} {E E1 : EX} {b L : Nat} {xs : Nat → Int32} (hL : L ≤ 3072) (hX : va_X b L xs s s.heap) (hbl : b < s.heap.size) (hbA : ¬ A b) (C : GC p room_1 s m #[Value.ref b] meth c A D code 4 14 833 (tysX0 E ++ tysX1 E1) RL ret) {j : Nat} (hj : j + 6 ≤ L) {σ τ : SX} (hI : IV σ τ) (kk : ∀ σ τ : SX, IV σ τ → GW p l e room_1 s m #[Value.ref b] below meth c (lw_Z below #[Value.ref b] s) A D 4 14 833 (wX0 h0 E σ ++ wX1 h1 E1 τ) 846 [(0, .ref b), (1, .ref h0), (2, .ref h1), (3, .int (nI j))] []) : GW p l e room_1 s m #[Value.ref b] below meth c (lw_Z below #[Value.ref b] s) A D 4 14 833 (wX0 h0 E σ ++ wX1 h1 E1 τ) 790 [(0, .ref b), (1, .ref h0), (2, .ref h1), (3, .int (nI j))] [] := by
  have vin : ∀ t, t < 6 → vp_in (nI j + nI t) L := fun t ht => by rw [nI_add]; exact vp_in_nI (by omega) (by omega)
  obtain ⟨r, σ', τ', e0, e1, hI'⟩ := T_range hI (xs (nI j + nI 1).toNatClampNeg) (xs (nI j + nI 2).toNatClampNeg)
  refine g_aload_n C dL_law_790 1 rfl ?_
  refine g_aload_n C dL_law_791 0 rfl ?_
  refine g_iload_n C dL_law_792 3 rfl ?_
  refine g_iconst (v := nI 1) C dL_law_793 rfl ?_
  refine g_iadd C dL_law_794 ?_
  refine g_sld C hX hbl hbA (vin 1 (by omega)) dL_law_795 ?_
  refine g_aload_n C dL_law_796 0 rfl ?_
  refine g_iload_n C dL_law_797 3 rfl ?_
  refine g_iconst (v := nI 2) C dL_law_798 rfl ?_
  refine g_iadd C dL_law_799 ?_
  refine g_sld C hX hbl hbA (vin 2 (by omega)) dL_law_800 ?_
  refine l_call0 C (kX0_range l D h0 E _ _ _ _ _ e0) gL_X0_range hn_X0_range rfl (Nat.le_of_ble_eq_true rfl) (Nat.le_of_ble_eq_true rfl) rfl (Nat.le_of_ble_eq_true rfl) dL_law_801 ?_
  refine g_aload_n C dL_law_804 2 rfl ?_
  refine g_aload_n C dL_law_805 0 rfl ?_
  refine g_iload_n C dL_law_806 3 rfl ?_
  refine g_iconst (v := nI 1) C dL_law_807 rfl ?_
  refine g_iadd C dL_law_808 ?_
  refine g_sld C hX hbl hbA (vin 1 (by omega)) dL_law_809 ?_
  refine g_aload_n C dL_law_810 0 rfl ?_
  refine g_iload_n C dL_law_811 3 rfl ?_
  refine g_iconst (v := nI 2) C dL_law_812 rfl ?_
  refine g_iadd C dL_law_813 ?_
  refine g_sld C hX hbl hbA (vin 2 (by omega)) dL_law_814 ?_
  refine l_call1 C (kX1_range l D h1 E1 _ _ _ _ _ e1) gL_X1_range hn_X1_range rfl (Nat.le_of_ble_eq_true rfl) (Nat.le_of_ble_eq_true rfl) rfl (Nat.le_of_ble_eq_true rfl) dL_law_815 ?_
  refine b_icmp_eq (tgt := 846) C dL_law_818 rfl (fun _ => ?_) (fun h => absurd rfl h)
  exact kk σ' τ' hI'
set_option maxRecDepth 100000 in
set_option maxHeartbeats 4000000 in
theorem law_17 {p : Program} {l : Launch} {e : Env} {s : State} {m : MethodId} {below : List Frame} {meth : Method} {c : Code} {A : Nat → Prop} {D : va_G} {h0 h1 : Nat} {E E1 : EX} {b L : Nat} {xs : Nat → Int32} (hL : L ≤ 3072) (hX : va_X b L xs s s.heap) (hbl : b < s.heap.size) (hbA : ¬ A b) (C : GC p room_1 s m #[Value.ref b] meth c A D code 4 14 833 (tysX0 E ++ tysX1 E1) RL ret) {j : Nat} (hj : j + 6 ≤ L) {σ τ : SX} (hI : IV σ τ) (kk : ∀ σ τ : SX, IV σ τ → GW p l e room_1 s m #[Value.ref b] below meth c (lw_Z below #[Value.ref b] s) A D 4 14 833 (wX0 h0 E σ ++ wX1 h1 E1 τ) 846 [(0, .ref b), (1, .ref h0), (2, .ref h1), (3, .int (nI j))] []) : GW p l e room_1 s m #[Value.ref b] below meth c (lw_Z below #[Value.ref b] s) A D 4 14 833 (wX0 h0 E σ ++ wX1 h1 E1 τ) 823 [(0, .ref b), (1, .ref h0), (2, .ref h1), (3, .int (nI j))] [] := by
  have vin : ∀ t, t < 6 → vp_in (nI j + nI t) L := fun t ht => by rw [nI_add]; exact vp_in_nI (by omega) (by omega)
  obtain ⟨r, σ', τ', e0, e1, hI'⟩ := T_many hI (xs (nI j + nI 1).toNatClampNeg)
  refine g_aload_n C dL_law_823 1 rfl ?_
  refine g_aload_n C dL_law_824 0 rfl ?_
  refine g_iload_n C dL_law_825 3 rfl ?_
  refine g_iconst (v := nI 1) C dL_law_826 rfl ?_
  refine g_iadd C dL_law_827 ?_
  refine g_sld C hX hbl hbA (vin 1 (by omega)) dL_law_828 ?_
  refine l_call0 C (kX0_many l D h0 E _ _ _ _ e0) gL_X0_many hn_X0_many rfl (Nat.le_of_ble_eq_true rfl) (Nat.le_of_ble_eq_true rfl) rfl (Nat.le_of_ble_eq_true rfl) dL_law_829 ?_
  refine g_aload_n C dL_law_832 2 rfl ?_
  refine g_aload_n C dL_law_833 0 rfl ?_
  refine g_iload_n C dL_law_834 3 rfl ?_
  refine g_iconst (v := nI 1) C dL_law_835 rfl ?_
  refine g_iadd C dL_law_836 ?_
  refine g_sld C hX hbl hbA (vin 1 (by omega)) dL_law_837 ?_
  refine l_call1 C (kX1_many l D h1 E1 _ _ _ _ e1) gL_X1_many hn_X1_many rfl (Nat.le_of_ble_eq_true rfl) (Nat.le_of_ble_eq_true rfl) rfl (Nat.le_of_ble_eq_true rfl) dL_law_838 ?_
  refine b_icmp_eq (tgt := 846) C dL_law_841 rfl (fun _ => ?_) (fun h => absurd rfl h)
  exact kk σ' τ' hI'
set_option maxRecDepth 100000 in
set_option maxHeartbeats 4000000 in
theorem law_loop {p : Program} {l : Launch} {e : Env} {s : State} {m : MethodId} {below : List Frame} {meth : Method} {c : Code} {A : Nat → Prop} {D : va_G} {h0 h1 : Nat} {E E1 : EX} {b L : Nat} {xs : Nat → Int32} (hL : L ≤ 3072) (hX : va_X b L xs s s.heap) (hbl : b < s.heap.size) (hbA : ¬ A b) (hAs : ∀ q, A q → s.heap.size ≤ q) (C : GC p room_1 s m #[Value.ref b] meth c A D code 4 14 833 (tysX0 E ++ tysX1 E1) RL ret) : ∀ (n j : Nat) (σ τ : SX), j ≤ L + 6 → L + 7 ≤ j + n → IV σ τ → GW p l e room_1 s m #[Value.ref b] below meth c (lw_Z below #[Value.ref b] s) A D 4 14 833 (wX0 h0 E σ ++ wX1 h1 E1 τ) 18 [(0, .ref b), (1, .ref h0), (2, .ref h1), (3, .int (nI j))] [] := by
  intro n
  induction n with
  | zero => intro j σ τ h1 h2; exact absurd h2 (by omega)
  | succ n ih =>
    intro j σ τ hj1 hj2 hI
    refine g_iload_n C dL_law_18 3 rfl ?_
    refine g_aload_n C dL_law_19 0 rfl ?_
    refine g_slen C hX hbl hbA dL_law_20 ?_
    refine g_bipush (v := nI 6) C dL_law_21 rfl ?_
    refine g_isub C dL_law_23 ?_
    refine b_icmp_gt (tgt := 852) C dL_law_24 rfl (fun hc => ?_) (fun hc => ?_)
    · refine g_iconst (v := 1) C dL_law_852 rfl ?_
      intro H locs ls hP hD hS hl
      refine va_forget (fun q hq => hAs _ (hS.2.2 q hq)) ?_
      exact lw_ret C.1 C.2.1 C.2.2.2.2.2.2.2.2.1 C.2.2.2.2.2.2.2.1 dL_law_853
    · have hj : j + 6 ≤ L := by
        apply Nat.le_of_not_lt
        intro q
        exact hc ((lt_sub (by omega) (by omega) (by omega)).mpr q)
      have kk : ∀ σ τ : SX, IV σ τ → GW p l e room_1 s m #[Value.ref b] below meth c (lw_Z below #[Value.ref b] s) A D 4 14 833 (wX0 h0 E σ ++ wX1 h1 E1 τ) 846 [(0, .ref b), (1, .ref h0), (2, .ref h1), (3, .int (nI j))] [] := by
        intro σ τ hI
        refine g_iinc (v := nI (j + 6)) (lv2 := [(3, .int (nI (j + 6))), (0, .ref b), (1, .ref h0), (2, .ref h1)]) C dL_law_846 3 rfl (nI_add j 6) (Nat.le_of_ble_eq_true rfl) rfl ?_
        refine g_goto (tgt := 18) C dL_law_849 rfl ?_
        refine g_sub [1, 2, 3, 0] (lv2 := [(0, .ref b), (1, .ref h0), (2, .ref h1), (3, .int (nI (j + 6)))]) rfl ?_
        exact ih (j + 6) σ τ (by omega) (by omega) hI
      refine g_aload_n C dL_law_27 0 rfl ?_
      refine g_iload_n C dL_law_28 3 rfl ?_
      refine g_sld C hX hbl hbA (vp_in_nI (by omega) (by omega)) dL_law_29 ?_
      refine g_bipush (v := nI 31) C dL_law_30 rfl ?_
      refine g_iand C dL_law_32 ?_
      generalize xs (nI j).toNatClampNeg &&& nI 31 = x
      by_cases hc0 : x = nI 0
      · refine g_tswI (tgt := 120) C dL_law_33 hc0 (by decide) (by decide) rfl rfl ?_
        exact law_0 hL hX hbl hbA C hj hI kk
      by_cases hc1 : x = nI 1
      · refine g_tswI (tgt := 153) C dL_law_33 hc1 (by decide) (by decide) rfl rfl ?_
        exact law_1 hL hX hbl hbA C hj hI kk
      by_cases hc2 : x = nI 2
      · refine g_tswI (tgt := 206) C dL_law_33 hc2 (by decide) (by decide) rfl rfl ?_
        exact law_2 hL hX hbl hbA C hj hI kk
      by_cases hc3 : x = nI 3
      · refine g_tswI (tgt := 239) C dL_law_33 hc3 (by decide) (by decide) rfl rfl ?_
        exact law_3 hL hX hbl hbA C hj hI kk
      by_cases hc4 : x = nI 4
      · refine g_tswI (tgt := 282) C dL_law_33 hc4 (by decide) (by decide) rfl rfl ?_
        exact law_4 hL hX hbl hbA C hj hI kk
      by_cases hc5 : x = nI 5
      · refine g_tswI (tgt := 325) C dL_law_33 hc5 (by decide) (by decide) rfl rfl ?_
        exact law_5 hL hX hbl hbA C hj hI kk
      by_cases hc6 : x = nI 6
      · refine g_tswI (tgt := 368) C dL_law_33 hc6 (by decide) (by decide) rfl rfl ?_
        exact law_6 hL hX hbl hbA C hj hI kk
      by_cases hc7 : x = nI 7
      · refine g_tswI (tgt := 431) C dL_law_33 hc7 (by decide) (by decide) rfl rfl ?_
        exact law_7 hL hX hbl hbA C hj hI kk
      by_cases hc8 : x = nI 8
      · refine g_tswI (tgt := 474) C dL_law_33 hc8 (by decide) (by decide) rfl rfl ?_
        exact law_8 hL hX hbl hbA C hj hI kk
      by_cases hc9 : x = nI 9
      · refine g_tswI (tgt := 497) C dL_law_33 hc9 (by decide) (by decide) rfl rfl ?_
        exact law_9 hL hX hbl hbA C hj hI kk
      by_cases hc10 : x = nI 10
      · refine g_tswI (tgt := 560) C dL_law_33 hc10 (by decide) (by decide) rfl rfl ?_
        exact law_10 hL hX hbl hbA C hj hI kk
      by_cases hc11 : x = nI 11
      · refine g_tswI (tgt := 599) C dL_law_33 hc11 (by decide) (by decide) rfl rfl ?_
        exact law_11 hL hX hbl hbA C hj hI kk
      by_cases hc12 : x = nI 12
      · refine g_tswI (tgt := 632) C dL_law_33 hc12 (by decide) (by decide) rfl rfl ?_
        exact law_12 hL hX hbl hbA C hj hI kk
      by_cases hc13 : x = nI 13
      · refine g_tswI (tgt := 665) C dL_law_33 hc13 (by decide) (by decide) rfl rfl ?_
        exact law_13 hL hX hbl hbA C hj hI kk
      by_cases hc14 : x = nI 14
      · refine g_tswI (tgt := 708) C dL_law_33 hc14 (by decide) (by decide) rfl rfl ?_
        exact law_14 hL hX hbl hbA C hj hI kk
      by_cases hc15 : x = nI 15
      · refine g_tswI (tgt := 767) C dL_law_33 hc15 (by decide) (by decide) rfl rfl ?_
        exact law_15 hL hX hbl hbA C hj hI kk
      by_cases hc16 : x = nI 16
      · refine g_tswI (tgt := 790) C dL_law_33 hc16 (by decide) (by decide) rfl rfl ?_
        exact law_16 hL hX hbl hbA C hj hI kk
      by_cases hc17 : x = nI 17
      · refine g_tswI (tgt := 823) C dL_law_33 hc17 (by decide) (by decide) rfl rfl ?_
        exact law_17 hL hX hbl hbA C hj hI kk
      refine g_tswO (tgt := 846) C dL_law_33 (sw_out (hi := 17) (by decide) (fun t ht => by rcases (show t = 0 ∨ t = 1 ∨ t = 2 ∨ t = 3 ∨ t = 4 ∨ t = 5 ∨ t = 6 ∨ t = 7 ∨ t = 8 ∨ t = 9 ∨ t = 10 ∨ t = 11 ∨ t = 12 ∨ t = 13 ∨ t = 14 ∨ t = 15 ∨ t = 16 ∨ t = 17 by omega) with rfl | rfl | rfl | rfl | rfl | rfl | rfl | rfl | rfl | rfl | rfl | rfl | rfl | rfl | rfl | rfl | rfl | rfl <;> assumption)) rfl ?_
      exact kk σ τ hI
theorem IV0 {σ τ : SX} (h : P0 σ) (g : P1 τ) : IV σ τ := by
  obtain ⟨h1, h2, h3, h4⟩ := h
  obtain ⟨g1, g2, g3, g4⟩ := g
  have hV : BV (σ.1 2) := fun x hx => Or.inl (h2 x hx)
  have hbl : τ.1 2 = σ.1 2 := by
    funext x
    by_cases q : x < 96
    · rw [h2 x q, g2 x q]
    · rw [h3 x (by omega), g3 x (by omega)]
  refine ⟨fun _ => 0, σ.1 2, fun _ => 0, σ.2, ⟨h1 0 (by decide), rfl, h1 3 (by decide), fun b hb => ?_, fun _ _ => rfl⟩, ⟨g1 0 (by decide), hbl, g1 1 (by decide), ?_, ?_, ?_, ?_, ?_, ?_, ?_, ?_⟩, hV, fun f _ => ⟨0, by omega, rfl⟩, ?_, ?_⟩
  · have e : cB (σ.1 2) (nI b) = 0 := cntP_0 (fun x hx => by
      rw [h2 x hx]
      have e0 : (nN = nI b) = False := nN_nI (by omega)
      simp [e0])
    rw [e, h1 1 (by decide)]; rfl
  all_goals (try rw [h4])
  all_goals (try rw [g4])
  all_goals first | rfl | exact Or.inl rfl
set_option maxRecDepth 100000 in
set_option maxHeartbeats 4000000 in
theorem whole_start {p : Program} {e : Env} {s : State} {m : MethodId} {below : List Frame} {meth : Method} {c : Code} (l : Launch) (hflags : l.flags = flags0) {b L : Nat} {xs : Nat → Int32} (hL : L ≤ 3072) (C0 : lw_At p s m meth c b L xs) : W p l e room_1 s m #[Value.ref b] below meth c s.heap [] 0 0 (lw_Z below #[Value.ref b] s) (entryFrame m ([Value.ref b] : List Value).toArray 4) := by
  obtain ⟨hx, hb, hr, hml, hown, hts0, hX, hbl, hlocks, hgv⟩ := C0
  have hts : ∀ w ∈ tw, w.before #[Value.ref b] s = true := fun w hw => hts0 w (tw_tbl hw)
  have hown : s.vm.findClass RL = some m.cls := hown
  have hA : ∀ q : Nat, s.heap.size ≤ q → (fun q : Nat => s.heap.size ≤ q) q := fun _ h => h
  have hbA : ¬ (fun q : Nat => s.heap.size ≤ q) b := Nat.not_le.mpr hbl
  obtain ⟨c0, iS0, hKn0⟩ := u_known (C := RX0) (T := TX0) (N := 16) (n := 16) hts inX0 (hts (.instantiable RX0 16) mw_64)
  obtain ⟨c1, iS1, hKn1⟩ := u_known (C := RX1) (T := TX1) (N := 17) (n := 17) hts inX1 (hts (.instantiable RX1 17) mw_365)
  obtain ⟨dC, dI, hKc⟩ : ∃ (dC : Nat → ClassId) (dI : Nat → Nat → Nat), ∀ (k : Nat) (q : vw_C), vwCl[k]? = some q → u_Kn s q.1 q.2.1 q.2.2 (dC k) (dI k) := by
    refine ⟨fun k => if k = 0 then c0 else c1, fun k => if k = 0 then iS0 else iS1, ?_⟩
    intro k q hq
    match k, hq with
    | 0, hq => cases hq; exact hKn0
    | 1, hq => cases hq; exact hKn1
    | k + 2, hq => simp [vwCl] at hq
  have hS : va_S (fun q : Nat => s.heap.size ≤ q) s.heap s.heap [] := va_S.rf
  have hK : va_K (dC, dI) vwCl [] s := ⟨hKc, fun k q h => by simp at h⟩
  have hP : va_P (dC, dI) vwCl [] s.heap := fun k q h => by simp at h
  have hD : va_D (fun q : Nat => s.heap.size ≤ q) [] := ⟨fun i j p q h => by simp at h, fun k q h => by simp at h⟩
  have hl := lv_entry ([.ref b]) (n := 4) (Nat.le_of_ble_eq_true rfl)
  rw [lg_entry_eq]
  generalize (lg_sl ([.ref b]) ++ List.replicate (4 - (lg_sl ([.ref b])).length) Slot.unset).toArray = ls at hl ⊢
  have hl : lv_has ls 4 [(0, .ref b)] := hl
  refine va_new (ci := 0) (fs := [.null, .null, .null, .null, .null, .int 0, .null, .int 0, .int 0, .int 0, .int 0, .int 0, .int 0, .int 0, .int 0, .int 0]) (C := RX0) (T := TX0) (N := 16) hx hb hts inX0 tyX0 tyX0_ok hown (hts _ mw_63) (hts _ mw_64) (hts _ mw_60) hK hP hD hS hA rfl (fun j hj => by rcases (show j = 0 ∨ j = 1 ∨ j = 2 ∨ j = 3 ∨ j = 4 ∨ j = 5 ∨ j = 6 ∨ j = 7 ∨ j = 8 ∨ j = 9 ∨ j = 10 ∨ j = 11 ∨ j = 12 ∨ j = 13 ∨ j = 14 ∨ j = 15 by omega) with rfl | rfl | rfl | rfl | rfl | rfl | rfl | rfl | rfl | rfl | rfl | rfl | rfl | rfl | rfl | rfl <;> rfl) (Nat.le_of_ble_eq_true rfl) (Nat.le_of_ble_eq_true rfl) dL_law_0 (fun h0 H hP hD hS => ?_)
  have hP : va_P (dC, dI) vwCl [(h0, .inr (0, [.null, .null, .null, .null, .null, .int 0, .null, .int 0, .int 0, .int 0, .int 0, .int 0, .int 0, .int 0, .int 0, .int 0]))] H := hP
  have hD : va_D (fun q : Nat => s.heap.size ≤ q) [(h0, .inr (0, [.null, .null, .null, .null, .null, .int 0, .null, .int 0, .int 0, .int 0, .int 0, .int 0, .int 0, .int 0, .int 0, .int 0]))] := hD
  refine lv_dup hx hb dL_law_3 rfl ?_
  have hFc := va_free (wc := [(h0, .inr (0, [.null, .null, .null, .null, .null, .int 0, .null, .int 0, .int 0, .int 0, .int 0, .int 0, .int 0, .int 0, .int 0, .int 0]))]) hD hS hA [0] rfl
  refine va_callv (va_runI (As := []) (rest := [.ref h0]) ⟨hx, hb, hml, hown, hts⟩ (kX0_init l (dC, dI) h0 H.size) (cwI 0 hts gL_X0_init rfl rfl rfl (hts (.initialized RX0) mw_60) (hts _ mw_65) (hts _ mw_66) rfl (by decide +kernel) ⟨Nat.le_of_ble_eq_true rfl, Nat.le_of_ble_eq_true rfl⟩) ⟨fun a U g mk q => by obtain ⟨q0, q1, qP, qK, qD⟩ := q; exact ⟨q0, q1, qP, va_K.moved (u := U) (U := U.calling g mk a) (Vm.Alike.refl U.vm) qK, qD⟩, fun U hU hW => ⟨rfl, by rw [hU], by rw [hU]; exact hP, va_K.moved hW.alike hK, hD.weaken (fun _ _ _ _ => trivial)⟩⟩ rfl rfl hl.1 rfl (lv_room (Nat.le_of_ble_eq_true rfl)) dL_law_4 ⟨Nat.le_of_ble_eq_true rfl, Nat.le_of_ble_eq_true rfl⟩) hS (fun q _ h => hFc q h) hFc (fun u t H1 locs ht hvm hw0 hB hz1 hk1 hS => ?_)
  obtain ⟨E, σ⟩ := u
  obtain ⟨hP1, hK1, hD1⟩ := hB
  rw [ht] at hP1
  have hK1 := va_K.moved hvm.symm hK1
  obtain ⟨hP, hD⟩ := va_join (wr := []) (w1 := wX0 h0 E σ) hP hD [0] [] rfl rfl (by decide) (by decide) hk1 hFc hP1 hD1
  generalize H1 = H at hP hS ⊢
  have hP : va_P (dC, dI) vwCl (wX0 h0 E σ) H := hP
  have hD : va_D (fun q : Nat => s.heap.size ≤ q) (wX0 h0 E σ) := hD
  have hK : va_K (dC, dI) vwCl (tysX0 E) s := hK1
  refine W.widen (k := 7) (n := 428) (Nat.le_of_ble_eq_true rfl) (Nat.le_of_ble_eq_true rfl) ?_
  refine lv_astore_n (lv' := [(1, .ref h0), (0, .ref b)]) hx hb dL_law_7 rfl hl (by decide) rfl (fun ls hl => ?_)
  refine va_new (ci := 1) (fs := [.null, .null, .null, .int 0, .int 0, .null, .null, .int 0, .null, .int 0, .int 0, .int 0, .int 0, .int 0, .int 0, .int 0, .int 0]) (C := RX1) (T := TX1) (N := 17) hx hb hts inX1 tyX1 tyX1_ok hown (hts _ mw_364) (hts _ mw_365) (hts _ mw_61) hK hP hD hS hA rfl (fun j hj => by rcases (show j = 0 ∨ j = 1 ∨ j = 2 ∨ j = 3 ∨ j = 4 ∨ j = 5 ∨ j = 6 ∨ j = 7 ∨ j = 8 ∨ j = 9 ∨ j = 10 ∨ j = 11 ∨ j = 12 ∨ j = 13 ∨ j = 14 ∨ j = 15 ∨ j = 16 by omega) with rfl | rfl | rfl | rfl | rfl | rfl | rfl | rfl | rfl | rfl | rfl | rfl | rfl | rfl | rfl | rfl | rfl <;> rfl) (Nat.le_of_ble_eq_true rfl) (Nat.le_of_ble_eq_true rfl) dL_law_8 (fun h1 H hP hD hS => ?_)
  refine lv_dup hx hb dL_law_11 rfl ?_
  have hPc := hP.sub (ws' := [(h1, .inr (1, [.null, .null, .null, .int 0, .int 0, .null, .null, .int 0, .null, .int 0, .int 0, .int 0, .int 0, .int 0, .int 0, .int 0, .int 0]))]) [7] rfl
  have hDc := hD.sub (ws' := [(h1, .inr (1, [.null, .null, .null, .int 0, .int 0, .null, .null, .int 0, .null, .int 0, .int 0, .int 0, .int 0, .int 0, .int 0, .int 0, .int 0]))]) [7] (by decide) rfl
  have hKc2 := hK.sub (tys' := []) [] rfl
  have hFc := va_free (wc := [(h1, .inr (1, [.null, .null, .null, .int 0, .int 0, .null, .null, .int 0, .null, .int 0, .int 0, .int 0, .int 0, .int 0, .int 0, .int 0, .int 0]))]) hD hS hA [7] rfl
  refine va_callv (va_runI (As := []) (rest := [.ref h1]) ⟨hx, hb, hml, hown, hts⟩ (kX1_init l (dC, dI) h1 H.size) (cwI 0 hts gL_X1_init rfl rfl rfl (hts (.initialized RX1) mw_61) (hts _ mw_366) (hts _ mw_367) rfl (by decide +kernel) ⟨Nat.le_of_ble_eq_true rfl, Nat.le_of_ble_eq_true rfl⟩) ⟨fun a U g mk q => by obtain ⟨q0, q1, qP, qK, qD⟩ := q; exact ⟨q0, q1, qP, va_K.moved (u := U) (U := U.calling g mk a) (Vm.Alike.refl U.vm) qK, qD⟩, fun U hU hW => ⟨rfl, by rw [hU], by rw [hU]; exact hPc, va_K.moved hW.alike hKc2, hDc.weaken (fun _ _ _ _ => trivial)⟩⟩ rfl rfl hl.1 rfl (lv_room (Nat.le_of_ble_eq_true rfl)) dL_law_12 ⟨Nat.le_of_ble_eq_true rfl, Nat.le_of_ble_eq_true rfl⟩) hS (fun q _ h => hFc q h) hFc (fun u t H1 locs ht hvm hw1 hB hz1 hk1 hS => ?_)
  obtain ⟨E1, τ⟩ := u
  obtain ⟨hP1, hK1, hD1⟩ := hB
  rw [ht] at hP1
  have hK1 := va_K.moved hvm.symm hK1
  obtain ⟨hP, hD⟩ := va_join (wr := wX0 h0 E σ) (w1 := wX1 h1 E1 τ) hP hD [7] [0, 1, 2, 3, 4, 5, 6] rfl rfl (by decide) (by decide) hk1 hFc hP1 hD1
  generalize H1 = H at hP hS ⊢
  have hK : va_K (dC, dI) vwCl (tysX0 E ++ tysX1 E1) s := hK.app hK1
  refine W.widen (k := 14) (n := 833) (Nat.le_of_ble_eq_true rfl) (Nat.le_of_ble_eq_true rfl) ?_
  refine lv_astore_n (lv' := [(2, .ref h1), (1, .ref h0), (0, .ref b)]) hx hb dL_law_15 rfl hl (by decide) rfl (fun ls hl => ?_)
  refine lv_iconst (v := nI 0) hx hb dL_law_16 rfl ?_
  refine lv_istore_n (lv' := [(3, .int (nI 0)), (2, .ref h1), (1, .ref h0), (0, .ref b)]) hx hb dL_law_17 rfl hl (by decide) rfl (fun ls hl => ?_)
  exact law_loop (A := fun q : Nat => s.heap.size ≤ q) hL hX hbl hbA (fun _ h => h) ⟨hx, hb, hml, hown, hts, hK, hA, hlocks, hr, Nat.le_of_ble_eq_true rfl, Nat.le_of_ble_eq_true rfl⟩ (L + 7) 0 σ τ (by omega) (by omega) (IV0 hw0 hw1) H locs ls hP hD hS (lv_sub hl [3, 2, 1, 0] rfl)
