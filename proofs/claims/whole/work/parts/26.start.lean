theorem wd_25 : Cond.initialized R_L ∈ lw_g := wd_in (i := 25) (by decide +kernel) (by decide +kernel)
theorem wd_38 : Cond.classLink R_L 7 R_F ∈ lw_g := wd_in (i := 38) (by decide +kernel) (by decide +kernel)
theorem wd_40 : Cond.methodLink R_L 15 y_F_init ∈ lw_g := wd_in (i := 40) (by decide +kernel) (by decide +kernel)
theorem wd_41 : Cond.instanceMethod y_F_init ∈ lw_g := wd_in (i := 41) (by decide +kernel) (by decide +kernel)
theorem wd_42 : Cond.code y_F_init prog_1_method_1_code 2 (Option.none : Option Jvm.ClassFile.FieldType) ∈ lw_g := wd_in (i := 42) (by decide +kernel) (by decide +kernel)
theorem wd_224 : Cond.methodLink R_L 21 y_F_word ∈ lw_g := wd_in (i := 224) (by decide +kernel) (by decide +kernel)
theorem wd_225 : Cond.instanceMethod y_F_word ∈ lw_g := wd_in (i := 225) (by decide +kernel) (by decide +kernel)
theorem wd_226 : Cond.selects R_F y_F_word y_F_word ∈ lw_g := wd_in (i := 226) (by decide +kernel) (by decide +kernel)
theorem wd_227 : Cond.code y_F_word prog_1_method_2_code 3 (Option.some Jvm.ClassFile.FieldType.boolean) ∈ lw_g := wd_in (i := 227) (by decide +kernel) (by decide +kernel)
theorem wd_228 : Cond.methodLink R_L 28 y_F_argument ∈ lw_g := wd_in (i := 228) (by decide +kernel) (by decide +kernel)
theorem wd_229 : Cond.instanceMethod y_F_argument ∈ lw_g := wd_in (i := 229) (by decide +kernel) (by decide +kernel)
theorem wd_230 : Cond.selects R_F y_F_argument y_F_argument ∈ lw_g := wd_in (i := 230) (by decide +kernel) (by decide +kernel)
theorem wd_231 : Cond.code y_F_argument prog_1_method_3_code 4 (Option.some Jvm.ClassFile.FieldType.boolean) ∈ lw_g := wd_in (i := 231) (by decide +kernel) (by decide +kernel)
theorem wd_239 : Cond.methodLink R_L 33 y_F_rule ∈ lw_g := wd_in (i := 239) (by decide +kernel) (by decide +kernel)
theorem wd_240 : Cond.instanceMethod y_F_rule ∈ lw_g := wd_in (i := 240) (by decide +kernel) (by decide +kernel)
theorem wd_241 : Cond.selects R_F y_F_rule y_F_rule ∈ lw_g := wd_in (i := 241) (by decide +kernel) (by decide +kernel)
theorem wd_242 : Cond.code y_F_rule prog_1_method_4_code 6 (Option.some Jvm.ClassFile.FieldType.int) ∈ lw_g := wd_in (i := 242) (by decide +kernel) (by decide +kernel)
theorem wd_260 : Cond.methodLink R_L 38 y_F_condition ∈ lw_g := wd_in (i := 260) (by decide +kernel) (by decide +kernel)
theorem wd_261 : Cond.instanceMethod y_F_condition ∈ lw_g := wd_in (i := 261) (by decide +kernel) (by decide +kernel)
theorem wd_262 : Cond.selects R_F y_F_condition y_F_condition ∈ lw_g := wd_in (i := 262) (by decide +kernel) (by decide +kernel)
theorem wd_263 : Cond.code y_F_condition prog_1_method_5_code 8 (Option.some Jvm.ClassFile.FieldType.boolean) ∈ lw_g := wd_in (i := 263) (by decide +kernel) (by decide +kernel)
theorem wd_275 : Cond.methodLink R_L 43 y_F_otherwise ∈ lw_g := wd_in (i := 275) (by decide +kernel) (by decide +kernel)
theorem wd_276 : Cond.instanceMethod y_F_otherwise ∈ lw_g := wd_in (i := 276) (by decide +kernel) (by decide +kernel)
theorem wd_277 : Cond.selects R_F y_F_otherwise y_F_otherwise ∈ lw_g := wd_in (i := 277) (by decide +kernel) (by decide +kernel)
theorem wd_278 : Cond.code y_F_otherwise prog_1_method_6_code 5 (Option.some Jvm.ClassFile.FieldType.boolean) ∈ lw_g := wd_in (i := 278) (by decide +kernel) (by decide +kernel)
theorem wd_280 : Cond.methodLink R_L 48 y_F_withdraw ∈ lw_g := wd_in (i := 280) (by decide +kernel) (by decide +kernel)
theorem wd_281 : Cond.instanceMethod y_F_withdraw ∈ lw_g := wd_in (i := 281) (by decide +kernel) (by decide +kernel)
theorem wd_282 : Cond.selects R_F y_F_withdraw y_F_withdraw ∈ lw_g := wd_in (i := 282) (by decide +kernel) (by decide +kernel)
theorem wd_283 : Cond.code y_F_withdraw prog_1_method_7_code 1 (Option.some Jvm.ClassFile.FieldType.int) ∈ lw_g := wd_in (i := 283) (by decide +kernel) (by decide +kernel)
theorem wd_284 : Cond.methodLink R_L 53 y_F_decide ∈ lw_g := wd_in (i := 284) (by decide +kernel) (by decide +kernel)
theorem wd_285 : Cond.instanceMethod y_F_decide ∈ lw_g := wd_in (i := 285) (by decide +kernel) (by decide +kernel)
theorem wd_286 : Cond.selects R_F y_F_decide y_F_decide ∈ lw_g := wd_in (i := 286) (by decide +kernel) (by decide +kernel)
theorem wd_287 : Cond.code y_F_decide prog_1_method_8_code 1 (Option.some Jvm.ClassFile.FieldType.long) ∈ lw_g := wd_in (i := 287) (by decide +kernel) (by decide +kernel)
theorem wd_336 : Cond.methodLink R_L 58 y_F_ruling ∈ lw_g := wd_in (i := 336) (by decide +kernel) (by decide +kernel)
theorem wd_337 : Cond.instanceMethod y_F_ruling ∈ lw_g := wd_in (i := 337) (by decide +kernel) (by decide +kernel)
theorem wd_338 : Cond.selects R_F y_F_ruling y_F_ruling ∈ lw_g := wd_in (i := 338) (by decide +kernel) (by decide +kernel)
theorem wd_339 : Cond.code y_F_ruling prog_1_method_9_code 1 (Option.some Jvm.ClassFile.FieldType.int) ∈ lw_g := wd_in (i := 339) (by decide +kernel) (by decide +kernel)
theorem wd_340 : Cond.methodLink R_L 62 y_F_put ∈ lw_g := wd_in (i := 340) (by decide +kernel) (by decide +kernel)
theorem wd_341 : Cond.instanceMethod y_F_put ∈ lw_g := wd_in (i := 341) (by decide +kernel) (by decide +kernel)
theorem wd_342 : Cond.selects R_F y_F_put y_F_put ∈ lw_g := wd_in (i := 342) (by decide +kernel) (by decide +kernel)
theorem wd_343 : Cond.code y_F_put prog_1_method_10_code 3 (Option.some Jvm.ClassFile.FieldType.boolean) ∈ lw_g := wd_in (i := 343) (by decide +kernel) (by decide +kernel)
theorem wd_344 : Cond.methodLink R_L 67 y_F_cut ∈ lw_g := wd_in (i := 344) (by decide +kernel) (by decide +kernel)
theorem wd_345 : Cond.instanceMethod y_F_cut ∈ lw_g := wd_in (i := 345) (by decide +kernel) (by decide +kernel)
theorem wd_346 : Cond.selects R_F y_F_cut y_F_cut ∈ lw_g := wd_in (i := 346) (by decide +kernel) (by decide +kernel)
theorem wd_347 : Cond.code y_F_cut prog_1_method_11_code 2 (Option.some Jvm.ClassFile.FieldType.int) ∈ lw_g := wd_in (i := 347) (by decide +kernel) (by decide +kernel)
theorem wd_348 : Cond.methodLink R_L 72 y_F_length ∈ lw_g := wd_in (i := 348) (by decide +kernel) (by decide +kernel)
theorem wd_349 : Cond.instanceMethod y_F_length ∈ lw_g := wd_in (i := 349) (by decide +kernel) (by decide +kernel)
theorem wd_350 : Cond.selects R_F y_F_length y_F_length ∈ lw_g := wd_in (i := 350) (by decide +kernel) (by decide +kernel)
theorem wd_351 : Cond.code y_F_length prog_1_method_12_code 1 (Option.some Jvm.ClassFile.FieldType.int) ∈ lw_g := wd_in (i := 351) (by decide +kernel) (by decide +kernel)
theorem wd_352 : Cond.methodLink R_L 76 y_F_check ∈ lw_g := wd_in (i := 352) (by decide +kernel) (by decide +kernel)
theorem wd_353 : Cond.instanceMethod y_F_check ∈ lw_g := wd_in (i := 353) (by decide +kernel) (by decide +kernel)
theorem wd_354 : Cond.selects R_F y_F_check y_F_check ∈ lw_g := wd_in (i := 354) (by decide +kernel) (by decide +kernel)
theorem wd_355 : Cond.code y_F_check prog_1_method_13_code 1 (Option.some Jvm.ClassFile.FieldType.int) ∈ lw_g := wd_in (i := 355) (by decide +kernel) (by decide +kernel)
theorem wd_419 : Cond.methodLink R_L 80 y_F_run ∈ lw_g := wd_in (i := 419) (by decide +kernel) (by decide +kernel)
theorem wd_420 : Cond.instanceMethod y_F_run ∈ lw_g := wd_in (i := 420) (by decide +kernel) (by decide +kernel)
theorem wd_421 : Cond.selects R_F y_F_run y_F_run ∈ lw_g := wd_in (i := 421) (by decide +kernel) (by decide +kernel)
theorem wd_422 : Cond.code y_F_run prog_1_method_14_code 1 (Option.some Jvm.ClassFile.FieldType.long) ∈ lw_g := wd_in (i := 422) (by decide +kernel) (by decide +kernel)
theorem wd_478 : Cond.methodLink R_L 84 y_F_steps ∈ lw_g := wd_in (i := 478) (by decide +kernel) (by decide +kernel)
theorem wd_479 : Cond.instanceMethod y_F_steps ∈ lw_g := wd_in (i := 479) (by decide +kernel) (by decide +kernel)
theorem wd_480 : Cond.selects R_F y_F_steps y_F_steps ∈ lw_g := wd_in (i := 480) (by decide +kernel) (by decide +kernel)
theorem wd_481 : Cond.code y_F_steps prog_1_method_15_code 1 (Option.some Jvm.ClassFile.FieldType.int) ∈ lw_g := wd_in (i := 481) (by decide +kernel) (by decide +kernel)
theorem wd_482 : Cond.methodLink R_L 88 y_F_scratch ∈ lw_g := wd_in (i := 482) (by decide +kernel) (by decide +kernel)
theorem wd_483 : Cond.instanceMethod y_F_scratch ∈ lw_g := wd_in (i := 483) (by decide +kernel) (by decide +kernel)
theorem wd_484 : Cond.selects R_F y_F_scratch y_F_scratch ∈ lw_g := wd_in (i := 484) (by decide +kernel) (by decide +kernel)
theorem wd_485 : Cond.code y_F_scratch prog_1_method_16_code 2 (Option.some Jvm.ClassFile.FieldType.long) ∈ lw_g := wd_in (i := 485) (by decide +kernel) (by decide +kernel)
theorem wd_491 : Cond.methodLink R_L 9 y_L_cell ∈ lw_g := wd_in (i := 491) (by decide +kernel) (by decide +kernel)
theorem wd_492 : Cond.static y_L_cell ∈ lw_g := wd_in (i := 492) (by decide +kernel) (by decide +kernel)
theorem wd_493 : Cond.code y_L_cell method_2_code 2 (Option.some Jvm.ClassFile.FieldType.int) ∈ lw_g := wd_in (i := 493) (by decide +kernel) (by decide +kernel)
theorem wd_494 : Cond.classLink R_L 18 R_M ∈ lw_g := wd_in (i := 494) (by decide +kernel) (by decide +kernel)
theorem wd_496 : Cond.methodLink R_L 20 y_M_init ∈ lw_g := wd_in (i := 496) (by decide +kernel) (by decide +kernel)
theorem wd_497 : Cond.instanceMethod y_M_init ∈ lw_g := wd_in (i := 497) (by decide +kernel) (by decide +kernel)
theorem wd_498 : Cond.code y_M_init prog_12_method_1_code 2 (Option.none : Option Jvm.ClassFile.FieldType) ∈ lw_g := wd_in (i := 498) (by decide +kernel) (by decide +kernel)
theorem wd_562 : Cond.methodLink R_L 25 y_M_word ∈ lw_g := wd_in (i := 562) (by decide +kernel) (by decide +kernel)
theorem wd_563 : Cond.instanceMethod y_M_word ∈ lw_g := wd_in (i := 563) (by decide +kernel) (by decide +kernel)
theorem wd_564 : Cond.selects R_M y_M_word y_M_word ∈ lw_g := wd_in (i := 564) (by decide +kernel) (by decide +kernel)
theorem wd_565 : Cond.code y_M_word prog_12_method_2_code 3 (Option.some Jvm.ClassFile.FieldType.boolean) ∈ lw_g := wd_in (i := 565) (by decide +kernel) (by decide +kernel)
theorem wd_566 : Cond.methodLink R_L 32 y_M_argument ∈ lw_g := wd_in (i := 566) (by decide +kernel) (by decide +kernel)
theorem wd_567 : Cond.instanceMethod y_M_argument ∈ lw_g := wd_in (i := 567) (by decide +kernel) (by decide +kernel)
theorem wd_568 : Cond.selects R_M y_M_argument y_M_argument ∈ lw_g := wd_in (i := 568) (by decide +kernel) (by decide +kernel)
theorem wd_569 : Cond.code y_M_argument prog_12_method_3_code 4 (Option.some Jvm.ClassFile.FieldType.boolean) ∈ lw_g := wd_in (i := 569) (by decide +kernel) (by decide +kernel)
theorem wd_570 : Cond.methodLink R_L 37 y_M_rule ∈ lw_g := wd_in (i := 570) (by decide +kernel) (by decide +kernel)
theorem wd_571 : Cond.instanceMethod y_M_rule ∈ lw_g := wd_in (i := 571) (by decide +kernel) (by decide +kernel)
theorem wd_572 : Cond.selects R_M y_M_rule y_M_rule ∈ lw_g := wd_in (i := 572) (by decide +kernel) (by decide +kernel)
theorem wd_573 : Cond.code y_M_rule prog_12_method_5_code 5 (Option.some Jvm.ClassFile.FieldType.int) ∈ lw_g := wd_in (i := 573) (by decide +kernel) (by decide +kernel)
theorem wd_576 : Cond.methodLink R_L 42 y_M_condition ∈ lw_g := wd_in (i := 576) (by decide +kernel) (by decide +kernel)
theorem wd_577 : Cond.instanceMethod y_M_condition ∈ lw_g := wd_in (i := 577) (by decide +kernel) (by decide +kernel)
theorem wd_578 : Cond.selects R_M y_M_condition y_M_condition ∈ lw_g := wd_in (i := 578) (by decide +kernel) (by decide +kernel)
theorem wd_579 : Cond.code y_M_condition prog_12_method_6_code 8 (Option.some Jvm.ClassFile.FieldType.boolean) ∈ lw_g := wd_in (i := 579) (by decide +kernel) (by decide +kernel)
theorem wd_580 : Cond.methodLink R_L 47 y_M_otherwise ∈ lw_g := wd_in (i := 580) (by decide +kernel) (by decide +kernel)
theorem wd_581 : Cond.instanceMethod y_M_otherwise ∈ lw_g := wd_in (i := 581) (by decide +kernel) (by decide +kernel)
theorem wd_582 : Cond.selects R_M y_M_otherwise y_M_otherwise ∈ lw_g := wd_in (i := 582) (by decide +kernel) (by decide +kernel)
theorem wd_583 : Cond.code y_M_otherwise prog_12_method_7_code 4 (Option.some Jvm.ClassFile.FieldType.boolean) ∈ lw_g := wd_in (i := 583) (by decide +kernel) (by decide +kernel)
theorem wd_584 : Cond.methodLink R_L 52 y_M_withdraw ∈ lw_g := wd_in (i := 584) (by decide +kernel) (by decide +kernel)
theorem wd_585 : Cond.instanceMethod y_M_withdraw ∈ lw_g := wd_in (i := 585) (by decide +kernel) (by decide +kernel)
theorem wd_586 : Cond.selects R_M y_M_withdraw y_M_withdraw ∈ lw_g := wd_in (i := 586) (by decide +kernel) (by decide +kernel)
theorem wd_587 : Cond.code y_M_withdraw prog_12_method_8_code 1 (Option.some Jvm.ClassFile.FieldType.int) ∈ lw_g := wd_in (i := 587) (by decide +kernel) (by decide +kernel)
theorem wd_588 : Cond.methodLink R_L 61 y_M_ruling ∈ lw_g := wd_in (i := 588) (by decide +kernel) (by decide +kernel)
theorem wd_610 : Cond.methodLink R_L 57 y_M_decide ∈ lw_g := wd_in (i := 610) (by decide +kernel) (by decide +kernel)
theorem wd_611 : Cond.instanceMethod y_M_decide ∈ lw_g := wd_in (i := 611) (by decide +kernel) (by decide +kernel)
theorem wd_612 : Cond.selects R_M y_M_decide y_M_decide ∈ lw_g := wd_in (i := 612) (by decide +kernel) (by decide +kernel)
theorem wd_613 : Cond.code y_M_decide prog_12_method_13_code 2 (Option.some Jvm.ClassFile.FieldType.long) ∈ lw_g := wd_in (i := 613) (by decide +kernel) (by decide +kernel)
theorem wd_621 : Cond.methodLink R_L 66 y_M_put ∈ lw_g := wd_in (i := 621) (by decide +kernel) (by decide +kernel)
theorem wd_622 : Cond.instanceMethod y_M_put ∈ lw_g := wd_in (i := 622) (by decide +kernel) (by decide +kernel)
theorem wd_623 : Cond.selects R_M y_M_put y_M_put ∈ lw_g := wd_in (i := 623) (by decide +kernel) (by decide +kernel)
theorem wd_624 : Cond.code y_M_put prog_12_method_14_code 3 (Option.some Jvm.ClassFile.FieldType.boolean) ∈ lw_g := wd_in (i := 624) (by decide +kernel) (by decide +kernel)
theorem wd_625 : Cond.methodLink R_L 71 y_M_cut ∈ lw_g := wd_in (i := 625) (by decide +kernel) (by decide +kernel)
theorem wd_626 : Cond.instanceMethod y_M_cut ∈ lw_g := wd_in (i := 626) (by decide +kernel) (by decide +kernel)
theorem wd_627 : Cond.selects R_M y_M_cut y_M_cut ∈ lw_g := wd_in (i := 627) (by decide +kernel) (by decide +kernel)
theorem wd_628 : Cond.code y_M_cut prog_12_method_15_code 2 (Option.some Jvm.ClassFile.FieldType.int) ∈ lw_g := wd_in (i := 628) (by decide +kernel) (by decide +kernel)
theorem wd_629 : Cond.methodLink R_L 75 y_M_length ∈ lw_g := wd_in (i := 629) (by decide +kernel) (by decide +kernel)
theorem wd_630 : Cond.instanceMethod y_M_length ∈ lw_g := wd_in (i := 630) (by decide +kernel) (by decide +kernel)
theorem wd_631 : Cond.selects R_M y_M_length y_M_length ∈ lw_g := wd_in (i := 631) (by decide +kernel) (by decide +kernel)
theorem wd_632 : Cond.code y_M_length prog_12_method_16_code 1 (Option.some Jvm.ClassFile.FieldType.int) ∈ lw_g := wd_in (i := 632) (by decide +kernel) (by decide +kernel)
theorem wd_633 : Cond.methodLink R_L 79 y_M_check ∈ lw_g := wd_in (i := 633) (by decide +kernel) (by decide +kernel)
theorem wd_679 : Cond.methodLink R_L 83 y_M_run ∈ lw_g := wd_in (i := 679) (by decide +kernel) (by decide +kernel)
theorem wd_680 : Cond.instanceMethod y_M_run ∈ lw_g := wd_in (i := 680) (by decide +kernel) (by decide +kernel)
theorem wd_681 : Cond.selects R_M y_M_run y_M_run ∈ lw_g := wd_in (i := 681) (by decide +kernel) (by decide +kernel)
theorem wd_682 : Cond.code y_M_run prog_12_method_31_code 8 (Option.some Jvm.ClassFile.FieldType.long) ∈ lw_g := wd_in (i := 682) (by decide +kernel) (by decide +kernel)
theorem wd_699 : Cond.methodLink R_L 87 y_M_steps ∈ lw_g := wd_in (i := 699) (by decide +kernel) (by decide +kernel)
theorem wd_700 : Cond.instanceMethod y_M_steps ∈ lw_g := wd_in (i := 700) (by decide +kernel) (by decide +kernel)
theorem wd_701 : Cond.selects R_M y_M_steps y_M_steps ∈ lw_g := wd_in (i := 701) (by decide +kernel) (by decide +kernel)
theorem wd_702 : Cond.code y_M_steps prog_12_method_32_code 1 (Option.some Jvm.ClassFile.FieldType.int) ∈ lw_g := wd_in (i := 702) (by decide +kernel) (by decide +kernel)
theorem wd_703 : Cond.methodLink R_L 92 y_M_scratch ∈ lw_g := wd_in (i := 703) (by decide +kernel) (by decide +kernel)
theorem wd_704 : Cond.instanceMethod y_M_scratch ∈ lw_g := wd_in (i := 704) (by decide +kernel) (by decide +kernel)
theorem wd_705 : Cond.selects R_M y_M_scratch y_M_scratch ∈ lw_g := wd_in (i := 705) (by decide +kernel) (by decide +kernel)
theorem wd_706 : Cond.code y_M_scratch prog_12_method_33_code 2 (Option.some Jvm.ClassFile.FieldType.long) ∈ lw_g := wd_in (i := 706) (by decide +kernel) (by decide +kernel)
theorem wd_707 : Cond.constantLong R_L 26 4294967295 ∈ lw_g := wd_in (i := 707) (by decide +kernel) (by decide +kernel)
set_option maxHeartbeats 40000000 in
set_option maxRecDepth 100000 in
theorem whole_start {p : Program} {e : Env} {s : State} {m : MethodId} {below : List Frame} {meth : Method} {c : Code} (l : Launch) {b L : Nat} {xs : Nat → Int32} (hL : L ≤ 3585) (C0 : lw_At p s m meth c b L xs) : W p l e room_1 s m #[Value.ref b] below meth c s.heap [] 0 0 (lw_Z below #[Value.ref b] s) (entryFrame m ([Value.ref b] : List Value).toArray 4) := by
  obtain ⟨hx, hb, hr, hml, hown, hts0, hX, hbl, hlocks, hgv⟩ := C0
  have hts := fun (w : Cond) (h : w ∈ lw_g) => hts0 w (List.mem_filter.mp h).1
  have hN := nw_of hts0
  obtain ⟨D, dA, hK⟩ := k_of hts0
  obtain ⟨A, hAe⟩ : ∃ A : Nat → Prop, A = fun q => s.heap.size ≤ q := ⟨_, rfl⟩
  have hA : ∀ q : Nat, s.heap.size ≤ q → A q := fun q h => by rw [hAe]; exact h
  have hA' : ∀ q : Nat, A q → s.heap.size ≤ q := fun q h => by rw [hAe] at h; exact h
  obtain ⟨kt, hkw⟩ := kw_of (A := A) hts0 hgv (fun a h q => absurd h (Nat.not_lt.mpr (hA' a q)))
  have hbA : ¬ A b := fun q => absurd hbl (Nat.not_lt.mpr (hA' b q))
  have hS : va_S A s.heap s.heap [] := va_S.rf
  have hP : va_P D cls [] s.heap := fun k q h => by simp at h
  have hD : va_D A [] := ⟨fun i j p q h => by simp at h, fun k q h => by simp at h⟩
  have hl := lv_entry ([.ref b]) (n := 4) (Nat.le_of_ble_eq_true rfl)
  rw [lg_entry_eq]
  generalize (lg_sl ([.ref b]) ++ List.replicate (4 - (lg_sl ([.ref b])).length) Slot.unset).toArray = ls at hl ⊢
  have hl : lv_has ls 4 [(0, .ref b)] := hl
  refine va_new (ci := 8) (fs := [.null, .null, .null, .null, .null]) (C := R_F) (T := F_F) (N := 5) hx hb hts in_F t_F k_F hown (hts _ wd_38) (hts _ wd_39) (hts _ wd_26) hK hP hD hS hA rfl (fun j hj => by rcases (show j = 0 ∨ j = 1 ∨ j = 2 ∨ j = 3 ∨ j = 4 by omega) with rfl | rfl | rfl | rfl | rfl <;> rfl) (Nat.le_of_ble_eq_true rfl) (Nat.le_of_ble_eq_true rfl) d_L_law_0 (fun q0 H hP hD hS => ?_)
  have hP : va_P D cls [(q0, .inr (8, [.null, .null, .null, .null, .null]))] H := hP
  have hD : va_D A [(q0, .inr (8, [.null, .null, .null, .null, .null]))] := hD
  refine W.widen (k := 1) (n := 5) (Nat.le_of_ble_eq_true rfl) (Nat.le_of_ble_eq_true rfl) ?_
  refine lv_dup hx hb d_L_law_3 rfl ?_
  refine lv_aload_n hx hb d_L_law_4 rfl (lv_at hl 0 rfl) ?_
  refine lv_iconst (v := 0) hx hb d_L_law_5 (by decide) ?_
  refine vp_callSi (va_Run.run (va_runS (As := [.ref b, .int 0]) (rest := [.ref q0, .ref q0]) ⟨hx, hb, hml, hown, hts⟩ (c_L_cell l b L xs 0 (by decide) (by omega)) (va_cwS 2 hts (g_S wd_491 wd_492 wd_25 wd_493) rfl rfl rfl (by decide +kernel) ⟨Nat.le_of_ble_eq_true rfl, Nat.le_of_ble_eq_true rfl⟩) ⟨fun a U _ _ q => ⟨q.1, va_X.moved (Vm.Alike.refl U.vm) q.2.1, q.2.2⟩, fun U hU hW => ⟨rfl, X_law hX hbl hbA hS hU hW⟩⟩ rfl rfl hl.1 rfl (lv_room (Nat.le_of_ble_eq_true rfl)) d_L_law_6 ⟨Nat.le_of_ble_eq_true rfl, Nat.le_of_ble_eq_true rfl⟩)) (fun ar ea => ?_)
  have hPc := hP.sub (ws' := [(q0, .inr (8, [.null, .null, .null, .null, .null]))]) [0] rfl
  have hDc := hD.sub (ws' := [(q0, .inr (8, [.null, .null, .null, .null, .null]))]) [0] (by decide) rfl
  have hFc := va_free (wc := [(q0, .inr (8, [.null, .null, .null, .null, .null]))]) hD hS hA [0] rfl
  refine va_callv (va_runI (As := [.int ar]) (rest := [.ref q0]) ⟨hx, hb, hml, hown, hts⟩ (c_F_init l D dA q0 H.size ar) (cwI 1 hts (g_in wd_42) rfl rfl rfl (hts _ wd_26) (hts _ wd_40) (hts _ wd_41) rfl (by decide +kernel) ⟨Nat.le_of_ble_eq_true rfl, Nat.le_of_ble_eq_true rfl⟩) ⟨fun a U g mk q => by obtain ⟨q0, q1, qP, qK, qD, qN⟩ := q; exact ⟨q0, q1, qP, va_K.moved (u := U) (U := U.calling g mk a) (Vm.Alike.refl U.vm) qK, qD, NW_same rfl qN⟩, fun U hU hW => ⟨rfl, by rw [hU], by rw [hU]; exact hPc, va_K.moved hW.alike hK, hDc.weaken (fun _ _ _ _ => trivial), NW_warm hW hN⟩⟩ rfl rfl hl.1 rfl (lv_room (Nat.le_of_ble_eq_true rfl)) d_L_law_9 ⟨Nat.le_of_ble_eq_true rfl, Nat.le_of_ble_eq_true rfl⟩) hS (fun q _ h => hFc q h) hFc (fun ad t H1 locs ht hvm h5 hB hz1 hk1 hS => ?_)
  obtain ⟨hP1, -, hD1⟩ := hB
  rw [ht] at hP1
  have hP : va_P D cls (wC ad dA (fun _ => 0) (ar, 0, (6, 0), (0, 0), fun _ => (0, 0, 0, 0, 0, fun _ => (0, 0, 0, 0))) (0, fun _ => 0) (fun _ => 0) ((fun _ => 0), 0, 0, 0, 0, 0, 0, 0)) H1 := hP1
  have hD : va_D A (wC ad dA (fun _ => 0) (ar, 0, (6, 0), (0, 0), fun _ => (0, 0, 0, 0, 0, fun _ => (0, 0, 0, 0))) (0, fun _ => 0) (fun _ => 0) ((fun _ => 0), 0, 0, 0, 0, 0, 0, 0)) := hD1.weaken (fun k q _ h => hFc q.1 h)
  clear hPc hDc hFc hP1 hD1 hz1 hk1 hvm ht
  generalize H1 = H at hP hS ⊢
  refine W.widen (k := 49) (n := 324) (Nat.le_of_ble_eq_true rfl) (Nat.le_of_ble_eq_true rfl) ?_
  refine W.eq (g2 := F0 m 12 ls [.ref (ad 0)]) (by rw [h5]) ?_
  refine lv_astore_n hx hb d_L_law_12 rfl hl (by decide) rfl (fun ls hl => ?_)
  have hl : lv_has ls 4 [(1, .ref (ad 0)), (0, .ref b)] := hl
  refine va_new (ci := 9) (fs := [.int 0, .null, .int 0, .null, .null, .null, .null, .null, .null, .null, .null, .null, .int 0, .null, .null, .int 0, .long 0, .long 0, .null, .null]) (C := R_M) (T := F_M) (N := 20) hx hb hts in_M t_M k_M hown (hts _ wd_494) (hts _ wd_495) (hts _ wd_35) hK hP hD hS hA rfl (fun j hj => by rcases (show j = 0 ∨ j = 1 ∨ j = 2 ∨ j = 3 ∨ j = 4 ∨ j = 5 ∨ j = 6 ∨ j = 7 ∨ j = 8 ∨ j = 9 ∨ j = 10 ∨ j = 11 ∨ j = 12 ∨ j = 13 ∨ j = 14 ∨ j = 15 ∨ j = 16 ∨ j = 17 ∨ j = 18 ∨ j = 19 by omega) with rfl | rfl | rfl | rfl | rfl | rfl | rfl | rfl | rfl | rfl | rfl | rfl | rfl | rfl | rfl | rfl | rfl | rfl | rfl | rfl <;> rfl) (Nat.le_of_ble_eq_true rfl) (Nat.le_of_ble_eq_true rfl) d_L_law_13 (fun q1 H hP hD hS => ?_)
  have hP : va_P D cls (wC ad dA (fun _ => 0) (ar, 0, (6, 0), (0, 0), fun _ => (0, 0, 0, 0, 0, fun _ => (0, 0, 0, 0))) (0, fun _ => 0) (fun _ => 0) ((fun _ => 0), 0, 0, 0, 0, 0, 0, 0) ++ [(q1, .inr (9, [.int 0, .null, .int 0, .null, .null, .null, .null, .null, .null, .null, .null, .null, .int 0, .null, .null, .int 0, .long 0, .long 0, .null, .null]))]) H := hP
  have hD : va_D A (wC ad dA (fun _ => 0) (ar, 0, (6, 0), (0, 0), fun _ => (0, 0, 0, 0, 0, fun _ => (0, 0, 0, 0))) (0, fun _ => 0) (fun _ => 0) ((fun _ => 0), 0, 0, 0, 0, 0, 0, 0) ++ [(q1, .inr (9, [.int 0, .null, .int 0, .null, .null, .null, .null, .null, .null, .null, .null, .null, .int 0, .null, .null, .int 0, .long 0, .long 0, .null, .null]))]) := hD
  refine W.widen (k := 50) (n := 344) (Nat.le_of_ble_eq_true rfl) (Nat.le_of_ble_eq_true rfl) ?_
  refine lv_dup hx hb d_L_law_16 rfl ?_
  refine lv_aload_n hx hb d_L_law_17 rfl (lv_at hl 1 rfl) ?_
  refine lv_iconst (v := 0) hx hb d_L_law_18 (by decide) ?_
  refine vp_callSi (va_Run.run (va_runS (As := [.ref b, .int 0]) (rest := [.ref q1, .ref q1]) ⟨hx, hb, hml, hown, hts⟩ (c_L_cell l b L xs 0 (by decide) (by omega)) (va_cwS 2 hts (g_S wd_491 wd_492 wd_25 wd_493) rfl rfl rfl (by decide +kernel) ⟨Nat.le_of_ble_eq_true rfl, Nat.le_of_ble_eq_true rfl⟩) ⟨fun a U _ _ q => ⟨q.1, va_X.moved (Vm.Alike.refl U.vm) q.2.1, q.2.2⟩, fun U hU hW => ⟨rfl, X_law hX hbl hbA hS hU hW⟩⟩ rfl rfl hl.1 rfl (lv_room (Nat.le_of_ble_eq_true rfl)) d_L_law_19 ⟨Nat.le_of_ble_eq_true rfl, Nat.le_of_ble_eq_true rfl⟩)) (fun ar2 ea2 => ?_)
  obtain rfl : ar2 = ar := ea2.trans ea.symm
  have hPc := hP.sub (ws' := [(q1, .inr (9, [.int 0, .null, .int 0, .null, .null, .null, .null, .null, .null, .null, .null, .null, .int 0, .null, .null, .int 0, .long 0, .long 0, .null, .null]))]) [49] rfl
  have hDc := hD.sub (ws' := [(q1, .inr (9, [.int 0, .null, .int 0, .null, .null, .null, .null, .null, .null, .null, .null, .null, .int 0, .null, .null, .int 0, .long 0, .long 0, .null, .null]))]) [49] (by decide) rfl
  have hFc := va_free (wc := [(q1, .inr (9, [.int 0, .null, .int 0, .null, .null, .null, .null, .null, .null, .null, .null, .null, .int 0, .null, .null, .int 0, .long 0, .long 0, .null, .null]))]) hD hS hA [49] rfl
  refine va_callv (va_runI (As := [.int ar2]) (rest := [.ref q1]) ⟨hx, hb, hml, hown, hts⟩ (c_M_init l D dA q1 H.size ar2) (cwI 1 hts (g_in wd_498) rfl rfl rfl (hts _ wd_35) (hts _ wd_496) (hts _ wd_497) rfl (by decide +kernel) ⟨Nat.le_of_ble_eq_true rfl, Nat.le_of_ble_eq_true rfl⟩) ⟨fun a U g mk q => by obtain ⟨q0, q1, qP, qK, qD, qN⟩ := q; exact ⟨q0, q1, qP, va_K.moved (u := U) (U := U.calling g mk a) (Vm.Alike.refl U.vm) qK, qD, NW_same rfl qN⟩, fun U hU hW => ⟨rfl, by rw [hU], by rw [hU]; exact hPc, va_K.moved hW.alike hK, hDc.weaken (fun _ _ _ _ => trivial), NW_warm hW hN⟩⟩ rfl rfl hl.1 rfl (lv_room (Nat.le_of_ble_eq_true rfl)) d_L_law_22 ⟨Nat.le_of_ble_eq_true rfl, Nat.le_of_ble_eq_true rfl⟩) hS (fun q _ h => hFc q h) hFc (fun ae t H1 locs ht hvm h5 hB hz1 hk1 hS => ?_)
  obtain ⟨hP1, -, hD1⟩ := hB
  rw [ht] at hP1
  obtain ⟨hP, hD⟩ := va_join (wr := wC ad dA (fun _ => 0) (ar2, 0, (6, 0), (0, 0), fun _ => (0, 0, 0, 0, 0, fun _ => (0, 0, 0, 0))) (0, fun _ => 0) (fun _ => 0) ((fun _ => 0), 0, 0, 0, 0, 0, 0, 0)) (w1 := wM ae dA ar2 (fun _ => 0) (0, (fun _ => 0), (fun _ => 0), upd (fun _ => 0) 6 6, (fun _ => 0), (fun _ => 0), (fun _ => 0), (fun _ => 0), (fun _ => 0), fun _ => 0) (0, fun _ => 0) (fun _ => 0) (0, 0, 0, (fun _ => 0), fun _ => 0)) hP hD [49] [0, 1, 2, 3, 4, 5, 6, 7, 8, 9, 10, 11, 12, 13, 14, 15, 16, 17, 18, 19, 20, 21, 22, 23, 24, 25, 26, 27, 28, 29, 30, 31, 32, 33, 34, 35, 36, 37, 38, 39, 40, 41, 42, 43, 44, 45, 46, 47, 48] rfl rfl (by decide) (by decide) hk1 hFc hP1 hD1
  clear hPc hDc hFc hP1 hD1 hz1 hk1 hvm ht
  generalize H1 = H at hP hS ⊢
  refine W.widen (k := 64) (n := 626) (Nat.le_of_ble_eq_true rfl) (Nat.le_of_ble_eq_true rfl) ?_
  refine W.eq (g2 := F0 m 25 ls [.ref (ae 0)]) (by rw [h5]) ?_
  refine lv_astore_n hx hb d_L_law_25 rfl hl (by decide) rfl (fun ls hl => ?_)
  have hl : lv_has ls 4 [(2, .ref (ae 0)), (1, .ref (ad 0)), (0, .ref b)] := hl
  refine lv_iconst (v := 1) hx hb d_L_law_26 (by decide) ?_
  refine lv_istore_n hx hb d_L_law_27 rfl hl (by decide) rfl (fun ls hl => ?_)
  have hl : lv_has ls 4 [(3, .int (nI 1)), (2, .ref (ae 0)), (1, .ref (ad 0)), (0, .ref b)] := hl
  obtain ⟨hAd1, hAd2, hdis, hA1, hA2⟩ := law_ad hD
  have hPc := P_left hP
  have hPm := P_right hP
  clear hP hD
  obtain ⟨i1, i2, i3⟩ := rel_init ar2
  refine W_loop1 (X := fun (n1 : Nat) (i : Nat) (H : Heap) (locs : List Loc) (ls : Array Slot) => 3600 - i < n1 ∧ (1 ≤ i ∧ i ≤ 3592) ∧ lv_has ls 4 [(3, .int (nI i)), (2, .ref (ae 0)), (1, .ref (ad 0)), (0, .ref b)] ∧ va_S A s.heap H locs ∧ ∃ (w : Nat → Int32) (P : PT) (g : GT) (ss : Nat → Int32) (M : MT) (Q : QT) (mk : Nat → Int32) (Y : XT), va_P D cls (wC ad dA w P g ss M) H ∧ va_P D cls (wM ae dA ar2 w Q g mk Y) H ∧ RelP P ar2 Q ∧ InvQ Q ∧ iN g.1 ≤ 64 ∧ (∀ i, b01 (mk i)) ∧ RelM M Y) 3600 1 ⟨by decide, by decide, hl, hS, _, _, _, _, _, _, _, _, hPc, hPm, i1, i2, by decide, fun _ => Or.inl rfl, i3⟩ (fun _ _ _ _ h => absurd h.1 (Nat.not_lt_zero _)) (fun n1 ih1 i H locs ls h => ?_)
  obtain ⟨hn1, hi, hl, hS, w, P, g, ss, M, Q, mk, Y, hPc, hPm, hRP, hI, hg, hbm, hRM⟩ := h
  clear i1 i2 i3
  refine lv_iload_n hx hb d_L_law_28 rfl (lv_at hl 0 rfl) ?_
  refine lv_aload_n hx hb d_L_law_29 rfl (lv_at hl 3 rfl) ?_
  refine va_slen hx hb hX hbl hbA hS d_L_law_30 ?_
  refine lv_bipush (v := 7) hx hb d_L_law_31 (by decide) ?_
  refine lv_isub hx hb d_L_law_33 ?_
  refine lv_icmp_gt (tgt := 638) hx hb d_L_law_34 (by decide) (fun h1 => ?_) (fun h1 => ?_)
  · refine lv_iconst (v := 1) hx hb d_L_law_638 (by decide) ?_
    refine va_forget (fun q hq => hA' _ (hS.2.2 q hq)) ?_
    refine W.widen (k := 600000) (n := 7302250) (Nat.le_of_ble_eq_true rfl) (Nat.le_of_ble_eq_true rfl) ?_
    exact lw_ret hx hb hr hlocks d_L_law_639
  have hi7 : i + 7 ≤ L := lw_i hL hi h1
  have hLs : L < 2147483648 := by omega
  refine lv_aload_n hx hb d_L_law_37 rfl (lv_at hl 3 rfl) ?_
  refine lv_iload_n hx hb d_L_law_38 rfl (lv_at hl 0 rfl) ?_
  refine va_sld hx hb hX hbl hbA hS (vp_in_nI (by omega) (by omega)) d_L_law_39 ?_
  refine lv_bipush (v := 15) hx hb d_L_law_40 (by decide) ?_
  refine lv_iand hx hb d_L_law_42 ?_
  by_cases h2 : (xs (nI i).toNatClampNeg) &&& (15 : Int32) = (0 : Int32)
  · refine lv_tableIn (tgt := 116) (off := 73) hx hb d_L_law_43 (by rw [h2]; decide) (by rw [h2]; decide) (by rw [h2] <;> rfl) (by decide) ?_
    refine lv_aload_n hx hb d_L_law_116 rfl (lv_at hl 2 rfl) ?_
    refine lv_aload_n hx hb d_L_law_117 rfl (lv_at hl 3 rfl) ?_
    refine lv_iload_n hx hb d_L_law_118 rfl (lv_at hl 0 rfl) ?_
    refine lv_iconst (v := 1) hx hb d_L_law_119 (by decide) ?_
    refine lv_iadd hx hb d_L_law_120 ?_
    refine va_sld hx hb hX hbl hbA hS (sc_in (k := 1) hi7 (by omega) (by decide)) d_L_law_121 ?_
    refine lv_aload_n hx hb d_L_law_122 rfl (lv_at hl 3 rfl) ?_
    refine lv_iload_n hx hb d_L_law_123 rfl (lv_at hl 0 rfl) ?_
    refine lv_iconst (v := 2) hx hb d_L_law_124 (by decide) ?_
    refine lv_iadd hx hb d_L_law_125 ?_
    refine va_sld hx hb hX hbl hbA hS (sc_in (k := 2) hi7 (by omega) (by decide)) d_L_law_126 ?_
    refine va_calli (va_runV (As := [.int (xs ((nI i) + (1 : Int32)).toNatClampNeg), .int (xs ((nI i) + (2 : Int32)).toNatClampNeg)]) (rest := []) ⟨hx, hb, hml, hown, hts⟩ (c_F_word l D dA ad (A49 ad) hAd1 w P g ss M (xs ((nI i) + (1 : Int32)).toNatClampNeg) (xs ((nI i) + (2 : Int32)).toNatClampNeg)) (cwV 2 hts (g_V wd_224 wd_225 wd_226 wd_26 wd_227) rfl rfl rfl (by decide +kernel) ⟨Nat.le_of_ble_eq_true rfl, Nat.le_of_ble_eq_true rfl⟩) ⟨CG_fb, (va_recv (ci := 8) (q := (R_F, F_F, 5)) (q0 := 0) hK hPc rfl rfl), fun U hU hW => ⟨rfl, CG_at hPc hK hN hU hW⟩⟩ rfl rfl hl.1 rfl (lv_room (Nat.le_of_ble_eq_true rfl)) d_L_law_127 ⟨Nat.le_of_ble_eq_true rfl, Nat.le_of_ble_eq_true rfl⟩) hS (fun q _ h => hA1 q h) (fun q h => hA1 q h) (fun r1 u1 t H' locs ht hvm hu hB hz hk hS => ?_)
    obtain ⟨rfl, rfl⟩ := hu
    obtain ⟨hPc, -⟩ := hB
    rw [ht] at hPc
    have hPc : va_P D cls (wC ad dA ((m_F_word w (xs ((nI i) + (1 : Int32)).toNatClampNeg) (xs ((nI i) + (2 : Int32)).toNatClampNeg)).2) P g ss M) H' := hPc
    have hPm := keep hPm hk (disM hdis)
    clear hz hk hvm ht
    generalize H' = H at hPc hPm hS ⊢
    refine lv_aload_n hx hb d_L_law_130 rfl (lv_at hl 1 rfl) ?_
    refine lv_aload_n hx hb d_L_law_131 rfl (lv_at hl 3 rfl) ?_
    refine lv_iload_n hx hb d_L_law_132 rfl (lv_at hl 0 rfl) ?_
    refine lv_iconst (v := 1) hx hb d_L_law_133 (by decide) ?_
    refine lv_iadd hx hb d_L_law_134 ?_
    refine va_sld hx hb hX hbl hbA hS (sc_in (k := 1) hi7 (by omega) (by decide)) d_L_law_135 ?_
    refine lv_aload_n hx hb d_L_law_136 rfl (lv_at hl 3 rfl) ?_
    refine lv_iload_n hx hb d_L_law_137 rfl (lv_at hl 0 rfl) ?_
    refine lv_iconst (v := 2) hx hb d_L_law_138 (by decide) ?_
    refine lv_iadd hx hb d_L_law_139 ?_
    refine va_sld hx hb hX hbl hbA hS (sc_in (k := 2) hi7 (by omega) (by decide)) d_L_law_140 ?_
    refine va_calli (va_runV (As := [.int (xs ((nI i) + (1 : Int32)).toNatClampNeg), .int (xs ((nI i) + (2 : Int32)).toNatClampNeg)]) (rest := [.int ((m_F_word w (xs ((nI i) + (1 : Int32)).toNatClampNeg) (xs ((nI i) + (2 : Int32)).toNatClampNeg)).1)]) ⟨hx, hb, hml, hown, hts⟩ (c_M_word l D dA ae (A15 ae) hAd2 ar2 w Q g mk Y (xs ((nI i) + (1 : Int32)).toNatClampNeg) (xs ((nI i) + (2 : Int32)).toNatClampNeg)) (cwV 2 hts (g_V wd_562 wd_563 wd_564 wd_35 wd_565) rfl rfl rfl (by decide +kernel) ⟨Nat.le_of_ble_eq_true rfl, Nat.le_of_ble_eq_true rfl⟩) ⟨MG_fb, (va_recv (ci := 9) (q := (R_M, F_M, 20)) (q0 := 0) hK hPm rfl rfl), fun U hU hW => ⟨rfl, MG_at hPm hK hU hW⟩⟩ rfl rfl hl.1 rfl (lv_room (Nat.le_of_ble_eq_true rfl)) d_L_law_141 ⟨Nat.le_of_ble_eq_true rfl, Nat.le_of_ble_eq_true rfl⟩) hS (fun q _ h => hA2 q h) (fun q h => hA2 q h) (fun r2 u2 t H' locs ht hvm hu hB hz hk hS => ?_)
    obtain ⟨rfl, rfl⟩ := hu
    obtain ⟨hPm, -⟩ := hB
    rw [ht] at hPm
    have hPm : va_P D cls (wM ae dA ar2 ((m_M_word w (xs ((nI i) + (1 : Int32)).toNatClampNeg) (xs ((nI i) + (2 : Int32)).toNatClampNeg)).2) Q g mk Y) H' := hPm
    have hPc := keep hPc hk (disC hdis)
    clear hz hk hvm ht
    generalize H' = H at hPc hPm hS ⊢
    have he : (m_F_word w (xs ((nI i) + (1 : Int32)).toNatClampNeg) (xs ((nI i) + (2 : Int32)).toNatClampNeg)).1 = (m_M_word w (xs ((nI i) + (1 : Int32)).toNatClampNeg) (xs ((nI i) + (2 : Int32)).toNatClampNeg)).1 := by rw [word_eq]
    rw [← word_eq] at hPm
    refine lv_icmp_eq (tgt := 632) hx hb d_L_law_144 (by decide) (fun _ => ?_) (fun h => absurd he h)
    refine lv_iinc (v := nI i + 7) hx hb d_L_law_632 hl (k := 0) rfl rfl (by decide) rfl (fun ls hl => ?_)
    have hl : lv_has ls 4 [(3, .int (nI (i + 7))), (2, .ref (ae 0)), (1, .ref (ad 0)), (0, .ref b)] := by rw [← nI_7]; exact hl
    refine lv_goto (tgt := 28) hx hb d_L_law_635 (by decide) ?_
    exact ih1 (i + 7) _ _ _ ⟨by omega, by omega, lv_sub hl [0, 1, 2, 3] rfl, hS, (m_F_word w (xs ((nI i) + (1 : Int32)).toNatClampNeg) (xs ((nI i) + (2 : Int32)).toNatClampNeg)).2, P, g, ss, M, Q, mk, Y, hPc, hPm, hRP, hI, hg, hbm, hRM⟩
  by_cases h3 : (xs (nI i).toNatClampNeg) &&& (15 : Int32) = (1 : Int32)
  · refine lv_tableIn (tgt := 149) (off := 106) hx hb d_L_law_43 (by rw [h3]; decide) (by rw [h3]; decide) (by rw [h3] <;> rfl) (by decide) ?_
    refine lv_aload_n hx hb d_L_law_149 rfl (lv_at hl 2 rfl) ?_
    refine lv_aload_n hx hb d_L_law_150 rfl (lv_at hl 3 rfl) ?_
    refine lv_iload_n hx hb d_L_law_151 rfl (lv_at hl 0 rfl) ?_
    refine lv_iconst (v := 1) hx hb d_L_law_152 (by decide) ?_
    refine lv_iadd hx hb d_L_law_153 ?_
    refine va_sld hx hb hX hbl hbA hS (sc_in (k := 1) hi7 (by omega) (by decide)) d_L_law_154 ?_
    refine lv_aload_n hx hb d_L_law_155 rfl (lv_at hl 3 rfl) ?_
    refine lv_iload_n hx hb d_L_law_156 rfl (lv_at hl 0 rfl) ?_
    refine lv_iconst (v := 2) hx hb d_L_law_157 (by decide) ?_
    refine lv_iadd hx hb d_L_law_158 ?_
    refine va_sld hx hb hX hbl hbA hS (sc_in (k := 2) hi7 (by omega) (by decide)) d_L_law_159 ?_
    refine lv_i2l hx hb d_L_law_160 rfl ?_
    refine lv_bipush (v := 32) hx hb d_L_law_161 (by decide) ?_
    refine lv_lshl hx hb d_L_law_163 rfl ?_
    refine lv_aload_n hx hb d_L_law_164 rfl (lv_at hl 3 rfl) ?_
    refine lv_iload_n hx hb d_L_law_165 rfl (lv_at hl 0 rfl) ?_
    refine lv_iconst (v := 3) hx hb d_L_law_166 (by decide) ?_
    refine lv_iadd hx hb d_L_law_167 ?_
    refine va_sld hx hb hX hbl hbA hS (sc_in (k := 3) hi7 (by omega) (by decide)) d_L_law_168 ?_
    refine lv_i2l hx hb d_L_law_169 rfl ?_
    refine lv_ldc2 (v := 4294967295) hx hb hown (hts _ wd_707) d_L_law_170 ?_
    refine lv_land hx hb d_L_law_173 ?_
    refine lv_lor hx hb d_L_law_174 ?_
    refine va_calli (va_runV (As := [.int (xs ((nI i) + (1 : Int32)).toNatClampNeg), .long ((((xs ((nI i) + (2 : Int32)).toNatClampNeg).toInt64) <<< ((32 : Int32).toInt64 &&& 63)) ||| (((xs ((nI i) + (3 : Int32)).toNatClampNeg).toInt64) &&& (4294967295 : Int64)))]) (rest := []) ⟨hx, hb, hml, hown, hts⟩ (c_F_argument l D dA ad (A49 ad) hAd1 w P g ss M (xs ((nI i) + (1 : Int32)).toNatClampNeg) ((((xs ((nI i) + (2 : Int32)).toNatClampNeg).toInt64) <<< ((32 : Int32).toInt64 &&& 63)) ||| (((xs ((nI i) + (3 : Int32)).toNatClampNeg).toInt64) &&& (4294967295 : Int64)))) (cwV 2 hts (g_V wd_228 wd_229 wd_230 wd_26 wd_231) rfl rfl rfl (by decide +kernel) ⟨Nat.le_of_ble_eq_true rfl, Nat.le_of_ble_eq_true rfl⟩) ⟨CG_fb, (va_recv (ci := 8) (q := (R_F, F_F, 5)) (q0 := 0) hK hPc rfl rfl), fun U hU hW => ⟨rfl, CG_at hPc hK hN hU hW⟩⟩ rfl rfl hl.1 rfl (lv_room (Nat.le_of_ble_eq_true rfl)) d_L_law_175 ⟨Nat.le_of_ble_eq_true rfl, Nat.le_of_ble_eq_true rfl⟩) hS (fun q _ h => hA1 q h) (fun q h => hA1 q h) (fun r3 u3 t H' locs ht hvm hu hB hz hk hS => ?_)
    obtain ⟨rfl, rfl⟩ := hu
    obtain ⟨hPc, -⟩ := hB
    rw [ht] at hPc
    have hPc : va_P D cls (wC ad dA ((m_F_argument w (xs ((nI i) + (1 : Int32)).toNatClampNeg) ((((xs ((nI i) + (2 : Int32)).toNatClampNeg).toInt64) <<< ((32 : Int32).toInt64 &&& 63)) ||| (((xs ((nI i) + (3 : Int32)).toNatClampNeg).toInt64) &&& (4294967295 : Int64)))).2) P g ss M) H' := hPc
    have hPm := keep hPm hk (disM hdis)
    clear hz hk hvm ht
    generalize H' = H at hPc hPm hS ⊢
    refine lv_aload_n hx hb d_L_law_178 rfl (lv_at hl 1 rfl) ?_
    refine lv_aload_n hx hb d_L_law_179 rfl (lv_at hl 3 rfl) ?_
    refine lv_iload_n hx hb d_L_law_180 rfl (lv_at hl 0 rfl) ?_
    refine lv_iconst (v := 1) hx hb d_L_law_181 (by decide) ?_
    refine lv_iadd hx hb d_L_law_182 ?_
    refine va_sld hx hb hX hbl hbA hS (sc_in (k := 1) hi7 (by omega) (by decide)) d_L_law_183 ?_
    refine lv_aload_n hx hb d_L_law_184 rfl (lv_at hl 3 rfl) ?_
    refine lv_iload_n hx hb d_L_law_185 rfl (lv_at hl 0 rfl) ?_
    refine lv_iconst (v := 2) hx hb d_L_law_186 (by decide) ?_
    refine lv_iadd hx hb d_L_law_187 ?_
    refine va_sld hx hb hX hbl hbA hS (sc_in (k := 2) hi7 (by omega) (by decide)) d_L_law_188 ?_
    refine lv_i2l hx hb d_L_law_189 rfl ?_
    refine lv_bipush (v := 32) hx hb d_L_law_190 (by decide) ?_
    refine lv_lshl hx hb d_L_law_192 rfl ?_
    refine lv_aload_n hx hb d_L_law_193 rfl (lv_at hl 3 rfl) ?_
    refine lv_iload_n hx hb d_L_law_194 rfl (lv_at hl 0 rfl) ?_
    refine lv_iconst (v := 3) hx hb d_L_law_195 (by decide) ?_
    refine lv_iadd hx hb d_L_law_196 ?_
    refine va_sld hx hb hX hbl hbA hS (sc_in (k := 3) hi7 (by omega) (by decide)) d_L_law_197 ?_
    refine lv_i2l hx hb d_L_law_198 rfl ?_
    refine lv_ldc2 (v := 4294967295) hx hb hown (hts _ wd_707) d_L_law_199 ?_
    refine lv_land hx hb d_L_law_202 ?_
    refine lv_lor hx hb d_L_law_203 ?_
    refine va_calli (va_runV (As := [.int (xs ((nI i) + (1 : Int32)).toNatClampNeg), .long ((((xs ((nI i) + (2 : Int32)).toNatClampNeg).toInt64) <<< ((32 : Int32).toInt64 &&& 63)) ||| (((xs ((nI i) + (3 : Int32)).toNatClampNeg).toInt64) &&& (4294967295 : Int64)))]) (rest := [.int ((m_F_argument w (xs ((nI i) + (1 : Int32)).toNatClampNeg) ((((xs ((nI i) + (2 : Int32)).toNatClampNeg).toInt64) <<< ((32 : Int32).toInt64 &&& 63)) ||| (((xs ((nI i) + (3 : Int32)).toNatClampNeg).toInt64) &&& (4294967295 : Int64)))).1)]) ⟨hx, hb, hml, hown, hts⟩ (c_M_argument l D dA ae (A15 ae) hAd2 ar2 w Q g mk Y (xs ((nI i) + (1 : Int32)).toNatClampNeg) ((((xs ((nI i) + (2 : Int32)).toNatClampNeg).toInt64) <<< ((32 : Int32).toInt64 &&& 63)) ||| (((xs ((nI i) + (3 : Int32)).toNatClampNeg).toInt64) &&& (4294967295 : Int64)))) (cwV 2 hts (g_V wd_566 wd_567 wd_568 wd_35 wd_569) rfl rfl rfl (by decide +kernel) ⟨Nat.le_of_ble_eq_true rfl, Nat.le_of_ble_eq_true rfl⟩) ⟨MG_fb, (va_recv (ci := 9) (q := (R_M, F_M, 20)) (q0 := 0) hK hPm rfl rfl), fun U hU hW => ⟨rfl, MG_at hPm hK hU hW⟩⟩ rfl rfl hl.1 rfl (lv_room (Nat.le_of_ble_eq_true rfl)) d_L_law_204 ⟨Nat.le_of_ble_eq_true rfl, Nat.le_of_ble_eq_true rfl⟩) hS (fun q _ h => hA2 q h) (fun q h => hA2 q h) (fun r4 u4 t H' locs ht hvm hu hB hz hk hS => ?_)
    obtain ⟨rfl, rfl⟩ := hu
    obtain ⟨hPm, -⟩ := hB
    rw [ht] at hPm
    have hPm : va_P D cls (wM ae dA ar2 ((m_M_argument w (xs ((nI i) + (1 : Int32)).toNatClampNeg) ((((xs ((nI i) + (2 : Int32)).toNatClampNeg).toInt64) <<< ((32 : Int32).toInt64 &&& 63)) ||| (((xs ((nI i) + (3 : Int32)).toNatClampNeg).toInt64) &&& (4294967295 : Int64)))).2) Q g mk Y) H' := hPm
    have hPc := keep hPc hk (disC hdis)
    clear hz hk hvm ht
    generalize H' = H at hPc hPm hS ⊢
    have he : (m_F_argument w (xs ((nI i) + (1 : Int32)).toNatClampNeg) ((((xs ((nI i) + (2 : Int32)).toNatClampNeg).toInt64) <<< ((32 : Int32).toInt64 &&& 63)) ||| (((xs ((nI i) + (3 : Int32)).toNatClampNeg).toInt64) &&& (4294967295 : Int64)))).1 = (m_M_argument w (xs ((nI i) + (1 : Int32)).toNatClampNeg) ((((xs ((nI i) + (2 : Int32)).toNatClampNeg).toInt64) <<< ((32 : Int32).toInt64 &&& 63)) ||| (((xs ((nI i) + (3 : Int32)).toNatClampNeg).toInt64) &&& (4294967295 : Int64)))).1 := by rw [argument_eq]
    rw [← argument_eq] at hPm
    refine lv_icmp_eq (tgt := 632) hx hb d_L_law_207 (by decide) (fun _ => ?_) (fun h => absurd he h)
    refine lv_iinc (v := nI i + 7) hx hb d_L_law_632 hl (k := 0) rfl rfl (by decide) rfl (fun ls hl => ?_)
    have hl : lv_has ls 4 [(3, .int (nI (i + 7))), (2, .ref (ae 0)), (1, .ref (ad 0)), (0, .ref b)] := by rw [← nI_7]; exact hl
    refine lv_goto (tgt := 28) hx hb d_L_law_635 (by decide) ?_
    exact ih1 (i + 7) _ _ _ ⟨by omega, by omega, lv_sub hl [0, 1, 2, 3] rfl, hS, (m_F_argument w (xs ((nI i) + (1 : Int32)).toNatClampNeg) ((((xs ((nI i) + (2 : Int32)).toNatClampNeg).toInt64) <<< ((32 : Int32).toInt64 &&& 63)) ||| (((xs ((nI i) + (3 : Int32)).toNatClampNeg).toInt64) &&& (4294967295 : Int64)))).2, P, g, ss, M, Q, mk, Y, hPc, hPm, hRP, hI, hg, hbm, hRM⟩
  by_cases h4 : (xs (nI i).toNatClampNeg) &&& (15 : Int32) = (2 : Int32)
  · refine lv_tableIn (tgt := 212) (off := 169) hx hb d_L_law_43 (by rw [h4]; decide) (by rw [h4]; decide) (by rw [h4] <;> rfl) (by decide) ?_
    refine lv_aload_n hx hb d_L_law_212 rfl (lv_at hl 2 rfl) ?_
    refine lv_aload_n hx hb d_L_law_213 rfl (lv_at hl 3 rfl) ?_
    refine lv_iload_n hx hb d_L_law_214 rfl (lv_at hl 0 rfl) ?_
    refine lv_iconst (v := 1) hx hb d_L_law_215 (by decide) ?_
    refine lv_iadd hx hb d_L_law_216 ?_
    refine va_sld hx hb hX hbl hbA hS (sc_in (k := 1) hi7 (by omega) (by decide)) d_L_law_217 ?_
    refine lv_aload_n hx hb d_L_law_218 rfl (lv_at hl 3 rfl) ?_
    refine lv_iload_n hx hb d_L_law_219 rfl (lv_at hl 0 rfl) ?_
    refine lv_iconst (v := 2) hx hb d_L_law_220 (by decide) ?_
    refine lv_iadd hx hb d_L_law_221 ?_
    refine va_sld hx hb hX hbl hbA hS (sc_in (k := 2) hi7 (by omega) (by decide)) d_L_law_222 ?_
    refine lv_aload_n hx hb d_L_law_223 rfl (lv_at hl 3 rfl) ?_
    refine lv_iload_n hx hb d_L_law_224 rfl (lv_at hl 0 rfl) ?_
    refine lv_iconst (v := 3) hx hb d_L_law_225 (by decide) ?_
    refine lv_iadd hx hb d_L_law_226 ?_
    refine va_sld hx hb hX hbl hbA hS (sc_in (k := 3) hi7 (by omega) (by decide)) d_L_law_227 ?_
    refine lv_aload_n hx hb d_L_law_228 rfl (lv_at hl 3 rfl) ?_
    refine lv_iload_n hx hb d_L_law_229 rfl (lv_at hl 0 rfl) ?_
    refine lv_iconst (v := 4) hx hb d_L_law_230 (by decide) ?_
    refine lv_iadd hx hb d_L_law_231 ?_
    refine va_sld hx hb hX hbl hbA hS (sc_in (k := 4) hi7 (by omega) (by decide)) d_L_law_232 ?_
    refine va_calli (va_runV (As := [.int (xs ((nI i) + (1 : Int32)).toNatClampNeg), .int (xs ((nI i) + (2 : Int32)).toNatClampNeg), .int (xs ((nI i) + (3 : Int32)).toNatClampNeg), .int (xs ((nI i) + (4 : Int32)).toNatClampNeg)]) (rest := []) ⟨hx, hb, hml, hown, hts⟩ (c_F_rule l D dA ad (A49 ad) hAd1 w P g ss M (xs ((nI i) + (1 : Int32)).toNatClampNeg) (xs ((nI i) + (2 : Int32)).toNatClampNeg) (xs ((nI i) + (3 : Int32)).toNatClampNeg) (xs ((nI i) + (4 : Int32)).toNatClampNeg) (rp_n hRP hI)) (cwV 4 hts (g_V wd_239 wd_240 wd_241 wd_26 wd_242) rfl rfl rfl (by decide +kernel) ⟨Nat.le_of_ble_eq_true rfl, Nat.le_of_ble_eq_true rfl⟩) ⟨CG_fb, (va_recv (ci := 8) (q := (R_F, F_F, 5)) (q0 := 0) hK hPc rfl rfl), fun U hU hW => ⟨rfl, CG_at hPc hK hN hU hW⟩⟩ rfl rfl hl.1 rfl (lv_room (Nat.le_of_ble_eq_true rfl)) d_L_law_233 ⟨Nat.le_of_ble_eq_true rfl, Nat.le_of_ble_eq_true rfl⟩) hS (fun q _ h => hA1 q h) (fun q h => hA1 q h) (fun r5 u5 t H' locs ht hvm hu hB hz hk hS => ?_)
    obtain ⟨rfl, rfl⟩ := hu
    obtain ⟨hPc, -⟩ := hB
    rw [ht] at hPc
    have hPc : va_P D cls (wC ad dA w ((m_F_rule P (xs ((nI i) + (1 : Int32)).toNatClampNeg) (xs ((nI i) + (2 : Int32)).toNatClampNeg) (xs ((nI i) + (3 : Int32)).toNatClampNeg) (xs ((nI i) + (4 : Int32)).toNatClampNeg)).2) g ss M) H' := hPc
    have hPm := keep hPm hk (disM hdis)
    clear hz hk hvm ht
    generalize H' = H at hPc hPm hS ⊢
    refine lv_aload_n hx hb d_L_law_236 rfl (lv_at hl 1 rfl) ?_
    refine lv_aload_n hx hb d_L_law_237 rfl (lv_at hl 3 rfl) ?_
    refine lv_iload_n hx hb d_L_law_238 rfl (lv_at hl 0 rfl) ?_
    refine lv_iconst (v := 1) hx hb d_L_law_239 (by decide) ?_
    refine lv_iadd hx hb d_L_law_240 ?_
    refine va_sld hx hb hX hbl hbA hS (sc_in (k := 1) hi7 (by omega) (by decide)) d_L_law_241 ?_
    refine lv_aload_n hx hb d_L_law_242 rfl (lv_at hl 3 rfl) ?_
    refine lv_iload_n hx hb d_L_law_243 rfl (lv_at hl 0 rfl) ?_
    refine lv_iconst (v := 2) hx hb d_L_law_244 (by decide) ?_
    refine lv_iadd hx hb d_L_law_245 ?_
    refine va_sld hx hb hX hbl hbA hS (sc_in (k := 2) hi7 (by omega) (by decide)) d_L_law_246 ?_
    refine lv_aload_n hx hb d_L_law_247 rfl (lv_at hl 3 rfl) ?_
    refine lv_iload_n hx hb d_L_law_248 rfl (lv_at hl 0 rfl) ?_
    refine lv_iconst (v := 3) hx hb d_L_law_249 (by decide) ?_
    refine lv_iadd hx hb d_L_law_250 ?_
    refine va_sld hx hb hX hbl hbA hS (sc_in (k := 3) hi7 (by omega) (by decide)) d_L_law_251 ?_
    refine lv_aload_n hx hb d_L_law_252 rfl (lv_at hl 3 rfl) ?_
    refine lv_iload_n hx hb d_L_law_253 rfl (lv_at hl 0 rfl) ?_
    refine lv_iconst (v := 4) hx hb d_L_law_254 (by decide) ?_
    refine lv_iadd hx hb d_L_law_255 ?_
    refine va_sld hx hb hX hbl hbA hS (sc_in (k := 4) hi7 (by omega) (by decide)) d_L_law_256 ?_
    refine va_calli (va_runV (As := [.int (xs ((nI i) + (1 : Int32)).toNatClampNeg), .int (xs ((nI i) + (2 : Int32)).toNatClampNeg), .int (xs ((nI i) + (3 : Int32)).toNatClampNeg), .int (xs ((nI i) + (4 : Int32)).toNatClampNeg)]) (rest := [.int ((m_F_rule P (xs ((nI i) + (1 : Int32)).toNatClampNeg) (xs ((nI i) + (2 : Int32)).toNatClampNeg) (xs ((nI i) + (3 : Int32)).toNatClampNeg) (xs ((nI i) + (4 : Int32)).toNatClampNeg)).1)]) ⟨hx, hb, hml, hown, hts⟩ (c_M_rule l D dA ae (A15 ae) hAd2 ar2 w Q g mk Y (xs ((nI i) + (1 : Int32)).toNatClampNeg) (xs ((nI i) + (2 : Int32)).toNatClampNeg) (xs ((nI i) + (3 : Int32)).toNatClampNeg) (xs ((nI i) + (4 : Int32)).toNatClampNeg) hI.1) (cwV 4 hts (g_V wd_570 wd_571 wd_572 wd_35 wd_573) rfl rfl rfl (by decide +kernel) ⟨Nat.le_of_ble_eq_true rfl, Nat.le_of_ble_eq_true rfl⟩) ⟨MG_fb, (va_recv (ci := 9) (q := (R_M, F_M, 20)) (q0 := 0) hK hPm rfl rfl), fun U hU hW => ⟨rfl, MG_at hPm hK hU hW⟩⟩ rfl rfl hl.1 rfl (lv_room (Nat.le_of_ble_eq_true rfl)) d_L_law_257 ⟨Nat.le_of_ble_eq_true rfl, Nat.le_of_ble_eq_true rfl⟩) hS (fun q _ h => hA2 q h) (fun q h => hA2 q h) (fun r6 u6 t H' locs ht hvm hu hB hz hk hS => ?_)
    obtain ⟨rfl, rfl⟩ := hu
    obtain ⟨hPm, -⟩ := hB
    rw [ht] at hPm
    have hPm : va_P D cls (wM ae dA ar2 w ((m_M_rule Q (xs ((nI i) + (1 : Int32)).toNatClampNeg) (xs ((nI i) + (2 : Int32)).toNatClampNeg) (xs ((nI i) + (3 : Int32)).toNatClampNeg) (xs ((nI i) + (4 : Int32)).toNatClampNeg)).2) g mk Y) H' := hPm
    have hPc := keep hPc hk (disC hdis)
    clear hz hk hvm ht
    generalize H' = H at hPc hPm hS ⊢
    obtain ⟨he, hRP2, hI2⟩ := rel_rule hRP hI (xs ((nI i) + (1 : Int32)).toNatClampNeg) (xs ((nI i) + (2 : Int32)).toNatClampNeg) (xs ((nI i) + (3 : Int32)).toNatClampNeg) (xs ((nI i) + (4 : Int32)).toNatClampNeg)
    refine lv_icmp_eq (tgt := 632) hx hb d_L_law_260 (by decide) (fun _ => ?_) (fun h => absurd he h)
    refine lv_iinc (v := nI i + 7) hx hb d_L_law_632 hl (k := 0) rfl rfl (by decide) rfl (fun ls hl => ?_)
    have hl : lv_has ls 4 [(3, .int (nI (i + 7))), (2, .ref (ae 0)), (1, .ref (ad 0)), (0, .ref b)] := by rw [← nI_7]; exact hl
    refine lv_goto (tgt := 28) hx hb d_L_law_635 (by decide) ?_
    exact ih1 (i + 7) _ _ _ ⟨by omega, by omega, lv_sub hl [0, 1, 2, 3] rfl, hS, w, (m_F_rule P (xs ((nI i) + (1 : Int32)).toNatClampNeg) (xs ((nI i) + (2 : Int32)).toNatClampNeg) (xs ((nI i) + (3 : Int32)).toNatClampNeg) (xs ((nI i) + (4 : Int32)).toNatClampNeg)).2, g, ss, M, (m_M_rule Q (xs ((nI i) + (1 : Int32)).toNatClampNeg) (xs ((nI i) + (2 : Int32)).toNatClampNeg) (xs ((nI i) + (3 : Int32)).toNatClampNeg) (xs ((nI i) + (4 : Int32)).toNatClampNeg)).2, mk, Y, hPc, hPm, hRP2, hI2, hg, hbm, hRM⟩
  by_cases h5 : (xs (nI i).toNatClampNeg) &&& (15 : Int32) = (3 : Int32)
  · refine lv_tableIn (tgt := 265) (off := 222) hx hb d_L_law_43 (by rw [h5]; decide) (by rw [h5]; decide) (by rw [h5] <;> rfl) (by decide) ?_
    refine lv_aload_n hx hb d_L_law_265 rfl (lv_at hl 2 rfl) ?_
    refine lv_aload_n hx hb d_L_law_266 rfl (lv_at hl 3 rfl) ?_
    refine lv_iload_n hx hb d_L_law_267 rfl (lv_at hl 0 rfl) ?_
    refine lv_iconst (v := 1) hx hb d_L_law_268 (by decide) ?_
    refine lv_iadd hx hb d_L_law_269 ?_
    refine va_sld hx hb hX hbl hbA hS (sc_in (k := 1) hi7 (by omega) (by decide)) d_L_law_270 ?_
    refine lv_aload_n hx hb d_L_law_271 rfl (lv_at hl 3 rfl) ?_
    refine lv_iload_n hx hb d_L_law_272 rfl (lv_at hl 0 rfl) ?_
    refine lv_iconst (v := 2) hx hb d_L_law_273 (by decide) ?_
    refine lv_iadd hx hb d_L_law_274 ?_
    refine va_sld hx hb hX hbl hbA hS (sc_in (k := 2) hi7 (by omega) (by decide)) d_L_law_275 ?_
    refine lv_aload_n hx hb d_L_law_276 rfl (lv_at hl 3 rfl) ?_
    refine lv_iload_n hx hb d_L_law_277 rfl (lv_at hl 0 rfl) ?_
    refine lv_iconst (v := 3) hx hb d_L_law_278 (by decide) ?_
    refine lv_iadd hx hb d_L_law_279 ?_
    refine va_sld hx hb hX hbl hbA hS (sc_in (k := 3) hi7 (by omega) (by decide)) d_L_law_280 ?_
    refine lv_i2l hx hb d_L_law_281 rfl ?_
    refine lv_bipush (v := 32) hx hb d_L_law_282 (by decide) ?_
    refine lv_lshl hx hb d_L_law_284 rfl ?_
    refine lv_aload_n hx hb d_L_law_285 rfl (lv_at hl 3 rfl) ?_
    refine lv_iload_n hx hb d_L_law_286 rfl (lv_at hl 0 rfl) ?_
    refine lv_iconst (v := 4) hx hb d_L_law_287 (by decide) ?_
    refine lv_iadd hx hb d_L_law_288 ?_
    refine va_sld hx hb hX hbl hbA hS (sc_in (k := 4) hi7 (by omega) (by decide)) d_L_law_289 ?_
    refine lv_i2l hx hb d_L_law_290 rfl ?_
    refine lv_ldc2 (v := 4294967295) hx hb hown (hts _ wd_707) d_L_law_291 ?_
    refine lv_land hx hb d_L_law_294 ?_
    refine lv_lor hx hb d_L_law_295 ?_
    refine lv_aload_n hx hb d_L_law_296 rfl (lv_at hl 3 rfl) ?_
    refine lv_iload_n hx hb d_L_law_297 rfl (lv_at hl 0 rfl) ?_
    refine lv_iconst (v := 5) hx hb d_L_law_298 (by decide) ?_
    refine lv_iadd hx hb d_L_law_299 ?_
    refine va_sld hx hb hX hbl hbA hS (sc_in (k := 5) hi7 (by omega) (by decide)) d_L_law_300 ?_
    refine lv_i2l hx hb d_L_law_301 rfl ?_
    refine lv_bipush (v := 32) hx hb d_L_law_302 (by decide) ?_
    refine lv_lshl hx hb d_L_law_304 rfl ?_
    refine lv_aload_n hx hb d_L_law_305 rfl (lv_at hl 3 rfl) ?_
    refine lv_iload_n hx hb d_L_law_306 rfl (lv_at hl 0 rfl) ?_
    refine lv_bipush (v := 6) hx hb d_L_law_307 (by decide) ?_
    refine lv_iadd hx hb d_L_law_309 ?_
    refine va_sld hx hb hX hbl hbA hS (sc_in (k := 6) hi7 (by omega) (by decide)) d_L_law_310 ?_
    refine lv_i2l hx hb d_L_law_311 rfl ?_
    refine lv_ldc2 (v := 4294967295) hx hb hown (hts _ wd_707) d_L_law_312 ?_
    refine lv_land hx hb d_L_law_315 ?_
    refine lv_lor hx hb d_L_law_316 ?_
    refine va_calli (va_runV (As := [.int (xs ((nI i) + (1 : Int32)).toNatClampNeg), .int (xs ((nI i) + (2 : Int32)).toNatClampNeg), .long ((((xs ((nI i) + (3 : Int32)).toNatClampNeg).toInt64) <<< ((32 : Int32).toInt64 &&& 63)) ||| (((xs ((nI i) + (4 : Int32)).toNatClampNeg).toInt64) &&& (4294967295 : Int64))), .long ((((xs ((nI i) + (5 : Int32)).toNatClampNeg).toInt64) <<< ((32 : Int32).toInt64 &&& 63)) ||| (((xs ((nI i) + (6 : Int32)).toNatClampNeg).toInt64) &&& (4294967295 : Int64)))]) (rest := []) ⟨hx, hb, hml, hown, hts⟩ (c_F_condition l D dA ad (A49 ad) hAd1 w P g ss M (xs ((nI i) + (1 : Int32)).toNatClampNeg) (xs ((nI i) + (2 : Int32)).toNatClampNeg) ((((xs ((nI i) + (3 : Int32)).toNatClampNeg).toInt64) <<< ((32 : Int32).toInt64 &&& 63)) ||| (((xs ((nI i) + (4 : Int32)).toNatClampNeg).toInt64) &&& (4294967295 : Int64))) ((((xs ((nI i) + (5 : Int32)).toNatClampNeg).toInt64) <<< ((32 : Int32).toInt64 &&& 63)) ||| (((xs ((nI i) + (6 : Int32)).toNatClampNeg).toInt64) &&& (4294967295 : Int64))) (rp_n hRP hI) (rp_c hRP hI)) (cwV 4 hts (g_V wd_260 wd_261 wd_262 wd_26 wd_263) rfl rfl rfl (by decide +kernel) ⟨Nat.le_of_ble_eq_true rfl, Nat.le_of_ble_eq_true rfl⟩) ⟨CG_fb, (va_recv (ci := 8) (q := (R_F, F_F, 5)) (q0 := 0) hK hPc rfl rfl), fun U hU hW => ⟨rfl, CG_at hPc hK hN hU hW⟩⟩ rfl rfl hl.1 rfl (lv_room (Nat.le_of_ble_eq_true rfl)) d_L_law_317 ⟨Nat.le_of_ble_eq_true rfl, Nat.le_of_ble_eq_true rfl⟩) hS (fun q _ h => hA1 q h) (fun q h => hA1 q h) (fun r7 u7 t H' locs ht hvm hu hB hz hk hS => ?_)
    obtain ⟨rfl, rfl⟩ := hu
    obtain ⟨hPc, -⟩ := hB
    rw [ht] at hPc
    have hPc : va_P D cls (wC ad dA w ((m_F_condition P (xs ((nI i) + (1 : Int32)).toNatClampNeg) (xs ((nI i) + (2 : Int32)).toNatClampNeg) ((((xs ((nI i) + (3 : Int32)).toNatClampNeg).toInt64) <<< ((32 : Int32).toInt64 &&& 63)) ||| (((xs ((nI i) + (4 : Int32)).toNatClampNeg).toInt64) &&& (4294967295 : Int64))) ((((xs ((nI i) + (5 : Int32)).toNatClampNeg).toInt64) <<< ((32 : Int32).toInt64 &&& 63)) ||| (((xs ((nI i) + (6 : Int32)).toNatClampNeg).toInt64) &&& (4294967295 : Int64)))).2) g ss M) H' := hPc
    have hPm := keep hPm hk (disM hdis)
    clear hz hk hvm ht
    generalize H' = H at hPc hPm hS ⊢
    refine lv_aload_n hx hb d_L_law_320 rfl (lv_at hl 1 rfl) ?_
    refine lv_aload_n hx hb d_L_law_321 rfl (lv_at hl 3 rfl) ?_
    refine lv_iload_n hx hb d_L_law_322 rfl (lv_at hl 0 rfl) ?_
    refine lv_iconst (v := 1) hx hb d_L_law_323 (by decide) ?_
    refine lv_iadd hx hb d_L_law_324 ?_
    refine va_sld hx hb hX hbl hbA hS (sc_in (k := 1) hi7 (by omega) (by decide)) d_L_law_325 ?_
    refine lv_aload_n hx hb d_L_law_326 rfl (lv_at hl 3 rfl) ?_
    refine lv_iload_n hx hb d_L_law_327 rfl (lv_at hl 0 rfl) ?_
    refine lv_iconst (v := 2) hx hb d_L_law_328 (by decide) ?_
    refine lv_iadd hx hb d_L_law_329 ?_
    refine va_sld hx hb hX hbl hbA hS (sc_in (k := 2) hi7 (by omega) (by decide)) d_L_law_330 ?_
    refine lv_aload_n hx hb d_L_law_331 rfl (lv_at hl 3 rfl) ?_
    refine lv_iload_n hx hb d_L_law_332 rfl (lv_at hl 0 rfl) ?_
    refine lv_iconst (v := 3) hx hb d_L_law_333 (by decide) ?_
    refine lv_iadd hx hb d_L_law_334 ?_
    refine va_sld hx hb hX hbl hbA hS (sc_in (k := 3) hi7 (by omega) (by decide)) d_L_law_335 ?_
    refine lv_i2l hx hb d_L_law_336 rfl ?_
    refine lv_bipush (v := 32) hx hb d_L_law_337 (by decide) ?_
    refine lv_lshl hx hb d_L_law_339 rfl ?_
    refine lv_aload_n hx hb d_L_law_340 rfl (lv_at hl 3 rfl) ?_
    refine lv_iload_n hx hb d_L_law_341 rfl (lv_at hl 0 rfl) ?_
    refine lv_iconst (v := 4) hx hb d_L_law_342 (by decide) ?_
    refine lv_iadd hx hb d_L_law_343 ?_
    refine va_sld hx hb hX hbl hbA hS (sc_in (k := 4) hi7 (by omega) (by decide)) d_L_law_344 ?_
    refine lv_i2l hx hb d_L_law_345 rfl ?_
    refine lv_ldc2 (v := 4294967295) hx hb hown (hts _ wd_707) d_L_law_346 ?_
    refine lv_land hx hb d_L_law_349 ?_
    refine lv_lor hx hb d_L_law_350 ?_
    refine lv_aload_n hx hb d_L_law_351 rfl (lv_at hl 3 rfl) ?_
    refine lv_iload_n hx hb d_L_law_352 rfl (lv_at hl 0 rfl) ?_
    refine lv_iconst (v := 5) hx hb d_L_law_353 (by decide) ?_
    refine lv_iadd hx hb d_L_law_354 ?_
    refine va_sld hx hb hX hbl hbA hS (sc_in (k := 5) hi7 (by omega) (by decide)) d_L_law_355 ?_
    refine lv_i2l hx hb d_L_law_356 rfl ?_
    refine lv_bipush (v := 32) hx hb d_L_law_357 (by decide) ?_
    refine lv_lshl hx hb d_L_law_359 rfl ?_
    refine lv_aload_n hx hb d_L_law_360 rfl (lv_at hl 3 rfl) ?_
    refine lv_iload_n hx hb d_L_law_361 rfl (lv_at hl 0 rfl) ?_
    refine lv_bipush (v := 6) hx hb d_L_law_362 (by decide) ?_
    refine lv_iadd hx hb d_L_law_364 ?_
    refine va_sld hx hb hX hbl hbA hS (sc_in (k := 6) hi7 (by omega) (by decide)) d_L_law_365 ?_
    refine lv_i2l hx hb d_L_law_366 rfl ?_
    refine lv_ldc2 (v := 4294967295) hx hb hown (hts _ wd_707) d_L_law_367 ?_
    refine lv_land hx hb d_L_law_370 ?_
    refine lv_lor hx hb d_L_law_371 ?_
    refine va_calli (va_runV (As := [.int (xs ((nI i) + (1 : Int32)).toNatClampNeg), .int (xs ((nI i) + (2 : Int32)).toNatClampNeg), .long ((((xs ((nI i) + (3 : Int32)).toNatClampNeg).toInt64) <<< ((32 : Int32).toInt64 &&& 63)) ||| (((xs ((nI i) + (4 : Int32)).toNatClampNeg).toInt64) &&& (4294967295 : Int64))), .long ((((xs ((nI i) + (5 : Int32)).toNatClampNeg).toInt64) <<< ((32 : Int32).toInt64 &&& 63)) ||| (((xs ((nI i) + (6 : Int32)).toNatClampNeg).toInt64) &&& (4294967295 : Int64)))]) (rest := [.int ((m_F_condition P (xs ((nI i) + (1 : Int32)).toNatClampNeg) (xs ((nI i) + (2 : Int32)).toNatClampNeg) ((((xs ((nI i) + (3 : Int32)).toNatClampNeg).toInt64) <<< ((32 : Int32).toInt64 &&& 63)) ||| (((xs ((nI i) + (4 : Int32)).toNatClampNeg).toInt64) &&& (4294967295 : Int64))) ((((xs ((nI i) + (5 : Int32)).toNatClampNeg).toInt64) <<< ((32 : Int32).toInt64 &&& 63)) ||| (((xs ((nI i) + (6 : Int32)).toNatClampNeg).toInt64) &&& (4294967295 : Int64)))).1)]) ⟨hx, hb, hml, hown, hts⟩ (c_M_condition l D dA ae (A15 ae) hAd2 ar2 w Q g mk Y (xs ((nI i) + (1 : Int32)).toNatClampNeg) (xs ((nI i) + (2 : Int32)).toNatClampNeg) ((((xs ((nI i) + (3 : Int32)).toNatClampNeg).toInt64) <<< ((32 : Int32).toInt64 &&& 63)) ||| (((xs ((nI i) + (4 : Int32)).toNatClampNeg).toInt64) &&& (4294967295 : Int64))) ((((xs ((nI i) + (5 : Int32)).toNatClampNeg).toInt64) <<< ((32 : Int32).toInt64 &&& 63)) ||| (((xs ((nI i) + (6 : Int32)).toNatClampNeg).toInt64) &&& (4294967295 : Int64))) hI.1 hI.2.1) (cwV 4 hts (g_V wd_576 wd_577 wd_578 wd_35 wd_579) rfl rfl rfl (by decide +kernel) ⟨Nat.le_of_ble_eq_true rfl, Nat.le_of_ble_eq_true rfl⟩) ⟨MG_fb, (va_recv (ci := 9) (q := (R_M, F_M, 20)) (q0 := 0) hK hPm rfl rfl), fun U hU hW => ⟨rfl, MG_at hPm hK hU hW⟩⟩ rfl rfl hl.1 rfl (lv_room (Nat.le_of_ble_eq_true rfl)) d_L_law_372 ⟨Nat.le_of_ble_eq_true rfl, Nat.le_of_ble_eq_true rfl⟩) hS (fun q _ h => hA2 q h) (fun q h => hA2 q h) (fun r8 u8 t H' locs ht hvm hu hB hz hk hS => ?_)
    obtain ⟨rfl, rfl⟩ := hu
    obtain ⟨hPm, -⟩ := hB
    rw [ht] at hPm
    have hPm : va_P D cls (wM ae dA ar2 w ((m_M_condition Q (xs ((nI i) + (1 : Int32)).toNatClampNeg) (xs ((nI i) + (2 : Int32)).toNatClampNeg) ((((xs ((nI i) + (3 : Int32)).toNatClampNeg).toInt64) <<< ((32 : Int32).toInt64 &&& 63)) ||| (((xs ((nI i) + (4 : Int32)).toNatClampNeg).toInt64) &&& (4294967295 : Int64))) ((((xs ((nI i) + (5 : Int32)).toNatClampNeg).toInt64) <<< ((32 : Int32).toInt64 &&& 63)) ||| (((xs ((nI i) + (6 : Int32)).toNatClampNeg).toInt64) &&& (4294967295 : Int64)))).2) g mk Y) H' := hPm
    have hPc := keep hPc hk (disC hdis)
    clear hz hk hvm ht
    generalize H' = H at hPc hPm hS ⊢
    obtain ⟨he, hRP2, hI2⟩ := rel_condition hRP hI (xs ((nI i) + (1 : Int32)).toNatClampNeg) (xs ((nI i) + (2 : Int32)).toNatClampNeg) ((((xs ((nI i) + (3 : Int32)).toNatClampNeg).toInt64) <<< ((32 : Int32).toInt64 &&& 63)) ||| (((xs ((nI i) + (4 : Int32)).toNatClampNeg).toInt64) &&& (4294967295 : Int64))) ((((xs ((nI i) + (5 : Int32)).toNatClampNeg).toInt64) <<< ((32 : Int32).toInt64 &&& 63)) ||| (((xs ((nI i) + (6 : Int32)).toNatClampNeg).toInt64) &&& (4294967295 : Int64)))
    refine lv_icmp_eq (tgt := 632) hx hb d_L_law_375 (by decide) (fun _ => ?_) (fun h => absurd he h)
    refine lv_iinc (v := nI i + 7) hx hb d_L_law_632 hl (k := 0) rfl rfl (by decide) rfl (fun ls hl => ?_)
    have hl : lv_has ls 4 [(3, .int (nI (i + 7))), (2, .ref (ae 0)), (1, .ref (ad 0)), (0, .ref b)] := by rw [← nI_7]; exact hl
    refine lv_goto (tgt := 28) hx hb d_L_law_635 (by decide) ?_
    exact ih1 (i + 7) _ _ _ ⟨by omega, by omega, lv_sub hl [0, 1, 2, 3] rfl, hS, w, (m_F_condition P (xs ((nI i) + (1 : Int32)).toNatClampNeg) (xs ((nI i) + (2 : Int32)).toNatClampNeg) ((((xs ((nI i) + (3 : Int32)).toNatClampNeg).toInt64) <<< ((32 : Int32).toInt64 &&& 63)) ||| (((xs ((nI i) + (4 : Int32)).toNatClampNeg).toInt64) &&& (4294967295 : Int64))) ((((xs ((nI i) + (5 : Int32)).toNatClampNeg).toInt64) <<< ((32 : Int32).toInt64 &&& 63)) ||| (((xs ((nI i) + (6 : Int32)).toNatClampNeg).toInt64) &&& (4294967295 : Int64)))).2, g, ss, M, (m_M_condition Q (xs ((nI i) + (1 : Int32)).toNatClampNeg) (xs ((nI i) + (2 : Int32)).toNatClampNeg) ((((xs ((nI i) + (3 : Int32)).toNatClampNeg).toInt64) <<< ((32 : Int32).toInt64 &&& 63)) ||| (((xs ((nI i) + (4 : Int32)).toNatClampNeg).toInt64) &&& (4294967295 : Int64))) ((((xs ((nI i) + (5 : Int32)).toNatClampNeg).toInt64) <<< ((32 : Int32).toInt64 &&& 63)) ||| (((xs ((nI i) + (6 : Int32)).toNatClampNeg).toInt64) &&& (4294967295 : Int64)))).2, mk, Y, hPc, hPm, hRP2, hI2, hg, hbm, hRM⟩
  by_cases h6 : (xs (nI i).toNatClampNeg) &&& (15 : Int32) = (4 : Int32)
  · refine lv_tableIn (tgt := 380) (off := 337) hx hb d_L_law_43 (by rw [h6]; decide) (by rw [h6]; decide) (by rw [h6] <;> rfl) (by decide) ?_
    refine lv_aload_n hx hb d_L_law_380 rfl (lv_at hl 2 rfl) ?_
    refine lv_aload_n hx hb d_L_law_381 rfl (lv_at hl 3 rfl) ?_
    refine lv_iload_n hx hb d_L_law_382 rfl (lv_at hl 0 rfl) ?_
    refine lv_iconst (v := 1) hx hb d_L_law_383 (by decide) ?_
    refine lv_iadd hx hb d_L_law_384 ?_
    refine va_sld hx hb hX hbl hbA hS (sc_in (k := 1) hi7 (by omega) (by decide)) d_L_law_385 ?_
    refine lv_if_eq (tgt := 393) hx hb d_L_law_386 (by decide) (fun h7 => ?_) (fun h7 => ?_)
    · refine lv_iconst (v := 0) hx hb d_L_law_393 (by decide) ?_
      refine lv_aload_n hx hb d_L_law_394 rfl (lv_at hl 3 rfl) ?_
      refine lv_iload_n hx hb d_L_law_395 rfl (lv_at hl 0 rfl) ?_
      refine lv_iconst (v := 2) hx hb d_L_law_396 (by decide) ?_
      refine lv_iadd hx hb d_L_law_397 ?_
      refine va_sld hx hb hX hbl hbA hS (sc_in (k := 2) hi7 (by omega) (by decide)) d_L_law_398 ?_
      refine lv_aload_n hx hb d_L_law_399 rfl (lv_at hl 3 rfl) ?_
      refine lv_iload_n hx hb d_L_law_400 rfl (lv_at hl 0 rfl) ?_
      refine lv_iconst (v := 3) hx hb d_L_law_401 (by decide) ?_
      refine lv_iadd hx hb d_L_law_402 ?_
      refine va_sld hx hb hX hbl hbA hS (sc_in (k := 3) hi7 (by omega) (by decide)) d_L_law_403 ?_
      refine va_calli (va_runV (As := [.int (0 : Int32), .int (xs ((nI i) + (2 : Int32)).toNatClampNeg), .int (xs ((nI i) + (3 : Int32)).toNatClampNeg)]) (rest := []) ⟨hx, hb, hml, hown, hts⟩ (c_F_otherwise l D dA ad (A49 ad) hAd1 w P g ss M (0 : Int32) (xs ((nI i) + (2 : Int32)).toNatClampNeg) (xs ((nI i) + (3 : Int32)).toNatClampNeg)) (cwV 3 hts (g_V wd_275 wd_276 wd_277 wd_26 wd_278) rfl rfl rfl (by decide +kernel) ⟨Nat.le_of_ble_eq_true rfl, Nat.le_of_ble_eq_true rfl⟩) ⟨CG_fb, (va_recv (ci := 8) (q := (R_F, F_F, 5)) (q0 := 0) hK hPc rfl rfl), fun U hU hW => ⟨rfl, CG_at hPc hK hN hU hW⟩⟩ rfl rfl hl.1 rfl (lv_room (Nat.le_of_ble_eq_true rfl)) d_L_law_404 ⟨Nat.le_of_ble_eq_true rfl, Nat.le_of_ble_eq_true rfl⟩) hS (fun q _ h => hA1 q h) (fun q h => hA1 q h) (fun r9 u9 t H' locs ht hvm hu hB hz hk hS => ?_)
      obtain ⟨rfl, rfl⟩ := hu
      obtain ⟨hPc, -⟩ := hB
      rw [ht] at hPc
      have hPc : va_P D cls (wC ad dA w ((m_F_otherwise P (0 : Int32) (xs ((nI i) + (2 : Int32)).toNatClampNeg) (xs ((nI i) + (3 : Int32)).toNatClampNeg)).2) g ss M) H' := hPc
      have hPm := keep hPm hk (disM hdis)
      clear hz hk hvm ht
      generalize H' = H at hPc hPm hS ⊢
      refine lv_aload_n hx hb d_L_law_407 rfl (lv_at hl 1 rfl) ?_
      refine lv_aload_n hx hb d_L_law_408 rfl (lv_at hl 3 rfl) ?_
      refine lv_iload_n hx hb d_L_law_409 rfl (lv_at hl 0 rfl) ?_
      refine lv_iconst (v := 1) hx hb d_L_law_410 (by decide) ?_
      refine lv_iadd hx hb d_L_law_411 ?_
      refine va_sld hx hb hX hbl hbA hS (sc_in (k := 1) hi7 (by omega) (by decide)) d_L_law_412 ?_
      refine lv_if_eq (tgt := 420) hx hb d_L_law_413 (by decide) (fun _ => ?_) (fun h => absurd h7 h)
      refine lv_iconst (v := 0) hx hb d_L_law_420 (by decide) ?_
      refine lv_aload_n hx hb d_L_law_421 rfl (lv_at hl 3 rfl) ?_
      refine lv_iload_n hx hb d_L_law_422 rfl (lv_at hl 0 rfl) ?_
      refine lv_iconst (v := 2) hx hb d_L_law_423 (by decide) ?_
      refine lv_iadd hx hb d_L_law_424 ?_
      refine va_sld hx hb hX hbl hbA hS (sc_in (k := 2) hi7 (by omega) (by decide)) d_L_law_425 ?_
      refine lv_aload_n hx hb d_L_law_426 rfl (lv_at hl 3 rfl) ?_
      refine lv_iload_n hx hb d_L_law_427 rfl (lv_at hl 0 rfl) ?_
      refine lv_iconst (v := 3) hx hb d_L_law_428 (by decide) ?_
      refine lv_iadd hx hb d_L_law_429 ?_
      refine va_sld hx hb hX hbl hbA hS (sc_in (k := 3) hi7 (by omega) (by decide)) d_L_law_430 ?_
      refine va_calli (va_runV (As := [.int (0 : Int32), .int (xs ((nI i) + (2 : Int32)).toNatClampNeg), .int (xs ((nI i) + (3 : Int32)).toNatClampNeg)]) (rest := [.int ((m_F_otherwise P (0 : Int32) (xs ((nI i) + (2 : Int32)).toNatClampNeg) (xs ((nI i) + (3 : Int32)).toNatClampNeg)).1)]) ⟨hx, hb, hml, hown, hts⟩ (c_M_otherwise l D dA ae (A15 ae) hAd2 ar2 w Q g mk Y (0 : Int32) (xs ((nI i) + (2 : Int32)).toNatClampNeg) (xs ((nI i) + (3 : Int32)).toNatClampNeg)) (cwV 3 hts (g_V wd_580 wd_581 wd_582 wd_35 wd_583) rfl rfl rfl (by decide +kernel) ⟨Nat.le_of_ble_eq_true rfl, Nat.le_of_ble_eq_true rfl⟩) ⟨MG_fb, (va_recv (ci := 9) (q := (R_M, F_M, 20)) (q0 := 0) hK hPm rfl rfl), fun U hU hW => ⟨rfl, MG_at hPm hK hU hW⟩⟩ rfl rfl hl.1 rfl (lv_room (Nat.le_of_ble_eq_true rfl)) d_L_law_431 ⟨Nat.le_of_ble_eq_true rfl, Nat.le_of_ble_eq_true rfl⟩) hS (fun q _ h => hA2 q h) (fun q h => hA2 q h) (fun r10 u10 t H' locs ht hvm hu hB hz hk hS => ?_)
      obtain ⟨rfl, rfl⟩ := hu
      obtain ⟨hPm, -⟩ := hB
      rw [ht] at hPm
      have hPm : va_P D cls (wM ae dA ar2 w ((m_M_otherwise Q (0 : Int32) (xs ((nI i) + (2 : Int32)).toNatClampNeg) (xs ((nI i) + (3 : Int32)).toNatClampNeg)).2) g mk Y) H' := hPm
      have hPc := keep hPc hk (disC hdis)
      clear hz hk hvm ht
      generalize H' = H at hPc hPm hS ⊢
      obtain ⟨he, hRP2, hI2⟩ := rel_otherwise hRP hI (0 : Int32) (xs ((nI i) + (2 : Int32)).toNatClampNeg) (xs ((nI i) + (3 : Int32)).toNatClampNeg)
      refine lv_icmp_eq (tgt := 632) hx hb d_L_law_434 (by decide) (fun _ => ?_) (fun h => absurd he h)
      refine lv_iinc (v := nI i + 7) hx hb d_L_law_632 hl (k := 0) rfl rfl (by decide) rfl (fun ls hl => ?_)
      have hl : lv_has ls 4 [(3, .int (nI (i + 7))), (2, .ref (ae 0)), (1, .ref (ad 0)), (0, .ref b)] := by rw [← nI_7]; exact hl
      refine lv_goto (tgt := 28) hx hb d_L_law_635 (by decide) ?_
      exact ih1 (i + 7) _ _ _ ⟨by omega, by omega, lv_sub hl [0, 1, 2, 3] rfl, hS, w, (m_F_otherwise P (0 : Int32) (xs ((nI i) + (2 : Int32)).toNatClampNeg) (xs ((nI i) + (3 : Int32)).toNatClampNeg)).2, g, ss, M, (m_M_otherwise Q (0 : Int32) (xs ((nI i) + (2 : Int32)).toNatClampNeg) (xs ((nI i) + (3 : Int32)).toNatClampNeg)).2, mk, Y, hPc, hPm, hRP2, hI2, hg, hbm, hRM⟩
    refine lv_iconst (v := 1) hx hb d_L_law_389 (by decide) ?_
    refine lv_goto (tgt := 394) hx hb d_L_law_390 (by decide) ?_
    refine lv_aload_n hx hb d_L_law_394 rfl (lv_at hl 3 rfl) ?_
    refine lv_iload_n hx hb d_L_law_395 rfl (lv_at hl 0 rfl) ?_
    refine lv_iconst (v := 2) hx hb d_L_law_396 (by decide) ?_
    refine lv_iadd hx hb d_L_law_397 ?_
    refine va_sld hx hb hX hbl hbA hS (sc_in (k := 2) hi7 (by omega) (by decide)) d_L_law_398 ?_
    refine lv_aload_n hx hb d_L_law_399 rfl (lv_at hl 3 rfl) ?_
    refine lv_iload_n hx hb d_L_law_400 rfl (lv_at hl 0 rfl) ?_
    refine lv_iconst (v := 3) hx hb d_L_law_401 (by decide) ?_
    refine lv_iadd hx hb d_L_law_402 ?_
    refine va_sld hx hb hX hbl hbA hS (sc_in (k := 3) hi7 (by omega) (by decide)) d_L_law_403 ?_
    refine va_calli (va_runV (As := [.int (1 : Int32), .int (xs ((nI i) + (2 : Int32)).toNatClampNeg), .int (xs ((nI i) + (3 : Int32)).toNatClampNeg)]) (rest := []) ⟨hx, hb, hml, hown, hts⟩ (c_F_otherwise l D dA ad (A49 ad) hAd1 w P g ss M (1 : Int32) (xs ((nI i) + (2 : Int32)).toNatClampNeg) (xs ((nI i) + (3 : Int32)).toNatClampNeg)) (cwV 3 hts (g_V wd_275 wd_276 wd_277 wd_26 wd_278) rfl rfl rfl (by decide +kernel) ⟨Nat.le_of_ble_eq_true rfl, Nat.le_of_ble_eq_true rfl⟩) ⟨CG_fb, (va_recv (ci := 8) (q := (R_F, F_F, 5)) (q0 := 0) hK hPc rfl rfl), fun U hU hW => ⟨rfl, CG_at hPc hK hN hU hW⟩⟩ rfl rfl hl.1 rfl (lv_room (Nat.le_of_ble_eq_true rfl)) d_L_law_404 ⟨Nat.le_of_ble_eq_true rfl, Nat.le_of_ble_eq_true rfl⟩) hS (fun q _ h => hA1 q h) (fun q h => hA1 q h) (fun r11 u11 t H' locs ht hvm hu hB hz hk hS => ?_)
    obtain ⟨rfl, rfl⟩ := hu
    obtain ⟨hPc, -⟩ := hB
    rw [ht] at hPc
    have hPc : va_P D cls (wC ad dA w ((m_F_otherwise P (1 : Int32) (xs ((nI i) + (2 : Int32)).toNatClampNeg) (xs ((nI i) + (3 : Int32)).toNatClampNeg)).2) g ss M) H' := hPc
    have hPm := keep hPm hk (disM hdis)
    clear hz hk hvm ht
    generalize H' = H at hPc hPm hS ⊢
    refine lv_aload_n hx hb d_L_law_407 rfl (lv_at hl 1 rfl) ?_
    refine lv_aload_n hx hb d_L_law_408 rfl (lv_at hl 3 rfl) ?_
    refine lv_iload_n hx hb d_L_law_409 rfl (lv_at hl 0 rfl) ?_
    refine lv_iconst (v := 1) hx hb d_L_law_410 (by decide) ?_
    refine lv_iadd hx hb d_L_law_411 ?_
    refine va_sld hx hb hX hbl hbA hS (sc_in (k := 1) hi7 (by omega) (by decide)) d_L_law_412 ?_
    refine lv_if_eq (tgt := 420) hx hb d_L_law_413 (by decide) (fun h => absurd h h7) (fun _ => ?_)
    refine lv_iconst (v := 1) hx hb d_L_law_416 (by decide) ?_
    refine lv_goto (tgt := 421) hx hb d_L_law_417 (by decide) ?_
    refine lv_aload_n hx hb d_L_law_421 rfl (lv_at hl 3 rfl) ?_
    refine lv_iload_n hx hb d_L_law_422 rfl (lv_at hl 0 rfl) ?_
    refine lv_iconst (v := 2) hx hb d_L_law_423 (by decide) ?_
    refine lv_iadd hx hb d_L_law_424 ?_
    refine va_sld hx hb hX hbl hbA hS (sc_in (k := 2) hi7 (by omega) (by decide)) d_L_law_425 ?_
    refine lv_aload_n hx hb d_L_law_426 rfl (lv_at hl 3 rfl) ?_
    refine lv_iload_n hx hb d_L_law_427 rfl (lv_at hl 0 rfl) ?_
    refine lv_iconst (v := 3) hx hb d_L_law_428 (by decide) ?_
    refine lv_iadd hx hb d_L_law_429 ?_
    refine va_sld hx hb hX hbl hbA hS (sc_in (k := 3) hi7 (by omega) (by decide)) d_L_law_430 ?_
    refine va_calli (va_runV (As := [.int (1 : Int32), .int (xs ((nI i) + (2 : Int32)).toNatClampNeg), .int (xs ((nI i) + (3 : Int32)).toNatClampNeg)]) (rest := [.int ((m_F_otherwise P (1 : Int32) (xs ((nI i) + (2 : Int32)).toNatClampNeg) (xs ((nI i) + (3 : Int32)).toNatClampNeg)).1)]) ⟨hx, hb, hml, hown, hts⟩ (c_M_otherwise l D dA ae (A15 ae) hAd2 ar2 w Q g mk Y (1 : Int32) (xs ((nI i) + (2 : Int32)).toNatClampNeg) (xs ((nI i) + (3 : Int32)).toNatClampNeg)) (cwV 3 hts (g_V wd_580 wd_581 wd_582 wd_35 wd_583) rfl rfl rfl (by decide +kernel) ⟨Nat.le_of_ble_eq_true rfl, Nat.le_of_ble_eq_true rfl⟩) ⟨MG_fb, (va_recv (ci := 9) (q := (R_M, F_M, 20)) (q0 := 0) hK hPm rfl rfl), fun U hU hW => ⟨rfl, MG_at hPm hK hU hW⟩⟩ rfl rfl hl.1 rfl (lv_room (Nat.le_of_ble_eq_true rfl)) d_L_law_431 ⟨Nat.le_of_ble_eq_true rfl, Nat.le_of_ble_eq_true rfl⟩) hS (fun q _ h => hA2 q h) (fun q h => hA2 q h) (fun r12 u12 t H' locs ht hvm hu hB hz hk hS => ?_)
    obtain ⟨rfl, rfl⟩ := hu
    obtain ⟨hPm, -⟩ := hB
    rw [ht] at hPm
    have hPm : va_P D cls (wM ae dA ar2 w ((m_M_otherwise Q (1 : Int32) (xs ((nI i) + (2 : Int32)).toNatClampNeg) (xs ((nI i) + (3 : Int32)).toNatClampNeg)).2) g mk Y) H' := hPm
    have hPc := keep hPc hk (disC hdis)
    clear hz hk hvm ht
    generalize H' = H at hPc hPm hS ⊢
    obtain ⟨he, hRP2, hI2⟩ := rel_otherwise hRP hI (1 : Int32) (xs ((nI i) + (2 : Int32)).toNatClampNeg) (xs ((nI i) + (3 : Int32)).toNatClampNeg)
    refine lv_icmp_eq (tgt := 632) hx hb d_L_law_434 (by decide) (fun _ => ?_) (fun h => absurd he h)
    refine lv_iinc (v := nI i + 7) hx hb d_L_law_632 hl (k := 0) rfl rfl (by decide) rfl (fun ls hl => ?_)
    have hl : lv_has ls 4 [(3, .int (nI (i + 7))), (2, .ref (ae 0)), (1, .ref (ad 0)), (0, .ref b)] := by rw [← nI_7]; exact hl
    refine lv_goto (tgt := 28) hx hb d_L_law_635 (by decide) ?_
    exact ih1 (i + 7) _ _ _ ⟨by omega, by omega, lv_sub hl [0, 1, 2, 3] rfl, hS, w, (m_F_otherwise P (1 : Int32) (xs ((nI i) + (2 : Int32)).toNatClampNeg) (xs ((nI i) + (3 : Int32)).toNatClampNeg)).2, g, ss, M, (m_M_otherwise Q (1 : Int32) (xs ((nI i) + (2 : Int32)).toNatClampNeg) (xs ((nI i) + (3 : Int32)).toNatClampNeg)).2, mk, Y, hPc, hPm, hRP2, hI2, hg, hbm, hRM⟩
  by_cases h8 : (xs (nI i).toNatClampNeg) &&& (15 : Int32) = (5 : Int32)
  · refine lv_tableIn (tgt := 439) (off := 396) hx hb d_L_law_43 (by rw [h8]; decide) (by rw [h8]; decide) (by rw [h8] <;> rfl) (by decide) ?_
    refine lv_aload_n hx hb d_L_law_439 rfl (lv_at hl 2 rfl) ?_
    refine va_calli (va_runV (As := []) (rest := []) ⟨hx, hb, hml, hown, hts⟩ (c_F_withdraw l D dA ad (A49 ad) hAd1 w P g ss M) (cwV 0 hts (g_V wd_280 wd_281 wd_282 wd_26 wd_283) rfl rfl rfl (by decide +kernel) ⟨Nat.le_of_ble_eq_true rfl, Nat.le_of_ble_eq_true rfl⟩) ⟨CG_fb, (va_recv (ci := 8) (q := (R_F, F_F, 5)) (q0 := 0) hK hPc rfl rfl), fun U hU hW => ⟨rfl, CG_at hPc hK hN hU hW⟩⟩ rfl rfl hl.1 rfl (lv_room (Nat.le_of_ble_eq_true rfl)) d_L_law_440 ⟨Nat.le_of_ble_eq_true rfl, Nat.le_of_ble_eq_true rfl⟩) hS (fun q _ h => hA1 q h) (fun q h => hA1 q h) (fun r13 u13 t H' locs ht hvm hu hB hz hk hS => ?_)
    obtain ⟨rfl, rfl⟩ := hu
    obtain ⟨hPc, -⟩ := hB
    rw [ht] at hPc
    have hPc : va_P D cls (wC ad dA w ((m_F_withdraw P).2) g ss M) H' := hPc
    have hPm := keep hPm hk (disM hdis)
    clear hz hk hvm ht
    generalize H' = H at hPc hPm hS ⊢
    refine lv_aload_n hx hb d_L_law_443 rfl (lv_at hl 1 rfl) ?_
    refine va_calli (va_runV (As := []) (rest := [.int ((m_F_withdraw P).1)]) ⟨hx, hb, hml, hown, hts⟩ (c_M_withdraw l D dA ae (A15 ae) hAd2 ar2 w Q g mk Y) (cwV 0 hts (g_V wd_584 wd_585 wd_586 wd_35 wd_587) rfl rfl rfl (by decide +kernel) ⟨Nat.le_of_ble_eq_true rfl, Nat.le_of_ble_eq_true rfl⟩) ⟨MG_fb, (va_recv (ci := 9) (q := (R_M, F_M, 20)) (q0 := 0) hK hPm rfl rfl), fun U hU hW => ⟨rfl, MG_at hPm hK hU hW⟩⟩ rfl rfl hl.1 rfl (lv_room (Nat.le_of_ble_eq_true rfl)) d_L_law_444 ⟨Nat.le_of_ble_eq_true rfl, Nat.le_of_ble_eq_true rfl⟩) hS (fun q _ h => hA2 q h) (fun q h => hA2 q h) (fun r14 u14 t H' locs ht hvm hu hB hz hk hS => ?_)
    obtain ⟨rfl, rfl⟩ := hu
    obtain ⟨hPm, -⟩ := hB
    rw [ht] at hPm
    have hPm : va_P D cls (wM ae dA ar2 w ((m_M_withdraw Q).2) g mk Y) H' := hPm
    have hPc := keep hPc hk (disC hdis)
    clear hz hk hvm ht
    generalize H' = H at hPc hPm hS ⊢
    obtain ⟨he, hRP2, hI2⟩ := rel_withdraw hRP hI
    refine lv_icmp_eq (tgt := 632) hx hb d_L_law_447 (by decide) (fun _ => ?_) (fun h => absurd he h)
    refine lv_iinc (v := nI i + 7) hx hb d_L_law_632 hl (k := 0) rfl rfl (by decide) rfl (fun ls hl => ?_)
    have hl : lv_has ls 4 [(3, .int (nI (i + 7))), (2, .ref (ae 0)), (1, .ref (ad 0)), (0, .ref b)] := by rw [← nI_7]; exact hl
    refine lv_goto (tgt := 28) hx hb d_L_law_635 (by decide) ?_
    exact ih1 (i + 7) _ _ _ ⟨by omega, by omega, lv_sub hl [0, 1, 2, 3] rfl, hS, w, (m_F_withdraw P).2, g, ss, M, (m_M_withdraw Q).2, mk, Y, hPc, hPm, hRP2, hI2, hg, hbm, hRM⟩
  by_cases h9 : (xs (nI i).toNatClampNeg) &&& (15 : Int32) = (6 : Int32)
  · refine lv_tableIn (tgt := 452) (off := 409) hx hb d_L_law_43 (by rw [h9]; decide) (by rw [h9]; decide) (by rw [h9] <;> rfl) (by decide) ?_
    refine lv_aload_n hx hb d_L_law_452 rfl (lv_at hl 2 rfl) ?_
    refine vp_callSl (va_Run.run (va_runV (As := []) (rest := []) ⟨hx, hb, hml, hown, hts⟩ (c_F_decide l D dA ad kt w P g ss M (rp_n hRP hI) (rp_c hRP hI) (rp_p hRP hI) (rp_d hRP hI) (rp_f hRP hI) (rp_r hRP hI)) (cwV 0 hts (g_V wd_284 wd_285 wd_286 wd_26 wd_287) rfl rfl rfl (by decide +kernel) ⟨Nat.le_of_ble_eq_true rfl, Nat.le_of_ble_eq_true rfl⟩) ⟨CGk_fb, (va_recv (ci := 8) (q := (R_F, F_F, 5)) (q0 := 0) hK hPc rfl rfl), fun U hU hW => ⟨rfl, CG_at hPc hK hN hU hW, KW_law hkw hS hU hW⟩⟩ rfl rfl hl.1 rfl (lv_room (Nat.le_of_ble_eq_true rfl)) d_L_law_453 ⟨Nat.le_of_ble_eq_true rfl, Nat.le_of_ble_eq_true rfl⟩)) (fun r15 e1 => ?_)
    subst e1
    refine lv_aload_n hx hb d_L_law_456 rfl (lv_at hl 1 rfl) ?_
    refine vp_callSl (va_Run.run (va_runV (As := []) (rest := [.long (m_F_decide w P)]) ⟨hx, hb, hml, hown, hts⟩ (c_M_decide l D dA ae ar2 w Q g mk Y hI.1 hI.2.1 hI.2.2.1) (cwV 0 hts (g_V wd_610 wd_611 wd_612 wd_35 wd_613) rfl rfl rfl (by decide +kernel) ⟨Nat.le_of_ble_eq_true rfl, Nat.le_of_ble_eq_true rfl⟩) ⟨MG_fb, (va_recv (ci := 9) (q := (R_M, F_M, 20)) (q0 := 0) hK hPm rfl rfl), fun U hU hW => ⟨rfl, MG_at hPm hK hU hW⟩⟩ rfl rfl hl.1 rfl (lv_room (Nat.le_of_ble_eq_true rfl)) d_L_law_457 ⟨Nat.le_of_ble_eq_true rfl, Nat.le_of_ble_eq_true rfl⟩)) (fun r16 e2 => ?_)
    subst e2
    refine W.lcmp hx hb d_L_law_460 ?_
    have he := decide_eq (w := w) hRP hI
    refine lv_if_eq (tgt := 632) hx hb d_L_law_461 (by decide) (fun _ => ?_) (fun h => absurd ((cmp_eq _ _).mpr he) h)
    refine lv_iinc (v := nI i + 7) hx hb d_L_law_632 hl (k := 0) rfl rfl (by decide) rfl (fun ls hl => ?_)
    have hl : lv_has ls 4 [(3, .int (nI (i + 7))), (2, .ref (ae 0)), (1, .ref (ad 0)), (0, .ref b)] := by rw [← nI_7]; exact hl
    refine lv_goto (tgt := 28) hx hb d_L_law_635 (by decide) ?_
    exact ih1 (i + 7) _ _ _ ⟨by omega, by omega, lv_sub hl [0, 1, 2, 3] rfl, hS, w, P, g, ss, M, Q, mk, Y, hPc, hPm, hRP, hI, hg, hbm, hRM⟩
  by_cases h10 : (xs (nI i).toNatClampNeg) &&& (15 : Int32) = (7 : Int32)
  · refine lv_tableIn (tgt := 466) (off := 423) hx hb d_L_law_43 (by rw [h10]; decide) (by rw [h10]; decide) (by rw [h10] <;> rfl) (by decide) ?_
    refine lv_aload_n hx hb d_L_law_466 rfl (lv_at hl 2 rfl) ?_
    refine vp_callSi (va_Run.run (va_runV (As := []) (rest := []) ⟨hx, hb, hml, hown, hts⟩ (c_F_ruling l D dA ad w P g ss M (rp_n hRP hI) (rp_c hRP hI) (rp_p hRP hI)) (cwV 0 hts (g_V wd_336 wd_337 wd_338 wd_26 wd_339) rfl rfl rfl (by decide +kernel) ⟨Nat.le_of_ble_eq_true rfl, Nat.le_of_ble_eq_true rfl⟩) ⟨CG_fb, (va_recv (ci := 8) (q := (R_F, F_F, 5)) (q0 := 0) hK hPc rfl rfl), fun U hU hW => ⟨rfl, CG_at hPc hK hN hU hW⟩⟩ rfl rfl hl.1 rfl (lv_room (Nat.le_of_ble_eq_true rfl)) d_L_law_467 ⟨Nat.le_of_ble_eq_true rfl, Nat.le_of_ble_eq_true rfl⟩)) (fun r17 e3 => ?_)
    subst e3
    refine lv_aload_n hx hb d_L_law_470 rfl (lv_at hl 1 rfl) ?_
    refine vp_callSi (va_Run.run (va_runV (As := []) (rest := [.int (m_F_ruling w P)]) ⟨hx, hb, hml, hown, hts⟩ (c_M_ruling l D dA ae ar2 w Q g mk Y hI.1 hI.2.1 hI.2.2.1) (cwV 0 hts (g_V wd_588 wd_589 wd_590 wd_35 wd_591) rfl rfl rfl (by decide +kernel) ⟨Nat.le_of_ble_eq_true rfl, Nat.le_of_ble_eq_true rfl⟩) ⟨MG_fb, (va_recv (ci := 9) (q := (R_M, F_M, 20)) (q0 := 0) hK hPm rfl rfl), fun U hU hW => ⟨rfl, MG_at hPm hK hU hW⟩⟩ rfl rfl hl.1 rfl (lv_room (Nat.le_of_ble_eq_true rfl)) d_L_law_471 ⟨Nat.le_of_ble_eq_true rfl, Nat.le_of_ble_eq_true rfl⟩)) (fun r18 e4 => ?_)
    subst e4
    have he := ruling_eq (w := w) hRP hI
    refine lv_icmp_eq (tgt := 632) hx hb d_L_law_474 (by decide) (fun _ => ?_) (fun h => absurd he h)
    refine lv_iinc (v := nI i + 7) hx hb d_L_law_632 hl (k := 0) rfl rfl (by decide) rfl (fun ls hl => ?_)
    have hl : lv_has ls 4 [(3, .int (nI (i + 7))), (2, .ref (ae 0)), (1, .ref (ad 0)), (0, .ref b)] := by rw [← nI_7]; exact hl
    refine lv_goto (tgt := 28) hx hb d_L_law_635 (by decide) ?_
    exact ih1 (i + 7) _ _ _ ⟨by omega, by omega, lv_sub hl [0, 1, 2, 3] rfl, hS, w, P, g, ss, M, Q, mk, Y, hPc, hPm, hRP, hI, hg, hbm, hRM⟩
  by_cases h11 : (xs (nI i).toNatClampNeg) &&& (15 : Int32) = (8 : Int32)
  · refine lv_tableIn (tgt := 479) (off := 436) hx hb d_L_law_43 (by rw [h11]; decide) (by rw [h11]; decide) (by rw [h11] <;> rfl) (by decide) ?_
    refine lv_aload_n hx hb d_L_law_479 rfl (lv_at hl 2 rfl) ?_
    refine lv_aload_n hx hb d_L_law_480 rfl (lv_at hl 3 rfl) ?_
    refine lv_iload_n hx hb d_L_law_481 rfl (lv_at hl 0 rfl) ?_
    refine lv_iconst (v := 1) hx hb d_L_law_482 (by decide) ?_
    refine lv_iadd hx hb d_L_law_483 ?_
    refine va_sld hx hb hX hbl hbA hS (sc_in (k := 1) hi7 (by omega) (by decide)) d_L_law_484 ?_
    refine lv_i2l hx hb d_L_law_485 rfl ?_
    refine lv_bipush (v := 32) hx hb d_L_law_486 (by decide) ?_
    refine lv_lshl hx hb d_L_law_488 rfl ?_
    refine lv_aload_n hx hb d_L_law_489 rfl (lv_at hl 3 rfl) ?_
    refine lv_iload_n hx hb d_L_law_490 rfl (lv_at hl 0 rfl) ?_
    refine lv_iconst (v := 2) hx hb d_L_law_491 (by decide) ?_
    refine lv_iadd hx hb d_L_law_492 ?_
    refine va_sld hx hb hX hbl hbA hS (sc_in (k := 2) hi7 (by omega) (by decide)) d_L_law_493 ?_
    refine lv_i2l hx hb d_L_law_494 rfl ?_
    refine lv_ldc2 (v := 4294967295) hx hb hown (hts _ wd_707) d_L_law_495 ?_
    refine lv_land hx hb d_L_law_498 ?_
    refine lv_lor hx hb d_L_law_499 ?_
    refine va_calli (va_runV (As := [.long ((((xs ((nI i) + (1 : Int32)).toNatClampNeg).toInt64) <<< ((32 : Int32).toInt64 &&& 63)) ||| (((xs ((nI i) + (2 : Int32)).toNatClampNeg).toInt64) &&& (4294967295 : Int64)))]) (rest := []) ⟨hx, hb, hml, hown, hts⟩ (c_F_put l D dA ad (A49 ad) hAd1 w P g ss M ((((xs ((nI i) + (1 : Int32)).toNatClampNeg).toInt64) <<< ((32 : Int32).toInt64 &&& 63)) ||| (((xs ((nI i) + (2 : Int32)).toNatClampNeg).toInt64) &&& (4294967295 : Int64))) (g_pos hg)) (cwV 1 hts (g_V wd_340 wd_341 wd_342 wd_26 wd_343) rfl rfl rfl (by decide +kernel) ⟨Nat.le_of_ble_eq_true rfl, Nat.le_of_ble_eq_true rfl⟩) ⟨CG_fb, (va_recv (ci := 8) (q := (R_F, F_F, 5)) (q0 := 0) hK hPc rfl rfl), fun U hU hW => ⟨rfl, CG_at hPc hK hN hU hW⟩⟩ rfl rfl hl.1 rfl (lv_room (Nat.le_of_ble_eq_true rfl)) d_L_law_500 ⟨Nat.le_of_ble_eq_true rfl, Nat.le_of_ble_eq_true rfl⟩) hS (fun q _ h => hA1 q h) (fun q h => hA1 q h) (fun r19 u15 t H' locs ht hvm hu hB hz hk hS => ?_)
    obtain ⟨rfl, rfl⟩ := hu
    obtain ⟨hPc, -⟩ := hB
    rw [ht] at hPc
    have hPc : va_P D cls (wC ad dA w P ((m_F_put g ((((xs ((nI i) + (1 : Int32)).toNatClampNeg).toInt64) <<< ((32 : Int32).toInt64 &&& 63)) ||| (((xs ((nI i) + (2 : Int32)).toNatClampNeg).toInt64) &&& (4294967295 : Int64)))).2) ss M) H' := hPc
    have hPm := keep hPm hk (disM hdis)
    clear hz hk hvm ht
    generalize H' = H at hPc hPm hS ⊢
    refine lv_aload_n hx hb d_L_law_503 rfl (lv_at hl 1 rfl) ?_
    refine lv_aload_n hx hb d_L_law_504 rfl (lv_at hl 3 rfl) ?_
    refine lv_iload_n hx hb d_L_law_505 rfl (lv_at hl 0 rfl) ?_
    refine lv_iconst (v := 1) hx hb d_L_law_506 (by decide) ?_
    refine lv_iadd hx hb d_L_law_507 ?_
    refine va_sld hx hb hX hbl hbA hS (sc_in (k := 1) hi7 (by omega) (by decide)) d_L_law_508 ?_
    refine lv_i2l hx hb d_L_law_509 rfl ?_
    refine lv_bipush (v := 32) hx hb d_L_law_510 (by decide) ?_
    refine lv_lshl hx hb d_L_law_512 rfl ?_
    refine lv_aload_n hx hb d_L_law_513 rfl (lv_at hl 3 rfl) ?_
    refine lv_iload_n hx hb d_L_law_514 rfl (lv_at hl 0 rfl) ?_
    refine lv_iconst (v := 2) hx hb d_L_law_515 (by decide) ?_
    refine lv_iadd hx hb d_L_law_516 ?_
    refine va_sld hx hb hX hbl hbA hS (sc_in (k := 2) hi7 (by omega) (by decide)) d_L_law_517 ?_
    refine lv_i2l hx hb d_L_law_518 rfl ?_
    refine lv_ldc2 (v := 4294967295) hx hb hown (hts _ wd_707) d_L_law_519 ?_
    refine lv_land hx hb d_L_law_522 ?_
    refine lv_lor hx hb d_L_law_523 ?_
    refine va_calli (va_runV (As := [.long ((((xs ((nI i) + (1 : Int32)).toNatClampNeg).toInt64) <<< ((32 : Int32).toInt64 &&& 63)) ||| (((xs ((nI i) + (2 : Int32)).toNatClampNeg).toInt64) &&& (4294967295 : Int64)))]) (rest := [.int ((m_F_put g ((((xs ((nI i) + (1 : Int32)).toNatClampNeg).toInt64) <<< ((32 : Int32).toInt64 &&& 63)) ||| (((xs ((nI i) + (2 : Int32)).toNatClampNeg).toInt64) &&& (4294967295 : Int64)))).1)]) ⟨hx, hb, hml, hown, hts⟩ (c_M_put l D dA ae (A15 ae) hAd2 ar2 w Q g mk Y ((((xs ((nI i) + (1 : Int32)).toNatClampNeg).toInt64) <<< ((32 : Int32).toInt64 &&& 63)) ||| (((xs ((nI i) + (2 : Int32)).toNatClampNeg).toInt64) &&& (4294967295 : Int64))) hg) (cwV 1 hts (g_V wd_621 wd_622 wd_623 wd_35 wd_624) rfl rfl rfl (by decide +kernel) ⟨Nat.le_of_ble_eq_true rfl, Nat.le_of_ble_eq_true rfl⟩) ⟨MG_fb, (va_recv (ci := 9) (q := (R_M, F_M, 20)) (q0 := 0) hK hPm rfl rfl), fun U hU hW => ⟨rfl, MG_at hPm hK hU hW⟩⟩ rfl rfl hl.1 rfl (lv_room (Nat.le_of_ble_eq_true rfl)) d_L_law_524 ⟨Nat.le_of_ble_eq_true rfl, Nat.le_of_ble_eq_true rfl⟩) hS (fun q _ h => hA2 q h) (fun q h => hA2 q h) (fun r20 u16 t H' locs ht hvm hu hB hz hk hS => ?_)
    obtain ⟨rfl, rfl⟩ := hu
    obtain ⟨hPm, -⟩ := hB
    rw [ht] at hPm
    have hPm : va_P D cls (wM ae dA ar2 w Q ((m_M_put g ((((xs ((nI i) + (1 : Int32)).toNatClampNeg).toInt64) <<< ((32 : Int32).toInt64 &&& 63)) ||| (((xs ((nI i) + (2 : Int32)).toNatClampNeg).toInt64) &&& (4294967295 : Int64)))).2) mk Y) H' := hPm
    have hPc := keep hPc hk (disC hdis)
    clear hz hk hvm ht
    generalize H' = H at hPc hPm hS ⊢
    have he : (m_F_put g ((((xs ((nI i) + (1 : Int32)).toNatClampNeg).toInt64) <<< ((32 : Int32).toInt64 &&& 63)) ||| (((xs ((nI i) + (2 : Int32)).toNatClampNeg).toInt64) &&& (4294967295 : Int64)))).1 = (m_M_put g ((((xs ((nI i) + (1 : Int32)).toNatClampNeg).toInt64) <<< ((32 : Int32).toInt64 &&& 63)) ||| (((xs ((nI i) + (2 : Int32)).toNatClampNeg).toInt64) &&& (4294967295 : Int64)))).1 := by rw [put_eq hg]
    have hg2 := put_inv hg ((((xs ((nI i) + (1 : Int32)).toNatClampNeg).toInt64) <<< ((32 : Int32).toInt64 &&& 63)) ||| (((xs ((nI i) + (2 : Int32)).toNatClampNeg).toInt64) &&& (4294967295 : Int64)))
    rw [← put_eq hg] at hPm hg2
    refine lv_icmp_eq (tgt := 632) hx hb d_L_law_527 (by decide) (fun _ => ?_) (fun h => absurd he h)
    refine lv_iinc (v := nI i + 7) hx hb d_L_law_632 hl (k := 0) rfl rfl (by decide) rfl (fun ls hl => ?_)
    have hl : lv_has ls 4 [(3, .int (nI (i + 7))), (2, .ref (ae 0)), (1, .ref (ad 0)), (0, .ref b)] := by rw [← nI_7]; exact hl
    refine lv_goto (tgt := 28) hx hb d_L_law_635 (by decide) ?_
    exact ih1 (i + 7) _ _ _ ⟨by omega, by omega, lv_sub hl [0, 1, 2, 3] rfl, hS, w, P, (m_F_put g ((((xs ((nI i) + (1 : Int32)).toNatClampNeg).toInt64) <<< ((32 : Int32).toInt64 &&& 63)) ||| (((xs ((nI i) + (2 : Int32)).toNatClampNeg).toInt64) &&& (4294967295 : Int64)))).2, ss, M, Q, mk, Y, hPc, hPm, hRP, hI, hg2, hbm, hRM⟩
  by_cases h12 : (xs (nI i).toNatClampNeg) &&& (15 : Int32) = (9 : Int32)
  · refine lv_tableIn (tgt := 532) (off := 489) hx hb d_L_law_43 (by rw [h12]; decide) (by rw [h12]; decide) (by rw [h12] <;> rfl) (by decide) ?_
    refine lv_aload_n hx hb d_L_law_532 rfl (lv_at hl 2 rfl) ?_
    refine lv_aload_n hx hb d_L_law_533 rfl (lv_at hl 3 rfl) ?_
    refine lv_iload_n hx hb d_L_law_534 rfl (lv_at hl 0 rfl) ?_
    refine lv_iconst (v := 1) hx hb d_L_law_535 (by decide) ?_
    refine lv_iadd hx hb d_L_law_536 ?_
    refine va_sld hx hb hX hbl hbA hS (sc_in (k := 1) hi7 (by omega) (by decide)) d_L_law_537 ?_
    refine va_calli (va_runV (As := [.int (xs ((nI i) + (1 : Int32)).toNatClampNeg)]) (rest := []) ⟨hx, hb, hml, hown, hts⟩ (c_F_cut l D dA ad (A49 ad) hAd1 w P g ss M (xs ((nI i) + (1 : Int32)).toNatClampNeg)) (cwV 1 hts (g_V wd_344 wd_345 wd_346 wd_26 wd_347) rfl rfl rfl (by decide +kernel) ⟨Nat.le_of_ble_eq_true rfl, Nat.le_of_ble_eq_true rfl⟩) ⟨CG_fb, (va_recv (ci := 8) (q := (R_F, F_F, 5)) (q0 := 0) hK hPc rfl rfl), fun U hU hW => ⟨rfl, CG_at hPc hK hN hU hW⟩⟩ rfl rfl hl.1 rfl (lv_room (Nat.le_of_ble_eq_true rfl)) d_L_law_538 ⟨Nat.le_of_ble_eq_true rfl, Nat.le_of_ble_eq_true rfl⟩) hS (fun q _ h => hA1 q h) (fun q h => hA1 q h) (fun r21 u17 t H' locs ht hvm hu hB hz hk hS => ?_)
    obtain ⟨rfl, rfl⟩ := hu
    obtain ⟨hPc, -⟩ := hB
    rw [ht] at hPc
    have hPc : va_P D cls (wC ad dA w P ((m_F_cut g (xs ((nI i) + (1 : Int32)).toNatClampNeg)).2) ss M) H' := hPc
    have hPm := keep hPm hk (disM hdis)
    clear hz hk hvm ht
    generalize H' = H at hPc hPm hS ⊢
    refine lv_aload_n hx hb d_L_law_541 rfl (lv_at hl 1 rfl) ?_
    refine lv_aload_n hx hb d_L_law_542 rfl (lv_at hl 3 rfl) ?_
    refine lv_iload_n hx hb d_L_law_543 rfl (lv_at hl 0 rfl) ?_
    refine lv_iconst (v := 1) hx hb d_L_law_544 (by decide) ?_
    refine lv_iadd hx hb d_L_law_545 ?_
    refine va_sld hx hb hX hbl hbA hS (sc_in (k := 1) hi7 (by omega) (by decide)) d_L_law_546 ?_
    refine va_calli (va_runV (As := [.int (xs ((nI i) + (1 : Int32)).toNatClampNeg)]) (rest := [.int ((m_F_cut g (xs ((nI i) + (1 : Int32)).toNatClampNeg)).1)]) ⟨hx, hb, hml, hown, hts⟩ (c_M_cut l D dA ae (A15 ae) hAd2 ar2 w Q g mk Y (xs ((nI i) + (1 : Int32)).toNatClampNeg)) (cwV 1 hts (g_V wd_625 wd_626 wd_627 wd_35 wd_628) rfl rfl rfl (by decide +kernel) ⟨Nat.le_of_ble_eq_true rfl, Nat.le_of_ble_eq_true rfl⟩) ⟨MG_fb, (va_recv (ci := 9) (q := (R_M, F_M, 20)) (q0 := 0) hK hPm rfl rfl), fun U hU hW => ⟨rfl, MG_at hPm hK hU hW⟩⟩ rfl rfl hl.1 rfl (lv_room (Nat.le_of_ble_eq_true rfl)) d_L_law_547 ⟨Nat.le_of_ble_eq_true rfl, Nat.le_of_ble_eq_true rfl⟩) hS (fun q _ h => hA2 q h) (fun q h => hA2 q h) (fun r22 u18 t H' locs ht hvm hu hB hz hk hS => ?_)
    obtain ⟨rfl, rfl⟩ := hu
    obtain ⟨hPm, -⟩ := hB
    rw [ht] at hPm
    have hPm : va_P D cls (wM ae dA ar2 w Q ((m_M_cut g (xs ((nI i) + (1 : Int32)).toNatClampNeg)).2) mk Y) H' := hPm
    have hPc := keep hPc hk (disC hdis)
    clear hz hk hvm ht
    generalize H' = H at hPc hPm hS ⊢
    have he : (m_F_cut g (xs ((nI i) + (1 : Int32)).toNatClampNeg)).1 = (m_M_cut g (xs ((nI i) + (1 : Int32)).toNatClampNeg)).1 := by rw [cut_eq]
    have hg2 := cut_inv hg (xs ((nI i) + (1 : Int32)).toNatClampNeg)
    rw [← cut_eq] at hPm hg2
    refine lv_icmp_eq (tgt := 632) hx hb d_L_law_550 (by decide) (fun _ => ?_) (fun h => absurd he h)
    refine lv_iinc (v := nI i + 7) hx hb d_L_law_632 hl (k := 0) rfl rfl (by decide) rfl (fun ls hl => ?_)
    have hl : lv_has ls 4 [(3, .int (nI (i + 7))), (2, .ref (ae 0)), (1, .ref (ad 0)), (0, .ref b)] := by rw [← nI_7]; exact hl
    refine lv_goto (tgt := 28) hx hb d_L_law_635 (by decide) ?_
    exact ih1 (i + 7) _ _ _ ⟨by omega, by omega, lv_sub hl [0, 1, 2, 3] rfl, hS, w, P, (m_F_cut g (xs ((nI i) + (1 : Int32)).toNatClampNeg)).2, ss, M, Q, mk, Y, hPc, hPm, hRP, hI, hg2, hbm, hRM⟩
  by_cases h13 : (xs (nI i).toNatClampNeg) &&& (15 : Int32) = (10 : Int32)
  · refine lv_tableIn (tgt := 555) (off := 512) hx hb d_L_law_43 (by rw [h13]; decide) (by rw [h13]; decide) (by rw [h13] <;> rfl) (by decide) ?_
    refine lv_aload_n hx hb d_L_law_555 rfl (lv_at hl 2 rfl) ?_
    refine vp_callSi (va_Run.run (va_runV (As := []) (rest := []) ⟨hx, hb, hml, hown, hts⟩ (c_F_length l D dA ad w P g ss M) (cwV 0 hts (g_V wd_348 wd_349 wd_350 wd_26 wd_351) rfl rfl rfl (by decide +kernel) ⟨Nat.le_of_ble_eq_true rfl, Nat.le_of_ble_eq_true rfl⟩) ⟨CG_fb, (va_recv (ci := 8) (q := (R_F, F_F, 5)) (q0 := 0) hK hPc rfl rfl), fun U hU hW => ⟨rfl, CG_at hPc hK hN hU hW⟩⟩ rfl rfl hl.1 rfl (lv_room (Nat.le_of_ble_eq_true rfl)) d_L_law_556 ⟨Nat.le_of_ble_eq_true rfl, Nat.le_of_ble_eq_true rfl⟩)) (fun r23 e5 => ?_)
    subst e5
    refine lv_aload_n hx hb d_L_law_559 rfl (lv_at hl 1 rfl) ?_
    refine vp_callSi (va_Run.run (va_runV (As := []) (rest := [.int (m_F_length g)]) ⟨hx, hb, hml, hown, hts⟩ (c_M_length l D dA ae ar2 w Q g mk Y) (cwV 0 hts (g_V wd_629 wd_630 wd_631 wd_35 wd_632) rfl rfl rfl (by decide +kernel) ⟨Nat.le_of_ble_eq_true rfl, Nat.le_of_ble_eq_true rfl⟩) ⟨MG_fb, (va_recv (ci := 9) (q := (R_M, F_M, 20)) (q0 := 0) hK hPm rfl rfl), fun U hU hW => ⟨rfl, MG_at hPm hK hU hW⟩⟩ rfl rfl hl.1 rfl (lv_room (Nat.le_of_ble_eq_true rfl)) d_L_law_560 ⟨Nat.le_of_ble_eq_true rfl, Nat.le_of_ble_eq_true rfl⟩)) (fun r24 e6 => ?_)
    subst e6
    have he : m_F_length g = m_M_length g := rfl
    refine lv_icmp_eq (tgt := 632) hx hb d_L_law_563 (by decide) (fun _ => ?_) (fun h => absurd he h)
    refine lv_iinc (v := nI i + 7) hx hb d_L_law_632 hl (k := 0) rfl rfl (by decide) rfl (fun ls hl => ?_)
    have hl : lv_has ls 4 [(3, .int (nI (i + 7))), (2, .ref (ae 0)), (1, .ref (ad 0)), (0, .ref b)] := by rw [← nI_7]; exact hl
    refine lv_goto (tgt := 28) hx hb d_L_law_635 (by decide) ?_
    exact ih1 (i + 7) _ _ _ ⟨by omega, by omega, lv_sub hl [0, 1, 2, 3] rfl, hS, w, P, g, ss, M, Q, mk, Y, hPc, hPm, hRP, hI, hg, hbm, hRM⟩
  by_cases h14 : (xs (nI i).toNatClampNeg) &&& (15 : Int32) = (11 : Int32)
  · refine lv_tableIn (tgt := 568) (off := 525) hx hb d_L_law_43 (by rw [h14]; decide) (by rw [h14]; decide) (by rw [h14] <;> rfl) (by decide) ?_
    refine lv_aload_n hx hb d_L_law_568 rfl (lv_at hl 2 rfl) ?_
    refine va_calli (va_runV (As := []) (rest := []) ⟨hx, hb, hml, hown, hts⟩ (c_F_check l D dA ad (A49 ad) hAd1 w P g ss M hg) (cwV 0 hts (g_V wd_352 wd_353 wd_354 wd_26 wd_355) rfl rfl rfl (by decide +kernel) ⟨Nat.le_of_ble_eq_true rfl, Nat.le_of_ble_eq_true rfl⟩) ⟨CG_fb, (va_recv (ci := 8) (q := (R_F, F_F, 5)) (q0 := 0) hK hPc rfl rfl), fun U hU hW => ⟨rfl, CG_at hPc hK hN hU hW⟩⟩ rfl rfl hl.1 rfl (lv_room (Nat.le_of_ble_eq_true rfl)) d_L_law_569 ⟨Nat.le_of_ble_eq_true rfl, Nat.le_of_ble_eq_true rfl⟩) hS (fun q _ h => hA1 q h) (fun q h => hA1 q h) (fun r25 u19 t H' locs ht hvm hu hB hz hk hS => ?_)
    obtain ⟨rfl, rfl⟩ := hu
    obtain ⟨hPc, -⟩ := hB
    rw [ht] at hPc
    have hPc : va_P D cls (wC ad dA w P g ((m_F_check g ss).2) M) H' := hPc
    have hPm := keep hPm hk (disM hdis)
    clear hz hk hvm ht
    generalize H' = H at hPc hPm hS ⊢
    refine lv_aload_n hx hb d_L_law_572 rfl (lv_at hl 1 rfl) ?_
    refine va_calli (va_runV (As := []) (rest := [.int ((m_F_check g ss).1)]) ⟨hx, hb, hml, hown, hts⟩ (c_M_check l D dA ae (A15 ae) hAd2 ar2 w Q g mk Y hg hbm) (cwV 0 hts (g_V wd_633 wd_634 wd_635 wd_35 wd_636) rfl rfl rfl (by decide +kernel) ⟨Nat.le_of_ble_eq_true rfl, Nat.le_of_ble_eq_true rfl⟩) ⟨MG_fb, (va_recv (ci := 9) (q := (R_M, F_M, 20)) (q0 := 0) hK hPm rfl rfl), fun U hU hW => ⟨rfl, MG_at hPm hK hU hW⟩⟩ rfl rfl hl.1 rfl (lv_room (Nat.le_of_ble_eq_true rfl)) d_L_law_573 ⟨Nat.le_of_ble_eq_true rfl, Nat.le_of_ble_eq_true rfl⟩) hS (fun q _ h => hA2 q h) (fun q h => hA2 q h) (fun r26 u20 t H' locs ht hvm hu hB hz hk hS => ?_)
    obtain ⟨rfl, rfl⟩ := hu
    obtain ⟨hPm, -⟩ := hB
    rw [ht] at hPm
    have hPm : va_P D cls (wM ae dA ar2 w Q g ((m_M_check g mk).2) Y) H' := hPm
    have hPc := keep hPc hk (disC hdis)
    clear hz hk hvm ht
    generalize H' = H at hPc hPm hS ⊢
    have he : (m_F_check g ss).1 = (m_M_check g mk).1 := check_eq hg ss mk
    refine lv_icmp_eq (tgt := 632) hx hb d_L_law_576 (by decide) (fun _ => ?_) (fun h => absurd he h)
    refine lv_iinc (v := nI i + 7) hx hb d_L_law_632 hl (k := 0) rfl rfl (by decide) rfl (fun ls hl => ?_)
    have hl : lv_has ls 4 [(3, .int (nI (i + 7))), (2, .ref (ae 0)), (1, .ref (ad 0)), (0, .ref b)] := by rw [← nI_7]; exact hl
    refine lv_goto (tgt := 28) hx hb d_L_law_635 (by decide) ?_
    exact ih1 (i + 7) _ _ _ ⟨by omega, by omega, lv_sub hl [0, 1, 2, 3] rfl, hS, w, P, g, (m_F_check g ss).2, M, Q, (m_M_check g mk).2, Y, hPc, hPm, hRP, hI, hg, (check_b hbm), hRM⟩
  by_cases h15 : (xs (nI i).toNatClampNeg) &&& (15 : Int32) = (12 : Int32)
  · refine lv_tableIn (tgt := 581) (off := 538) hx hb d_L_law_43 (by rw [h15]; decide) (by rw [h15]; decide) (by rw [h15] <;> rfl) (by decide) ?_
    refine lv_aload_n hx hb d_L_law_581 rfl (lv_at hl 2 rfl) ?_
    refine va_calll (va_runV (As := []) (rest := []) ⟨hx, hb, hml, hown, hts⟩ (c_F_run l D dA ad (A49 ad) hAd1 w P g ss M hg) (cwV 0 hts (g_V wd_419 wd_420 wd_421 wd_26 wd_422) rfl rfl rfl (by decide +kernel) ⟨Nat.le_of_ble_eq_true rfl, Nat.le_of_ble_eq_true rfl⟩) ⟨CG_fb, (va_recv (ci := 8) (q := (R_F, F_F, 5)) (q0 := 0) hK hPc rfl rfl), fun U hU hW => ⟨rfl, CG_at hPc hK hN hU hW⟩⟩ rfl rfl hl.1 rfl (lv_room (Nat.le_of_ble_eq_true rfl)) d_L_law_582 ⟨Nat.le_of_ble_eq_true rfl, Nat.le_of_ble_eq_true rfl⟩) hS (fun q _ h => hA1 q h) (fun q h => hA1 q h) (fun r27 u21 t H' locs ht hvm hu hB hz hk hS => ?_)
    obtain ⟨rfl, rfl⟩ := hu
    obtain ⟨hPc, -⟩ := hB
    rw [ht] at hPc
    have hPc : va_P D cls (wC ad dA w P g ((m_F_run w g ss M).2.1) ((m_F_run w g ss M).2.2)) H' := hPc
    have hPm := keep hPm hk (disM hdis)
    clear hz hk hvm ht
    generalize H' = H at hPc hPm hS ⊢
    refine lv_aload_n hx hb d_L_law_585 rfl (lv_at hl 1 rfl) ?_
    refine va_calll (va_runV (As := []) (rest := [.long ((m_F_run w g ss M).1)]) ⟨hx, hb, hml, hown, hts⟩ (c_M_run l D dA ae (A15 ae) hAd2 ar2 w Q g mk Y hg hbm) (cwV 0 hts (g_V wd_679 wd_680 wd_681 wd_35 wd_682) rfl rfl rfl (by decide +kernel) ⟨Nat.le_of_ble_eq_true rfl, Nat.le_of_ble_eq_true rfl⟩) ⟨MG_fb, (va_recv (ci := 9) (q := (R_M, F_M, 20)) (q0 := 0) hK hPm rfl rfl), fun U hU hW => ⟨rfl, MG_at hPm hK hU hW⟩⟩ rfl rfl hl.1 rfl (lv_room (Nat.le_of_ble_eq_true rfl)) d_L_law_586 ⟨Nat.le_of_ble_eq_true rfl, Nat.le_of_ble_eq_true rfl⟩) hS (fun q _ h => hA2 q h) (fun q h => hA2 q h) (fun r28 u22 t H' locs ht hvm hu hB hz hk hS => ?_)
    obtain ⟨rfl, rfl⟩ := hu
    obtain ⟨hPm, -⟩ := hB
    rw [ht] at hPm
    have hPm : va_P D cls (wM ae dA ar2 w Q g ((m_M_run w g mk Y).2.1) ((m_M_run w g mk Y).2.2)) H' := hPm
    have hPc := keep hPc hk (disC hdis)
    clear hz hk hvm ht
    generalize H' = H at hPc hPm hS ⊢
    refine W.lcmp hx hb d_L_law_589 ?_
    obtain ⟨he, hRM2⟩ := run_eq (w := w) (ss := ss) (mk := mk) hg hRM
    refine lv_if_eq (tgt := 632) hx hb d_L_law_590 (by decide) (fun _ => ?_) (fun h => absurd ((cmp_eq _ _).mpr he) h)
    refine lv_iinc (v := nI i + 7) hx hb d_L_law_632 hl (k := 0) rfl rfl (by decide) rfl (fun ls hl => ?_)
    have hl : lv_has ls 4 [(3, .int (nI (i + 7))), (2, .ref (ae 0)), (1, .ref (ad 0)), (0, .ref b)] := by rw [← nI_7]; exact hl
    refine lv_goto (tgt := 28) hx hb d_L_law_635 (by decide) ?_
    exact ih1 (i + 7) _ _ _ ⟨by omega, by omega, lv_sub hl [0, 1, 2, 3] rfl, hS, w, P, g, (m_F_run w g ss M).2.1, (m_F_run w g ss M).2.2, Q, (m_M_run w g mk Y).2.1, (m_M_run w g mk Y).2.2, hPc, hPm, hRP, hI, hg, (run_b hbm), hRM2⟩
  by_cases h16 : (xs (nI i).toNatClampNeg) &&& (15 : Int32) = (13 : Int32)
  · refine lv_tableIn (tgt := 595) (off := 552) hx hb d_L_law_43 (by rw [h16]; decide) (by rw [h16]; decide) (by rw [h16] <;> rfl) (by decide) ?_
    refine lv_aload_n hx hb d_L_law_595 rfl (lv_at hl 2 rfl) ?_
    refine vp_callSi (va_Run.run (va_runV (As := []) (rest := []) ⟨hx, hb, hml, hown, hts⟩ (c_F_steps l D dA ad w P g ss M) (cwV 0 hts (g_V wd_478 wd_479 wd_480 wd_26 wd_481) rfl rfl rfl (by decide +kernel) ⟨Nat.le_of_ble_eq_true rfl, Nat.le_of_ble_eq_true rfl⟩) ⟨CG_fb, (va_recv (ci := 8) (q := (R_F, F_F, 5)) (q0 := 0) hK hPc rfl rfl), fun U hU hW => ⟨rfl, CG_at hPc hK hN hU hW⟩⟩ rfl rfl hl.1 rfl (lv_room (Nat.le_of_ble_eq_true rfl)) d_L_law_596 ⟨Nat.le_of_ble_eq_true rfl, Nat.le_of_ble_eq_true rfl⟩)) (fun r29 e7 => ?_)
    subst e7
    refine lv_aload_n hx hb d_L_law_599 rfl (lv_at hl 1 rfl) ?_
    refine vp_callSi (va_Run.run (va_runV (As := []) (rest := [.int (m_F_steps M)]) ⟨hx, hb, hml, hown, hts⟩ (c_M_steps l D dA ae ar2 w Q g mk Y) (cwV 0 hts (g_V wd_699 wd_700 wd_701 wd_35 wd_702) rfl rfl rfl (by decide +kernel) ⟨Nat.le_of_ble_eq_true rfl, Nat.le_of_ble_eq_true rfl⟩) ⟨MG_fb, (va_recv (ci := 9) (q := (R_M, F_M, 20)) (q0 := 0) hK hPm rfl rfl), fun U hU hW => ⟨rfl, MG_at hPm hK hU hW⟩⟩ rfl rfl hl.1 rfl (lv_room (Nat.le_of_ble_eq_true rfl)) d_L_law_600 ⟨Nat.le_of_ble_eq_true rfl, Nat.le_of_ble_eq_true rfl⟩)) (fun r30 e8 => ?_)
    subst e8
    have he : m_F_steps M = m_M_steps Y := hRM.1
    refine lv_icmp_eq (tgt := 632) hx hb d_L_law_603 (by decide) (fun _ => ?_) (fun h => absurd he h)
    refine lv_iinc (v := nI i + 7) hx hb d_L_law_632 hl (k := 0) rfl rfl (by decide) rfl (fun ls hl => ?_)
    have hl : lv_has ls 4 [(3, .int (nI (i + 7))), (2, .ref (ae 0)), (1, .ref (ad 0)), (0, .ref b)] := by rw [← nI_7]; exact hl
    refine lv_goto (tgt := 28) hx hb d_L_law_635 (by decide) ?_
    exact ih1 (i + 7) _ _ _ ⟨by omega, by omega, lv_sub hl [0, 1, 2, 3] rfl, hS, w, P, g, ss, M, Q, mk, Y, hPc, hPm, hRP, hI, hg, hbm, hRM⟩
  by_cases h17 : (xs (nI i).toNatClampNeg) &&& (15 : Int32) = (14 : Int32)
  · refine lv_tableIn (tgt := 608) (off := 565) hx hb d_L_law_43 (by rw [h17]; decide) (by rw [h17]; decide) (by rw [h17] <;> rfl) (by decide) ?_
    refine lv_aload_n hx hb d_L_law_608 rfl (lv_at hl 2 rfl) ?_
    refine lv_aload_n hx hb d_L_law_609 rfl (lv_at hl 3 rfl) ?_
    refine lv_iload_n hx hb d_L_law_610 rfl (lv_at hl 0 rfl) ?_
    refine lv_iconst (v := 1) hx hb d_L_law_611 (by decide) ?_
    refine lv_iadd hx hb d_L_law_612 ?_
    refine va_sld hx hb hX hbl hbA hS (sc_in (k := 1) hi7 (by omega) (by decide)) d_L_law_613 ?_
    refine vp_callSl (va_Run.run (va_runV (As := [.int (xs ((nI i) + (1 : Int32)).toNatClampNeg)]) (rest := []) ⟨hx, hb, hml, hown, hts⟩ (c_F_scratch l D dA ad w P g ss M (xs ((nI i) + (1 : Int32)).toNatClampNeg)) (cwV 1 hts (g_V wd_482 wd_483 wd_484 wd_26 wd_485) rfl rfl rfl (by decide +kernel) ⟨Nat.le_of_ble_eq_true rfl, Nat.le_of_ble_eq_true rfl⟩) ⟨CG_fb, (va_recv (ci := 8) (q := (R_F, F_F, 5)) (q0 := 0) hK hPc rfl rfl), fun U hU hW => ⟨rfl, CG_at hPc hK hN hU hW⟩⟩ rfl rfl hl.1 rfl (lv_room (Nat.le_of_ble_eq_true rfl)) d_L_law_614 ⟨Nat.le_of_ble_eq_true rfl, Nat.le_of_ble_eq_true rfl⟩)) (fun r31 e9 => ?_)
    subst e9
    refine lv_aload_n hx hb d_L_law_617 rfl (lv_at hl 1 rfl) ?_
    refine lv_aload_n hx hb d_L_law_618 rfl (lv_at hl 3 rfl) ?_
    refine lv_iload_n hx hb d_L_law_619 rfl (lv_at hl 0 rfl) ?_
    refine lv_iconst (v := 1) hx hb d_L_law_620 (by decide) ?_
    refine lv_iadd hx hb d_L_law_621 ?_
    refine va_sld hx hb hX hbl hbA hS (sc_in (k := 1) hi7 (by omega) (by decide)) d_L_law_622 ?_
    refine vp_callSl (va_Run.run (va_runV (As := [.int (xs ((nI i) + (1 : Int32)).toNatClampNeg)]) (rest := [.long (m_F_scratch M (xs ((nI i) + (1 : Int32)).toNatClampNeg))]) ⟨hx, hb, hml, hown, hts⟩ (c_M_scratch l D dA ae ar2 w Q g mk Y (xs ((nI i) + (1 : Int32)).toNatClampNeg)) (cwV 1 hts (g_V wd_703 wd_704 wd_705 wd_35 wd_706) rfl rfl rfl (by decide +kernel) ⟨Nat.le_of_ble_eq_true rfl, Nat.le_of_ble_eq_true rfl⟩) ⟨MG_fb, (va_recv (ci := 9) (q := (R_M, F_M, 20)) (q0 := 0) hK hPm rfl rfl), fun U hU hW => ⟨rfl, MG_at hPm hK hU hW⟩⟩ rfl rfl hl.1 rfl (lv_room (Nat.le_of_ble_eq_true rfl)) d_L_law_623 ⟨Nat.le_of_ble_eq_true rfl, Nat.le_of_ble_eq_true rfl⟩)) (fun r32 e10 => ?_)
    subst e10
    refine W.lcmp hx hb d_L_law_626 ?_
    have he := rel_scratch hRM (xs ((nI i) + (1 : Int32)).toNatClampNeg)
    refine lv_if_eq (tgt := 632) hx hb d_L_law_627 (by decide) (fun _ => ?_) (fun h => absurd ((cmp_eq _ _).mpr he) h)
    refine lv_iinc (v := nI i + 7) hx hb d_L_law_632 hl (k := 0) rfl rfl (by decide) rfl (fun ls hl => ?_)
    have hl : lv_has ls 4 [(3, .int (nI (i + 7))), (2, .ref (ae 0)), (1, .ref (ad 0)), (0, .ref b)] := by rw [← nI_7]; exact hl
    refine lv_goto (tgt := 28) hx hb d_L_law_635 (by decide) ?_
    exact ih1 (i + 7) _ _ _ ⟨by omega, by omega, lv_sub hl [0, 1, 2, 3] rfl, hS, w, P, g, ss, M, Q, mk, Y, hPc, hPm, hRP, hI, hg, hbm, hRM⟩
  refine lv_tableOut (tgt := 632) hx hb d_L_law_43 (by have z0 := lv_neT (a := 0) h2 (by decide); have z1 := lv_neT (a := 1) h3 (by decide); have z2 := lv_neT (a := 2) h4 (by decide); have z3 := lv_neT (a := 3) h5 (by decide); have z4 := lv_neT (a := 4) h6 (by decide); have z5 := lv_neT (a := 5) h8 (by decide); have z6 := lv_neT (a := 6) h9 (by decide); have z7 := lv_neT (a := 7) h10 (by decide); have z8 := lv_neT (a := 8) h11 (by decide); have z9 := lv_neT (a := 9) h12 (by decide); have z10 := lv_neT (a := 10) h13 (by decide); have z11 := lv_neT (a := 11) h14 (by decide); have z12 := lv_neT (a := 12) h15 (by decide); have z13 := lv_neT (a := 13) h16 (by decide); have z14 := lv_neT (a := 14) h17 (by decide); omega) (by decide) ?_
  refine lv_iinc (v := nI i + 7) hx hb d_L_law_632 hl (k := 0) rfl rfl (by decide) rfl (fun ls hl => ?_)
  have hl : lv_has ls 4 [(3, .int (nI (i + 7))), (2, .ref (ae 0)), (1, .ref (ad 0)), (0, .ref b)] := by rw [← nI_7]; exact hl
  refine lv_goto (tgt := 28) hx hb d_L_law_635 (by decide) ?_
  exact ih1 (i + 7) _ _ _ ⟨by omega, by omega, lv_sub hl [0, 1, 2, 3] rfl, hS, w, P, g, ss, M, Q, mk, Y, hPc, hPm, hRP, hI, hg, hbm, hRM⟩
