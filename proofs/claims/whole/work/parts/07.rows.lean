/-! rows by program out of the tables: classes, fields, calls -/
theorem cr_0 : CRow 0 RX0 TX0 11 tyX0 := ⟨rfl, by decide, rfl, lg_sub [200, 202, 204, 206, 208, 210, 212, 214, 216, 218, 220] (by decide +kernel) (by decide +kernel), tyX0_ok, nmX0, by decide +kernel⟩
theorem cown_0 : ∀ Cn T N ty0, CRow 0 Cn T N ty0 → RX0 = Cn := fun _ _ _ _ h => congrArg Prod.fst (Option.some.inj ((show vwCl[0]? = some (RX0, TX0, 11) from rfl).symm.trans h.1))
theorem cr_1 : CRow 1 RX1 TX1 3 tyX1 := ⟨rfl, by decide, rfl, lg_sub [309, 311, 313] (by decide +kernel) (by decide +kernel), tyX1_ok, nmX1, by decide +kernel⟩
theorem cown_1 : ∀ Cn T N ty0, CRow 1 Cn T N ty0 → RX1 = Cn := fun _ _ _ _ h => congrArg Prod.fst (Option.some.inj ((show vwCl[1]? = some (RX1, TX1, 3) from rfl).symm.trans h.1))
theorem cr_2 : CRow 2 RX2 TX2 3 tyX2 := ⟨rfl, by decide, rfl, lg_sub [292, 294, 296] (by decide +kernel) (by decide +kernel), tyX2_ok, nmX2, by decide +kernel⟩
theorem cown_2 : ∀ Cn T N ty0, CRow 2 Cn T N ty0 → RX2 = Cn := fun _ _ _ _ h => congrArg Prod.fst (Option.some.inj ((show vwCl[2]? = some (RX2, TX2, 3) from rfl).symm.trans h.1))
theorem cr_3 : CRow 3 RX3 TX3 10 tyX3 := ⟨rfl, by decide, rfl, lg_sub [145, 147, 149, 151, 153, 155, 157, 159, 161, 163] (by decide +kernel) (by decide +kernel), tyX3_ok, nmX3, by decide +kernel⟩
theorem cown_3 : ∀ Cn T N ty0, CRow 3 Cn T N ty0 → RX3 = Cn := fun _ _ _ _ h => congrArg Prod.fst (Option.some.inj ((show vwCl[3]? = some (RX3, TX3, 10) from rfl).symm.trans h.1))
theorem cr_4 : CRow 4 RX4 TX4 14 tyX4 := ⟨rfl, by decide, rfl, lg_sub [250, 252, 254, 256, 258, 260, 262, 264, 266, 268, 270, 272, 274, 276] (by decide +kernel) (by decide +kernel), tyX4_ok, nmX4, by decide +kernel⟩
theorem cown_4 : ∀ Cn T N ty0, CRow 4 Cn T N ty0 → RX4 = Cn := fun _ _ _ _ h => congrArg Prod.fst (Option.some.inj ((show vwCl[4]? = some (RX4, TX4, 14) from rfl).symm.trans h.1))
theorem cr_5 : CRow 5 RX5 TX5 7 tyX5 := ⟨rfl, by decide, rfl, lg_sub [84, 86, 88, 90, 92, 94, 96] (by decide +kernel) (by decide +kernel), tyX5_ok, nmX5, by decide +kernel⟩
theorem cown_5 : ∀ Cn T N ty0, CRow 5 Cn T N ty0 → RX5 = Cn := fun _ _ _ _ h => congrArg Prod.fst (Option.some.inj ((show vwCl[5]? = some (RX5, TX5, 7) from rfl).symm.trans h.1))
theorem cr_6 : CRow 6 RX6 TX6 9 tyX6 := ⟨rfl, by decide, rfl, lg_sub [338, 340, 342, 344, 346, 348, 350, 352, 354] (by decide +kernel) (by decide +kernel), tyX6_ok, nmX6, by decide +kernel⟩
theorem cown_6 : ∀ Cn T N ty0, CRow 6 Cn T N ty0 → RX6 = Cn := fun _ _ _ _ h => congrArg Prod.fst (Option.some.inj ((show vwCl[6]? = some (RX6, TX6, 9) from rfl).symm.trans h.1))
theorem cr_7 : CRow 7 RX7 TX7 27 tyX7 := ⟨rfl, by decide, rfl, lg_sub [726, 728, 730, 732, 734, 736, 738, 740, 742, 744, 746, 748, 750, 752, 754, 756, 758, 760, 762, 764, 766, 768, 770, 772, 774, 776, 778] (by decide +kernel) (by decide +kernel), tyX7_ok, nmX7, by decide +kernel⟩
theorem cown_7 : ∀ Cn T N ty0, CRow 7 Cn T N ty0 → RX7 = Cn := fun _ _ _ _ h => congrArg Prod.fst (Option.some.inj ((show vwCl[7]? = some (RX7, TX7, 27) from rfl).symm.trans h.1))
theorem wn_X5_init : Cond.instanceMethod yX5_init ∈ LG := lg_mem 73 (by decide +kernel) rfl
theorem wi_X5 : Cond.initialized RX5 ∈ LG := lg_mem 51 (by decide +kernel) rfl
theorem wc_X5_init : Cond.code yX5_init cX5_init 1 none ∈ LG := lg_mem 74 (by decide +kernel) rfl
theorem mi_X5_init : MI yX5_init cX5_init 1 0 := ⟨wn_X5_init, wi_X5, wc_X5_init, by decide, by decide, by decide +kernel, rfl⟩
theorem fr_X6_10 : FR RX6 10 6 0 true (.object "SplicedWeb$Text") := ⟨RX6, TX6, 9, tyX6, cr_6, by decide, rfl, rfl, lg_mem 329 (by decide +kernel) rfl, fun _ h => by first | exact h.symm | rfl⟩
theorem wn_X3_init : Cond.instanceMethod yX3_init ∈ LG := lg_mem 103 (by decide +kernel) rfl
theorem wi_X3 : Cond.initialized RX3 ∈ LG := lg_mem 52 (by decide +kernel) rfl
theorem wc_X3_init : Cond.code yX3_init cX3_init 1 none ∈ LG := lg_mem 104 (by decide +kernel) rfl
theorem mi_X3_init : MI yX3_init cX3_init 1 0 := ⟨wn_X3_init, wi_X3, wc_X3_init, by decide, by decide, by decide +kernel, rfl⟩
theorem fr_X6_19 : FR RX6 19 6 1 false (.object "SplicedWeb$Plan") := ⟨RX6, TX6, 9, tyX6, cr_6, by decide, rfl, rfl, lg_mem 330 (by decide +kernel) rfl, fun h => by cases h⟩
theorem fr_X6_23 : FR RX6 23 6 2 false (.object "SplicedWeb$Plan") := ⟨RX6, TX6, 9, tyX6, cr_6, by decide, rfl, rfl, lg_mem 331 (by decide +kernel) rfl, fun h => by cases h⟩
theorem wn_X4_init : Cond.instanceMethod yX4_init ∈ LG := lg_mem 169 (by decide +kernel) rfl
theorem wi_X4 : Cond.initialized RX4 ∈ LG := lg_mem 53 (by decide +kernel) rfl
theorem wc_X4_init : Cond.code yX4_init cX4_init 1 none ∈ LG := lg_mem 170 (by decide +kernel) rfl
theorem mi_X4_init : MI yX4_init cX4_init 1 0 := ⟨wn_X4_init, wi_X4, wc_X4_init, by decide, by decide, by decide +kernel, rfl⟩
theorem fr_X6_29 : FR RX6 29 6 3 true (.object "SplicedWeb$Press") := ⟨RX6, TX6, 9, tyX6, cr_6, by decide, rfl, rfl, lg_mem 332 (by decide +kernel) rfl, fun _ h => by first | exact h.symm | rfl⟩
theorem fr_X6_33 : FR RX6 33 6 4 true (.object "SplicedWeb$Press") := ⟨RX6, TX6, 9, tyX6, cr_6, by decide, rfl, rfl, lg_mem 333 (by decide +kernel) rfl, fun _ h => by first | exact h.symm | rfl⟩
theorem wn_X2_init : Cond.instanceMethod yX2_init ∈ LG := lg_mem 282 (by decide +kernel) rfl
theorem wi_X2 : Cond.initialized RX2 ∈ LG := lg_mem 55 (by decide +kernel) rfl
theorem wc_X2_init : Cond.code yX2_init cX2_init 2 none ∈ LG := lg_mem 283 (by decide +kernel) rfl
theorem mi_X2_init : MI yX2_init cX2_init 2 0 := ⟨wn_X2_init, wi_X2, wc_X2_init, by decide, by decide, by decide +kernel, rfl⟩
theorem fr_X6_39 : FR RX6 39 6 5 true (.object "SplicedWeb$History") := ⟨RX6, TX6, 9, tyX6, cr_6, by decide, rfl, rfl, lg_mem 334 (by decide +kernel) rfl, fun _ h => by first | exact h.symm | rfl⟩
theorem fr_X6_43 : FR RX6 43 6 6 true (.array (.object "SplicedWeb$Press")) := ⟨RX6, TX6, 9, tyX6, cr_6, by decide, rfl, rfl, lg_mem 335 (by decide +kernel) rfl, fun _ h => by first | exact h.symm | rfl⟩
theorem fr_X6_47 : FR RX6 47 6 7 true (.array .boolean) := ⟨RX6, TX6, 9, tyX6, cr_6, by decide, rfl, rfl, lg_mem 336 (by decide +kernel) rfl, fun _ h => by first | exact h.symm | rfl⟩
theorem wn_X1_init : Cond.instanceMethod yX1_init ∈ LG := lg_mem 302 (by decide +kernel) rfl
theorem wi_X1 : Cond.initialized RX1 ∈ LG := lg_mem 56 (by decide +kernel) rfl
theorem wc_X1_init : Cond.code yX1_init cX1_init 1 none ∈ LG := lg_mem 303 (by decide +kernel) rfl
theorem mi_X1_init : MI yX1_init cX1_init 1 0 := ⟨wn_X1_init, wi_X1, wc_X1_init, by decide, by decide, by decide +kernel, rfl⟩
theorem fr_X6_54 : FR RX6 54 6 8 true (.object "SplicedWeb$Clues") := ⟨RX6, TX6, 9, tyX6, cr_6, by decide, rfl, rfl, lg_mem 337 (by decide +kernel) rfl, fun _ h => by first | exact h.symm | rfl⟩
theorem wn_X4_setAsAtFirst : Cond.instanceMethod yX4_setAsAtFirst ∈ LG := lg_mem 318 (by decide +kernel) rfl
theorem wl_X4_setAsAtFirst : Cond.selects yX4_setAsAtFirst.cls yX4_setAsAtFirst yX4_setAsAtFirst ∈ LG := lg_mem 319 (by decide +kernel) rfl
theorem wc_X4_setAsAtFirst : Cond.code yX4_setAsAtFirst cX4_setAsAtFirst 2 none ∈ LG := lg_mem 320 (by decide +kernel) rfl
theorem mv_X6_58 : MV RX6 58 4 yX4_setAsAtFirst cX4_setAsAtFirst 2 none 1 := ⟨⟨TX4, 14, rfl⟩, by decide, lg_mem 317 (by decide +kernel) rfl, wn_X4_setAsAtFirst, wl_X4_setAsAtFirst, wi_X4, wc_X4_setAsAtFirst, by decide, by decide, by decide +kernel⟩
theorem wt_X6_isWithin : Cond.static yX6_isWithin ∈ LG := lg_mem 362 (by decide +kernel) rfl
theorem wi_X6 : Cond.initialized RX6 ∈ LG := lg_mem 50 (by decide +kernel) rfl
theorem wc_X6_isWithin : Cond.code yX6_isWithin cX6_isWithin 3 (some .boolean) ∈ LG := lg_mem 363 (by decide +kernel) rfl
theorem ms_X6_62 : MS RX6 62 yX6_isWithin cX6_isWithin 3 (some .boolean) 3 := ⟨lg_mem 361 (by decide +kernel) rfl, wt_X6_isWithin, wi_X6, wc_X6_isWithin, by decide, by decide, by decide +kernel⟩
theorem wn_X5_add : Cond.instanceMethod yX5_add ∈ LG := lg_mem 365 (by decide +kernel) rfl
theorem wl_X5_add : Cond.selects yX5_add.cls yX5_add yX5_add ∈ LG := lg_mem 366 (by decide +kernel) rfl
theorem wc_X5_add : Cond.code yX5_add cX5_add 2 (some .boolean) ∈ LG := lg_mem 367 (by decide +kernel) rfl
theorem mv_X6_66 : MV RX6 66 5 yX5_add cX5_add 2 (some .boolean) 1 := ⟨⟨TX5, 7, rfl⟩, by decide, lg_mem 364 (by decide +kernel) rfl, wn_X5_add, wl_X5_add, wi_X5, wc_X5_add, by decide, by decide, by decide +kernel⟩
theorem fr_X6_70 : FR RX6 70 5 1 false (.int) := ⟨RX5, TX5, 7, tyX5, cr_5, by decide, rfl, rfl, lg_mem 78 (by decide +kernel) rfl, fun h => by cases h⟩
theorem wn_X5_readInto : Cond.instanceMethod yX5_readInto ∈ LG := lg_mem 377 (by decide +kernel) rfl
theorem wl_X5_readInto : Cond.selects yX5_readInto.cls yX5_readInto yX5_readInto ∈ LG := lg_mem 378 (by decide +kernel) rfl
theorem wc_X5_readInto : Cond.code yX5_readInto cX5_readInto 3 (some .int) ∈ LG := lg_mem 379 (by decide +kernel) rfl
theorem mv_X6_74 : MV RX6 74 5 yX5_readInto cX5_readInto 3 (some .int) 1 := ⟨⟨TX5, 7, rfl⟩, by decide, lg_mem 376 (by decide +kernel) rfl, wn_X5_readInto, wl_X5_readInto, wi_X5, wc_X5_readInto, by decide, by decide, by decide +kernel⟩
theorem fr_X6_78 : FR RX6 78 2 2 false (.int) := ⟨RX2, TX2, 3, tyX2, cr_2, by decide, rfl, rfl, lg_mem 291 (by decide +kernel) rfl, fun h => by cases h⟩
theorem fr_X6_81 : FR RX6 81 1 2 false (.int) := ⟨RX1, TX1, 3, tyX1, cr_1, by decide, rfl, rfl, lg_mem 308 (by decide +kernel) rfl, fun h => by cases h⟩
theorem fr_X6_82 : FR RX6 82 4 8 false (.boolean) := ⟨RX4, TX4, 14, tyX4, cr_4, by decide, rfl, rfl, lg_mem 239 (by decide +kernel) rfl, fun h => by cases h⟩
theorem fr_X6_86 : FR RX6 86 4 10 false (.int) := ⟨RX4, TX4, 14, tyX4, cr_4, by decide, rfl, rfl, lg_mem 243 (by decide +kernel) rfl, fun h => by cases h⟩
theorem wn_X2_remember : Cond.instanceMethod yX2_remember ∈ LG := lg_mem 436 (by decide +kernel) rfl
theorem wl_X2_remember : Cond.selects yX2_remember.cls yX2_remember yX2_remember ∈ LG := lg_mem 437 (by decide +kernel) rfl
theorem wc_X2_remember : Cond.code yX2_remember cX2_remember 2 none ∈ LG := lg_mem 438 (by decide +kernel) rfl
theorem mv_X6_89 : MV RX6 89 2 yX2_remember cX2_remember 2 none 1 := ⟨⟨TX2, 3, rfl⟩, by decide, lg_mem 435 (by decide +kernel) rfl, wn_X2_remember, wl_X2_remember, wi_X2, wc_X2_remember, by decide, by decide, by decide +kernel⟩
theorem fr_X6_93 : FR RX6 93 4 11 false (.int) := ⟨RX4, TX4, 14, tyX4, cr_4, by decide, rfl, rfl, lg_mem 245 (by decide +kernel) rfl, fun h => by cases h⟩
theorem wn_X4_tick : Cond.instanceMethod yX4_tick ∈ LG := lg_mem 453 (by decide +kernel) rfl
theorem wl_X4_tick : Cond.selects yX4_tick.cls yX4_tick yX4_tick ∈ LG := lg_mem 454 (by decide +kernel) rfl
theorem wc_X4_tick : Cond.code yX4_tick cX4_tick 4 (some .boolean) ∈ LG := lg_mem 455 (by decide +kernel) rfl
theorem mv_X6_96 : MV RX6 96 4 yX4_tick cX4_tick 4 (some .boolean) 1 := ⟨⟨TX4, 14, rfl⟩, by decide, lg_mem 452 (by decide +kernel) rfl, wn_X4_tick, wl_X4_tick, wi_X4, wc_X4_tick, by decide, by decide, by decide +kernel⟩
theorem wn_X3_isMovable : Cond.instanceMethod yX3_isMovable ∈ LG := lg_mem 525 (by decide +kernel) rfl
theorem wl_X3_isMovable : Cond.selects yX3_isMovable.cls yX3_isMovable yX3_isMovable ∈ LG := lg_mem 526 (by decide +kernel) rfl
theorem wc_X3_isMovable : Cond.code yX3_isMovable cX3_isMovable 2 (some .boolean) ∈ LG := lg_mem 527 (by decide +kernel) rfl
theorem mv_X6_100 : MV RX6 100 3 yX3_isMovable cX3_isMovable 2 (some .boolean) 1 := ⟨⟨TX3, 10, rfl⟩, by decide, lg_mem 536 (by decide +kernel) rfl, wn_X3_isMovable, wl_X3_isMovable, wi_X3, wc_X3_isMovable, by decide, by decide, by decide +kernel⟩
theorem fr_X6_103 : FR RX6 103 4 0 true (.array .int) := ⟨RX4, TX4, 14, tyX4, cr_4, by decide, rfl, rfl, lg_mem 224 (by decide +kernel) rfl, fun _ h => by first | exact h.symm | rfl⟩
theorem wn_X4_correct : Cond.instanceMethod yX4_correct ∈ LG := lg_mem 521 (by decide +kernel) rfl
theorem wl_X4_correct : Cond.selects yX4_correct.cls yX4_correct yX4_correct ∈ LG := lg_mem 522 (by decide +kernel) rfl
theorem wc_X4_correct : Cond.code yX4_correct cX4_correct 5 none ∈ LG := lg_mem 523 (by decide +kernel) rfl
theorem mv_X6_107 : MV RX6 107 4 yX4_correct cX4_correct 5 none 3 := ⟨⟨TX4, 14, rfl⟩, by decide, lg_mem 541 (by decide +kernel) rfl, wn_X4_correct, wl_X4_correct, wi_X4, wc_X4_correct, by decide, by decide, by decide +kernel⟩
theorem fr_X6_111 : FR RX6 111 4 2 true (.array .int) := ⟨RX4, TX4, 14, tyX4, cr_4, by decide, rfl, rfl, lg_mem 228 (by decide +kernel) rfl, fun _ h => by first | exact h.symm | rfl⟩
theorem wn_X4_nextReel : Cond.instanceMethod yX4_nextReel ∈ LG := lg_mem 461 (by decide +kernel) rfl
theorem wl_X4_nextReel : Cond.selects yX4_nextReel.cls yX4_nextReel yX4_nextReel ∈ LG := lg_mem 462 (by decide +kernel) rfl
theorem wc_X4_nextReel : Cond.code yX4_nextReel cX4_nextReel 2 (some .int) ∈ LG := lg_mem 463 (by decide +kernel) rfl
theorem mv_X6_114 : MV RX6 114 4 yX4_nextReel cX4_nextReel 2 (some .int) 1 := ⟨⟨TX4, 14, rfl⟩, by decide, lg_mem 546 (by decide +kernel) rfl, wn_X4_nextReel, wl_X4_nextReel, wi_X4, wc_X4_nextReel, by decide, by decide, by decide +kernel⟩
theorem fr_X6_117 : FR RX6 117 4 7 false (.int) := ⟨RX4, TX4, 14, tyX4, cr_4, by decide, rfl, rfl, lg_mem 237 (by decide +kernel) rfl, fun h => by cases h⟩
theorem wn_X4_restart : Cond.instanceMethod yX4_restart ∈ LG := lg_mem 552 (by decide +kernel) rfl
theorem wl_X4_restart : Cond.selects yX4_restart.cls yX4_restart yX4_restart ∈ LG := lg_mem 553 (by decide +kernel) rfl
theorem wc_X4_restart : Cond.code yX4_restart cX4_restart 2 none ∈ LG := lg_mem 554 (by decide +kernel) rfl
theorem mv_X6_120 : MV RX6 120 4 yX4_restart cX4_restart 2 none 1 := ⟨⟨TX4, 14, rfl⟩, by decide, lg_mem 551 (by decide +kernel) rfl, wn_X4_restart, wl_X4_restart, wi_X4, wc_X4_restart, by decide, by decide, by decide +kernel⟩
theorem fr_X6_123 : FR RX6 123 4 5 false (.int) := ⟨RX4, TX4, 14, tyX4, cr_4, by decide, rfl, rfl, lg_mem 233 (by decide +kernel) rfl, fun h => by cases h⟩
theorem fr_X6_126 : FR RX6 126 4 9 false (.boolean) := ⟨RX4, TX4, 14, tyX4, cr_4, by decide, rfl, rfl, lg_mem 241 (by decide +kernel) rfl, fun h => by cases h⟩
theorem wn_X2_restore : Cond.instanceMethod yX2_restore ∈ LG := lg_mem 564 (by decide +kernel) rfl
theorem wl_X2_restore : Cond.selects yX2_restore.cls yX2_restore yX2_restore ∈ LG := lg_mem 565 (by decide +kernel) rfl
theorem wc_X2_restore : Cond.code yX2_restore cX2_restore 2 none ∈ LG := lg_mem 566 (by decide +kernel) rfl
theorem mv_X6_129 : MV RX6 129 2 yX2_restore cX2_restore 2 none 1 := ⟨⟨TX2, 3, rfl⟩, by decide, lg_mem 563 (by decide +kernel) rfl, wn_X2_restore, wl_X2_restore, wi_X2, wc_X2_restore, by decide, by decide, by decide +kernel⟩
theorem wn_X3_hasUnit : Cond.instanceMethod yX3_hasUnit ∈ LG := lg_mem 529 (by decide +kernel) rfl
theorem wl_X3_hasUnit : Cond.selects yX3_hasUnit.cls yX3_hasUnit yX3_hasUnit ∈ LG := lg_mem 530 (by decide +kernel) rfl
theorem wc_X3_hasUnit : Cond.code yX3_hasUnit cX3_hasUnit 2 (some .boolean) ∈ LG := lg_mem 531 (by decide +kernel) rfl
theorem mv_X6_132 : MV RX6 132 3 yX3_hasUnit cX3_hasUnit 2 (some .boolean) 1 := ⟨⟨TX3, 10, rfl⟩, by decide, lg_mem 571 (by decide +kernel) rfl, wn_X3_hasUnit, wl_X3_hasUnit, wi_X3, wc_X3_hasUnit, by decide, by decide, by decide +kernel⟩
theorem fr_X6_136 : FR RX6 136 3 0 true (.array .int) := ⟨RX3, TX3, 10, tyX3, cr_3, by decide, rfl, rfl, lg_mem 112 (by decide +kernel) rfl, fun _ h => by first | exact h.symm | rfl⟩
theorem fr_X6_139 : FR RX6 139 3 1 true (.array .int) := ⟨RX3, TX3, 10, tyX3, cr_3, by decide, rfl, rfl, lg_mem 114 (by decide +kernel) rfl, fun _ h => by first | exact h.symm | rfl⟩
theorem fr_X6_142 : FR RX6 142 4 1 true (.array .int) := ⟨RX4, TX4, 14, tyX4, cr_4, by decide, rfl, rfl, lg_mem 226 (by decide +kernel) rfl, fun _ h => by first | exact h.symm | rfl⟩
theorem wn_X4_toBePassed : Cond.instanceMethod yX4_toBePassed ∈ LG := lg_mem 574 (by decide +kernel) rfl
theorem wl_X4_toBePassed : Cond.selects yX4_toBePassed.cls yX4_toBePassed yX4_toBePassed ∈ LG := lg_mem 575 (by decide +kernel) rfl
theorem wc_X4_toBePassed : Cond.code yX4_toBePassed cX4_toBePassed 4 (some .int) ∈ LG := lg_mem 576 (by decide +kernel) rfl
theorem mv_X6_145 : MV RX6 145 4 yX4_toBePassed cX4_toBePassed 4 (some .int) 1 := ⟨⟨TX4, 14, rfl⟩, by decide, lg_mem 573 (by decide +kernel) rfl, wn_X4_toBePassed, wl_X4_toBePassed, wi_X4, wc_X4_toBePassed, by decide, by decide, by decide +kernel⟩
theorem wn_X3_hasReel : Cond.instanceMethod yX3_hasReel ∈ LG := lg_mem 465 (by decide +kernel) rfl
theorem wl_X3_hasReel : Cond.selects yX3_hasReel.cls yX3_hasReel yX3_hasReel ∈ LG := lg_mem 466 (by decide +kernel) rfl
theorem wc_X3_hasReel : Cond.code yX3_hasReel cX3_hasReel 2 (some .boolean) ∈ LG := lg_mem 467 (by decide +kernel) rfl
theorem mv_X6_149 : MV RX6 149 3 yX3_hasReel cX3_hasReel 2 (some .boolean) 1 := ⟨⟨TX3, 10, rfl⟩, by decide, lg_mem 581 (by decide +kernel) rfl, wn_X3_hasReel, wl_X3_hasReel, wi_X3, wc_X3_hasReel, by decide, by decide, by decide +kernel⟩
theorem fr_X6_152 : FR RX6 152 3 2 true (.array .int) := ⟨RX3, TX3, 10, tyX3, cr_3, by decide, rfl, rfl, lg_mem 118 (by decide +kernel) rfl, fun _ h => by first | exact h.symm | rfl⟩
theorem fr_X6_155 : FR RX6 155 3 3 true (.array .int) := ⟨RX3, TX3, 10, tyX3, cr_3, by decide, rfl, rfl, lg_mem 121 (by decide +kernel) rfl, fun _ h => by first | exact h.symm | rfl⟩
theorem wn_X4_leftOn : Cond.instanceMethod yX4_leftOn ∈ LG := lg_mem 583 (by decide +kernel) rfl
theorem wl_X4_leftOn : Cond.selects yX4_leftOn.cls yX4_leftOn yX4_leftOn ∈ LG := lg_mem 584 (by decide +kernel) rfl
theorem wc_X4_leftOn : Cond.code yX4_leftOn cX4_leftOn 3 (some .int) ∈ LG := lg_mem 585 (by decide +kernel) rfl
theorem mv_X6_158 : MV RX6 158 4 yX4_leftOn cX4_leftOn 3 (some .int) 2 := ⟨⟨TX4, 14, rfl⟩, by decide, lg_mem 582 (by decide +kernel) rfl, wn_X4_leftOn, wl_X4_leftOn, wi_X4, wc_X4_leftOn, by decide, by decide, by decide +kernel⟩
theorem fr_X6_162 : FR RX6 162 4 4 true (.object "SplicedWeb$Band") := ⟨RX4, TX4, 14, tyX4, cr_4, by decide, rfl, rfl, lg_mem 231 (by decide +kernel) rfl, fun _ h => by first | exact h.symm | rfl⟩
theorem fr_X6_166 : FR RX6 166 0 6 false (.boolean) := ⟨RX0, TX0, 11, tyX0, cr_0, by decide, rfl, rfl, lg_mem 188 (by decide +kernel) rfl, fun h => by cases h⟩
theorem fr_X6_172 : FR RX6 172 0 7 false (.int) := ⟨RX0, TX0, 11, tyX0, cr_0, by decide, rfl, rfl, lg_mem 190 (by decide +kernel) rfl, fun h => by cases h⟩
theorem fr_X6_175 : FR RX6 175 0 8 false (.boolean) := ⟨RX0, TX0, 11, tyX0, cr_0, by decide, rfl, rfl, lg_mem 192 (by decide +kernel) rfl, fun h => by cases h⟩
theorem fr_X6_178 : FR RX6 178 0 9 false (.boolean) := ⟨RX0, TX0, 11, tyX0, cr_0, by decide, rfl, rfl, lg_mem 195 (by decide +kernel) rfl, fun h => by cases h⟩
theorem fr_X6_181 : FR RX6 181 0 10 true (.array .int) := ⟨RX0, TX0, 11, tyX0, cr_0, by decide, rfl, rfl, lg_mem 198 (by decide +kernel) rfl, fun _ h => by first | exact h.symm | rfl⟩
theorem fr_X6_184 : FR RX6 184 0 5 false (.int) := ⟨RX0, TX0, 11, tyX0, cr_0, by decide, rfl, rfl, lg_mem 186 (by decide +kernel) rfl, fun h => by cases h⟩
theorem wn_X0_errorAt : Cond.instanceMethod yX0_errorAt ∈ LG := lg_mem 596 (by decide +kernel) rfl
theorem wl_X0_errorAt : Cond.selects yX0_errorAt.cls yX0_errorAt yX0_errorAt ∈ LG := lg_mem 597 (by decide +kernel) rfl
theorem wi_X0 : Cond.initialized RX0 ∈ LG := lg_mem 54 (by decide +kernel) rfl
theorem wc_X0_errorAt : Cond.code yX0_errorAt cX0_errorAt 3 (some .int) ∈ LG := lg_mem 598 (by decide +kernel) rfl
theorem mv_X6_187 : MV RX6 187 0 yX0_errorAt cX0_errorAt 3 (some .int) 2 := ⟨⟨TX0, 11, rfl⟩, by decide, lg_mem 595 (by decide +kernel) rfl, wn_X0_errorAt, wl_X0_errorAt, wi_X0, wc_X0_errorAt, by decide, by decide, by decide +kernel⟩
theorem wn_X4_takeFrom : Cond.instanceMethod yX4_takeFrom ∈ LG := lg_mem 440 (by decide +kernel) rfl
theorem wl_X4_takeFrom : Cond.selects yX4_takeFrom.cls yX4_takeFrom yX4_takeFrom ∈ LG := lg_mem 441 (by decide +kernel) rfl
theorem wc_X4_takeFrom : Cond.code yX4_takeFrom cX4_takeFrom 2 none ∈ LG := lg_mem 442 (by decide +kernel) rfl
theorem mv_X6_191 : MV RX6 191 4 yX4_takeFrom cX4_takeFrom 2 none 1 := ⟨⟨TX4, 14, rfl⟩, by decide, lg_mem 603 (by decide +kernel) rfl, wn_X4_takeFrom, wl_X4_takeFrom, wi_X4, wc_X4_takeFrom, by decide, by decide, by decide +kernel⟩
theorem fr_X6_194 : FR RX6 194 4 6 false (.int) := ⟨RX4, TX4, 14, tyX4, cr_4, by decide, rfl, rfl, lg_mem 235 (by decide +kernel) rfl, fun h => by cases h⟩
theorem fr_X6_197 : FR RX6 197 3 8 false (.int) := ⟨RX3, TX3, 10, tyX3, cr_3, by decide, rfl, rfl, lg_mem 139 (by decide +kernel) rfl, fun h => by cases h⟩
theorem wn_X0_cameFurtherOutThan : Cond.instanceMethod yX0_cameFurtherOutThan ∈ LG := lg_mem 509 (by decide +kernel) rfl
theorem wl_X0_cameFurtherOutThan : Cond.selects yX0_cameFurtherOutThan.cls yX0_cameFurtherOutThan yX0_cameFurtherOutThan ∈ LG := lg_mem 510 (by decide +kernel) rfl
theorem wc_X0_cameFurtherOutThan : Cond.code yX0_cameFurtherOutThan cX0_cameFurtherOutThan 3 (some .boolean) ∈ LG := lg_mem 511 (by decide +kernel) rfl
theorem mv_X6_200 : MV RX6 200 0 yX0_cameFurtherOutThan cX0_cameFurtherOutThan 3 (some .boolean) 1 := ⟨⟨TX0, 11, rfl⟩, by decide, lg_mem 604 (by decide +kernel) rfl, wn_X0_cameFurtherOutThan, wl_X0_cameFurtherOutThan, wi_X0, wc_X0_cameFurtherOutThan, by decide, by decide, by decide +kernel⟩
theorem wn_X4_tickTimes : Cond.instanceMethod yX4_tickTimes ∈ LG := lg_mem 610 (by decide +kernel) rfl
theorem wl_X4_tickTimes : Cond.selects yX4_tickTimes.cls yX4_tickTimes yX4_tickTimes ∈ LG := lg_mem 611 (by decide +kernel) rfl
theorem wc_X4_tickTimes : Cond.code yX4_tickTimes cX4_tickTimes 4 none ∈ LG := lg_mem 612 (by decide +kernel) rfl
theorem mv_X6_203 : MV RX6 203 4 yX4_tickTimes cX4_tickTimes 4 none 2 := ⟨⟨TX4, 14, rfl⟩, by decide, lg_mem 609 (by decide +kernel) rfl, wn_X4_tickTimes, wl_X4_tickTimes, wi_X4, wc_X4_tickTimes, by decide, by decide, by decide +kernel⟩
theorem fr_X6_207 : FR RX6 207 4 12 false (.int) := ⟨RX4, TX4, 14, tyX4, cr_4, by decide, rfl, rfl, lg_mem 247 (by decide +kernel) rfl, fun h => by cases h⟩
theorem wn_X4_makeReadyToPaste : Cond.instanceMethod yX4_makeReadyToPaste ∈ LG := lg_mem 615 (by decide +kernel) rfl
theorem wl_X4_makeReadyToPaste : Cond.selects yX4_makeReadyToPaste.cls yX4_makeReadyToPaste yX4_makeReadyToPaste ∈ LG := lg_mem 616 (by decide +kernel) rfl
theorem wc_X4_makeReadyToPaste : Cond.code yX4_makeReadyToPaste cX4_makeReadyToPaste 2 none ∈ LG := lg_mem 617 (by decide +kernel) rfl
theorem mv_X6_210 : MV RX6 210 4 yX4_makeReadyToPaste cX4_makeReadyToPaste 2 none 1 := ⟨⟨TX4, 14, rfl⟩, by decide, lg_mem 614 (by decide +kernel) rfl, wn_X4_makeReadyToPaste, wl_X4_makeReadyToPaste, wi_X4, wc_X4_makeReadyToPaste, by decide, by decide, by decide +kernel⟩
theorem wn_X1_add : Cond.instanceMethod yX1_add ∈ LG := lg_mem 623 (by decide +kernel) rfl
theorem wl_X1_add : Cond.selects yX1_add.cls yX1_add yX1_add ∈ LG := lg_mem 624 (by decide +kernel) rfl
theorem wc_X1_add : Cond.code yX1_add cX1_add 3 (some .boolean) ∈ LG := lg_mem 625 (by decide +kernel) rfl
theorem mv_X6_213 : MV RX6 213 1 yX1_add cX1_add 3 (some .boolean) 2 := ⟨⟨TX1, 3, rfl⟩, by decide, lg_mem 622 (by decide +kernel) rfl, wn_X1_add, wl_X1_add, wi_X1, wc_X1_add, by decide, by decide, by decide +kernel⟩
theorem fr_X6_216 : FR RX6 216 3 4 false (.int) := ⟨RX3, TX3, 10, tyX3, cr_3, by decide, rfl, rfl, lg_mem 125 (by decide +kernel) rfl, fun h => by cases h⟩
theorem wn_X1_causes : Cond.instanceMethod yX1_causes ∈ LG := lg_mem 635 (by decide +kernel) rfl
theorem wl_X1_causes : Cond.selects yX1_causes.cls yX1_causes yX1_causes ∈ LG := lg_mem 636 (by decide +kernel) rfl
theorem wc_X1_causes : Cond.code yX1_causes cX1_causes 4 (some .int) ∈ LG := lg_mem 637 (by decide +kernel) rfl
theorem mv_X6_219 : MV RX6 219 1 yX1_causes cX1_causes 4 (some .int) 1 := ⟨⟨TX1, 3, rfl⟩, by decide, lg_mem 634 (by decide +kernel) rfl, wn_X1_causes, wl_X1_causes, wi_X1, wc_X1_causes, by decide, by decide, by decide +kernel⟩
theorem wn_X1_bestUnit : Cond.instanceMethod yX1_bestUnit ∈ LG := lg_mem 657 (by decide +kernel) rfl
theorem wl_X1_bestUnit : Cond.selects yX1_bestUnit.cls yX1_bestUnit yX1_bestUnit ∈ LG := lg_mem 658 (by decide +kernel) rfl
theorem wc_X1_bestUnit : Cond.code yX1_bestUnit cX1_bestUnit 9 (some .int) ∈ LG := lg_mem 659 (by decide +kernel) rfl
theorem mv_X6_222 : MV RX6 222 1 yX1_bestUnit cX1_bestUnit 9 (some .int) 1 := ⟨⟨TX1, 3, rfl⟩, by decide, lg_mem 656 (by decide +kernel) rfl, wn_X1_bestUnit, wl_X1_bestUnit, wi_X1, wc_X1_bestUnit, by decide, by decide, by decide +kernel⟩
theorem fr_X6_225 : FR RX6 225 3 5 false (.int) := ⟨RX3, TX3, 10, tyX3, cr_3, by decide, rfl, rfl, lg_mem 129 (by decide +kernel) rfl, fun h => by cases h⟩
theorem fr_X6_228 : FR RX6 228 0 4 false (.int) := ⟨RX0, TX0, 11, tyX0, cr_0, by decide, rfl, rfl, lg_mem 183 (by decide +kernel) rfl, fun h => by cases h⟩
theorem fr_X6_231 : FR RX6 231 4 13 false (.int) := ⟨RX4, TX4, 14, tyX4, cr_4, by decide, rfl, rfl, lg_mem 249 (by decide +kernel) rfl, fun h => by cases h⟩
theorem fr_X6_234 : FR RX6 234 3 6 false (.int) := ⟨RX3, TX3, 10, tyX3, cr_3, by decide, rfl, rfl, lg_mem 132 (by decide +kernel) rfl, fun h => by cases h⟩
theorem fr_X6_237 : FR RX6 237 3 7 false (.int) := ⟨RX3, TX3, 10, tyX3, cr_3, by decide, rfl, rfl, lg_mem 136 (by decide +kernel) rfl, fun h => by cases h⟩
theorem fr_X6_240 : FR RX6 240 3 9 false (.int) := ⟨RX3, TX3, 10, tyX3, cr_3, by decide, rfl, rfl, lg_mem 144 (by decide +kernel) rfl, fun h => by cases h⟩
theorem fr_X7_7 : FR RX7 7 7 0 true (.array .int) := ⟨RX7, TX7, 27, tyX7, cr_7, by decide, rfl, rfl, lg_mem 699 (by decide +kernel) rfl, fun _ h => by first | exact h.symm | rfl⟩
theorem fr_X7_13 : FR RX7 13 7 1 true (.array .int) := ⟨RX7, TX7, 27, tyX7, cr_7, by decide, rfl, rfl, lg_mem 700 (by decide +kernel) rfl, fun _ h => by first | exact h.symm | rfl⟩
theorem fr_X7_16 : FR RX7 16 7 2 true (.array .int) := ⟨RX7, TX7, 27, tyX7, cr_7, by decide, rfl, rfl, lg_mem 701 (by decide +kernel) rfl, fun _ h => by first | exact h.symm | rfl⟩
theorem fr_X7_19 : FR RX7 19 7 4 true (.array .int) := ⟨RX7, TX7, 27, tyX7, cr_7, by decide, rfl, rfl, lg_mem 703 (by decide +kernel) rfl, fun _ h => by first | exact h.symm | rfl⟩
theorem fr_X7_22 : FR RX7 22 7 5 true (.array .boolean) := ⟨RX7, TX7, 27, tyX7, cr_7, by decide, rfl, rfl, lg_mem 704 (by decide +kernel) rfl, fun _ h => by first | exact h.symm | rfl⟩
theorem fr_X7_26 : FR RX7 26 7 6 true (.array .int) := ⟨RX7, TX7, 27, tyX7, cr_7, by decide, rfl, rfl, lg_mem 705 (by decide +kernel) rfl, fun _ h => by first | exact h.symm | rfl⟩
theorem fr_X7_29 : FR RX7 29 7 8 true (.array .int) := ⟨RX7, TX7, 27, tyX7, cr_7, by decide, rfl, rfl, lg_mem 707 (by decide +kernel) rfl, fun _ h => by first | exact h.symm | rfl⟩
theorem fr_X7_32 : FR RX7 32 7 11 true (.array .int) := ⟨RX7, TX7, 27, tyX7, cr_7, by decide, rfl, rfl, lg_mem 710 (by decide +kernel) rfl, fun _ h => by first | exact h.symm | rfl⟩
theorem fr_X7_35 : FR RX7 35 7 12 true (.array .int) := ⟨RX7, TX7, 27, tyX7, cr_7, by decide, rfl, rfl, lg_mem 711 (by decide +kernel) rfl, fun _ h => by first | exact h.symm | rfl⟩
theorem fr_X7_38 : FR RX7 38 7 14 true (.array .int) := ⟨RX7, TX7, 27, tyX7, cr_7, by decide, rfl, rfl, lg_mem 713 (by decide +kernel) rfl, fun _ h => by first | exact h.symm | rfl⟩
theorem fr_X7_41 : FR RX7 41 7 15 true (.array .int) := ⟨RX7, TX7, 27, tyX7, cr_7, by decide, rfl, rfl, lg_mem 714 (by decide +kernel) rfl, fun _ h => by first | exact h.symm | rfl⟩
theorem fr_X7_44 : FR RX7 44 7 16 true (.array .int) := ⟨RX7, TX7, 27, tyX7, cr_7, by decide, rfl, rfl, lg_mem 715 (by decide +kernel) rfl, fun _ h => by first | exact h.symm | rfl⟩
theorem fr_X7_47 : FR RX7 47 7 19 true (.array .int) := ⟨RX7, TX7, 27, tyX7, cr_7, by decide, rfl, rfl, lg_mem 718 (by decide +kernel) rfl, fun _ h => by first | exact h.symm | rfl⟩
theorem fr_X7_50 : FR RX7 50 7 20 true (.array .int) := ⟨RX7, TX7, 27, tyX7, cr_7, by decide, rfl, rfl, lg_mem 719 (by decide +kernel) rfl, fun _ h => by first | exact h.symm | rfl⟩
theorem fr_X7_53 : FR RX7 53 7 21 true (.array .int) := ⟨RX7, TX7, 27, tyX7, cr_7, by decide, rfl, rfl, lg_mem 720 (by decide +kernel) rfl, fun _ h => by first | exact h.symm | rfl⟩
theorem fr_X7_56 : FR RX7 56 7 22 true (.array .int) := ⟨RX7, TX7, 27, tyX7, cr_7, by decide, rfl, rfl, lg_mem 721 (by decide +kernel) rfl, fun _ h => by first | exact h.symm | rfl⟩
theorem fr_X7_59 : FR RX7 59 7 23 true (.array .boolean) := ⟨RX7, TX7, 27, tyX7, cr_7, by decide, rfl, rfl, lg_mem 722 (by decide +kernel) rfl, fun _ h => by first | exact h.symm | rfl⟩
theorem wn_X7_begins : Cond.instanceMethod yX7_begins ∈ LG := lg_mem 693 (by decide +kernel) rfl
theorem wl_X7_begins : Cond.selects yX7_begins.cls yX7_begins yX7_begins ∈ LG := lg_mem 16 (by decide +kernel) rfl
theorem wi_X7 : Cond.initialized RX7 ∈ LG := lg_mem 58 (by decide +kernel) rfl
theorem wc_X7_begins : Cond.code yX7_begins cX7_begins 2 none ∈ LG := lg_mem 694 (by decide +kernel) rfl
theorem mv_X7_62 : MV RX7 62 7 yX7_begins cX7_begins 2 none 0 := ⟨⟨TX7, 27, rfl⟩, by decide, lg_mem 691 (by decide +kernel) rfl, wn_X7_begins, wl_X7_begins, wi_X7, wc_X7_begins, by decide, by decide, by decide +kernel⟩
theorem wn_X7_takes : Cond.instanceMethod yX7_takes ∈ LG := lg_mem 697 (by decide +kernel) rfl
theorem wl_X7_takes : Cond.selects yX7_takes.cls yX7_takes yX7_takes ∈ LG := lg_mem 17 (by decide +kernel) rfl
theorem wc_X7_takes : Cond.code yX7_takes cX7_takes 2 none ∈ LG := lg_mem 698 (by decide +kernel) rfl
theorem mv_X7_65 : MV RX7 65 7 yX7_takes cX7_takes 2 none 0 := ⟨⟨TX7, 27, rfl⟩, by decide, lg_mem 695 (by decide +kernel) rfl, wn_X7_takes, wl_X7_takes, wi_X7, wc_X7_takes, by decide, by decide, by decide +kernel⟩
theorem fr_X7_68 : FR RX7 68 7 17 false (.int) := ⟨RX7, TX7, 27, tyX7, cr_7, by decide, rfl, rfl, lg_mem 716 (by decide +kernel) rfl, fun h => by cases h⟩
theorem fr_X7_72 : FR RX7 72 7 18 false (.int) := ⟨RX7, TX7, 27, tyX7, cr_7, by decide, rfl, rfl, lg_mem 717 (by decide +kernel) rfl, fun h => by cases h⟩
theorem fr_X7_75 : FR RX7 75 7 10 false (.int) := ⟨RX7, TX7, 27, tyX7, cr_7, by decide, rfl, rfl, lg_mem 709 (by decide +kernel) rfl, fun h => by cases h⟩
theorem fr_X7_78 : FR RX7 78 7 13 false (.int) := ⟨RX7, TX7, 27, tyX7, cr_7, by decide, rfl, rfl, lg_mem 712 (by decide +kernel) rfl, fun h => by cases h⟩
theorem fr_X7_81 : FR RX7 81 7 3 false (.int) := ⟨RX7, TX7, 27, tyX7, cr_7, by decide, rfl, rfl, lg_mem 702 (by decide +kernel) rfl, fun h => by cases h⟩
theorem fr_X7_84 : FR RX7 84 7 9 false (.int) := ⟨RX7, TX7, 27, tyX7, cr_7, by decide, rfl, rfl, lg_mem 708 (by decide +kernel) rfl, fun h => by cases h⟩
theorem fr_X7_87 : FR RX7 87 7 24 false (.int) := ⟨RX7, TX7, 27, tyX7, cr_7, by decide, rfl, rfl, lg_mem 723 (by decide +kernel) rfl, fun h => by cases h⟩
theorem fr_X7_90 : FR RX7 90 7 7 false (.int) := ⟨RX7, TX7, 27, tyX7, cr_7, by decide, rfl, rfl, lg_mem 706 (by decide +kernel) rfl, fun h => by cases h⟩
theorem fr_X7_93 : FR RX7 93 7 25 false (.int) := ⟨RX7, TX7, 27, tyX7, cr_7, by decide, rfl, rfl, lg_mem 724 (by decide +kernel) rfl, fun h => by cases h⟩
theorem wt_X7_in : Cond.static yX7_in ∈ LG := lg_mem 786 (by decide +kernel) rfl
theorem wc_X7_in : Cond.code yX7_in cX7_in 3 (some .boolean) ∈ LG := lg_mem 787 (by decide +kernel) rfl
theorem ms_X7_96 : MS RX7 96 yX7_in cX7_in 3 (some .boolean) 3 := ⟨lg_mem 785 (by decide +kernel) rfl, wt_X7_in, wi_X7, wc_X7_in, by decide, by decide, by decide +kernel⟩
theorem wn_X7_blanks : Cond.instanceMethod yX7_blanks ∈ LG := lg_mem 802 (by decide +kernel) rfl
theorem wl_X7_blanks : Cond.selects yX7_blanks.cls yX7_blanks yX7_blanks ∈ LG := lg_mem 19 (by decide +kernel) rfl
theorem wc_X7_blanks : Cond.code yX7_blanks cX7_blanks 1 none ∈ LG := lg_mem 803 (by decide +kernel) rfl
theorem mv_X7_100 : MV RX7 100 7 yX7_blanks cX7_blanks 1 none 0 := ⟨⟨TX7, 27, rfl⟩, by decide, lg_mem 800 (by decide +kernel) rfl, wn_X7_blanks, wl_X7_blanks, wi_X7, wc_X7_blanks, by decide, by decide, by decide +kernel⟩
theorem wn_X7_isAt : Cond.instanceMethod yX7_isAt ∈ LG := lg_mem 818 (by decide +kernel) rfl
theorem wl_X7_isAt : Cond.selects yX7_isAt.cls yX7_isAt yX7_isAt ∈ LG := lg_mem 23 (by decide +kernel) rfl
theorem wc_X7_isAt : Cond.code yX7_isAt cX7_isAt 3 (some .boolean) ∈ LG := lg_mem 819 (by decide +kernel) rfl
theorem mv_X7_103 : MV RX7 103 7 yX7_isAt cX7_isAt 3 (some .boolean) 2 := ⟨⟨TX7, 27, rfl⟩, by decide, lg_mem 816 (by decide +kernel) rfl, wn_X7_isAt, wl_X7_isAt, wi_X7, wc_X7_isAt, by decide, by decide, by decide +kernel⟩
theorem fr_X7_107 : FR RX7 107 7 26 false (.int) := ⟨RX7, TX7, 27, tyX7, cr_7, by decide, rfl, rfl, lg_mem 725 (by decide +kernel) rfl, fun h => by cases h⟩
theorem wn_X7_takesNumber : Cond.instanceMethod yX7_takesNumber ∈ LG := lg_mem 814 (by decide +kernel) rfl
theorem wl_X7_takesNumber : Cond.selects yX7_takesNumber.cls yX7_takesNumber yX7_takesNumber ∈ LG := lg_mem 22 (by decide +kernel) rfl
theorem wc_X7_takesNumber : Cond.code yX7_takesNumber cX7_takesNumber 4 (some .boolean) ∈ LG := lg_mem 815 (by decide +kernel) rfl
theorem mv_X7_110 : MV RX7 110 7 yX7_takesNumber cX7_takesNumber 4 (some .boolean) 2 := ⟨⟨TX7, 27, rfl⟩, by decide, lg_mem 812 (by decide +kernel) rfl, wn_X7_takesNumber, wl_X7_takesNumber, wi_X7, wc_X7_takesNumber, by decide, by decide, by decide +kernel⟩
theorem wn_X7_takesSign : Cond.instanceMethod yX7_takesSign ∈ LG := lg_mem 822 (by decide +kernel) rfl
theorem wl_X7_takesSign : Cond.selects yX7_takesSign.cls yX7_takesSign yX7_takesSign ∈ LG := lg_mem 24 (by decide +kernel) rfl
theorem wc_X7_takesSign : Cond.code yX7_takesSign cX7_takesSign 3 (some .boolean) ∈ LG := lg_mem 823 (by decide +kernel) rfl
theorem mv_X7_113 : MV RX7 113 7 yX7_takesSign cX7_takesSign 3 (some .boolean) 1 := ⟨⟨TX7, 27, rfl⟩, by decide, lg_mem 820 (by decide +kernel) rfl, wn_X7_takesSign, wl_X7_takesSign, wi_X7, wc_X7_takesSign, by decide, by decide, by decide +kernel⟩
theorem wn_X7_takesUnit : Cond.instanceMethod yX7_takesUnit ∈ LG := lg_mem 810 (by decide +kernel) rfl
theorem wl_X7_takesUnit : Cond.selects yX7_takesUnit.cls yX7_takesUnit yX7_takesUnit ∈ LG := lg_mem 21 (by decide +kernel) rfl
theorem wc_X7_takesUnit : Cond.code yX7_takesUnit cX7_takesUnit 1 (some .boolean) ∈ LG := lg_mem 811 (by decide +kernel) rfl
theorem mv_X7_117 : MV RX7 117 7 yX7_takesUnit cX7_takesUnit 1 (some .boolean) 0 := ⟨⟨TX7, 27, rfl⟩, by decide, lg_mem 808 (by decide +kernel) rfl, wn_X7_takesUnit, wl_X7_takesUnit, wi_X7, wc_X7_takesUnit, by decide, by decide, by decide +kernel⟩
theorem wn_X7_takesReel : Cond.instanceMethod yX7_takesReel ∈ LG := lg_mem 826 (by decide +kernel) rfl
theorem wl_X7_takesReel : Cond.selects yX7_takesReel.cls yX7_takesReel yX7_takesReel ∈ LG := lg_mem 25 (by decide +kernel) rfl
theorem wc_X7_takesReel : Cond.code yX7_takesReel cX7_takesReel 2 (some .boolean) ∈ LG := lg_mem 827 (by decide +kernel) rfl
theorem mv_X7_121 : MV RX7 121 7 yX7_takesReel cX7_takesReel 2 (some .boolean) 0 := ⟨⟨TX7, 27, rfl⟩, by decide, lg_mem 824 (by decide +kernel) rfl, wn_X7_takesReel, wl_X7_takesReel, wi_X7, wc_X7_takesReel, by decide, by decide, by decide +kernel⟩
theorem wn_X7_takesSetting : Cond.instanceMethod yX7_takesSetting ∈ LG := lg_mem 830 (by decide +kernel) rfl
theorem wl_X7_takesSetting : Cond.selects yX7_takesSetting.cls yX7_takesSetting yX7_takesSetting ∈ LG := lg_mem 26 (by decide +kernel) rfl
theorem wc_X7_takesSetting : Cond.code yX7_takesSetting cX7_takesSetting 2 (some .boolean) ∈ LG := lg_mem 831 (by decide +kernel) rfl
theorem mv_X7_124 : MV RX7 124 7 yX7_takesSetting cX7_takesSetting 2 (some .boolean) 1 := ⟨⟨TX7, 27, rfl⟩, by decide, lg_mem 828 (by decide +kernel) rfl, wn_X7_takesSetting, wl_X7_takesSetting, wi_X7, wc_X7_takesSetting, by decide, by decide, by decide +kernel⟩
theorem wn_X7_takesItem : Cond.instanceMethod yX7_takesItem ∈ LG := lg_mem 806 (by decide +kernel) rfl
theorem wl_X7_takesItem : Cond.selects yX7_takesItem.cls yX7_takesItem yX7_takesItem ∈ LG := lg_mem 20 (by decide +kernel) rfl
theorem wc_X7_takesItem : Cond.code yX7_takesItem cX7_takesItem 1 (some .boolean) ∈ LG := lg_mem 807 (by decide +kernel) rfl
theorem mv_X7_127 : MV RX7 127 7 yX7_takesItem cX7_takesItem 1 (some .boolean) 0 := ⟨⟨TX7, 27, rfl⟩, by decide, lg_mem 804 (by decide +kernel) rfl, wn_X7_takesItem, wl_X7_takesItem, wi_X7, wc_X7_takesItem, by decide, by decide, by decide +kernel⟩
theorem wn_X7_reads : Cond.instanceMethod yX7_reads ∈ LG := lg_mem 798 (by decide +kernel) rfl
theorem wl_X7_reads : Cond.selects yX7_reads.cls yX7_reads yX7_reads ∈ LG := lg_mem 18 (by decide +kernel) rfl
theorem wc_X7_reads : Cond.code yX7_reads cX7_reads 2 (some .int) ∈ LG := lg_mem 799 (by decide +kernel) rfl
theorem mv_X7_130 : MV RX7 130 7 yX7_reads cX7_reads 2 (some .int) 0 := ⟨⟨TX7, 27, rfl⟩, by decide, lg_mem 796 (by decide +kernel) rfl, wn_X7_reads, wl_X7_reads, wi_X7, wc_X7_reads, by decide, by decide, by decide +kernel⟩
theorem wt_X7_copyPlace : Cond.static yX7_copyPlace ∈ LG := lg_mem 857 (by decide +kernel) rfl
theorem wc_X7_copyPlace : Cond.code yX7_copyPlace cX7_copyPlace 1 (some .int) ∈ LG := lg_mem 858 (by decide +kernel) rfl
theorem ms_X7_134 : MS RX7 134 yX7_copyPlace cX7_copyPlace 1 (some .int) 1 := ⟨lg_mem 856 (by decide +kernel) rfl, wt_X7_copyPlace, wi_X7, wc_X7_copyPlace, by decide, by decide, by decide +kernel⟩
theorem wt_X7_passedPlace : Cond.static yX7_passedPlace ∈ LG := lg_mem 872 (by decide +kernel) rfl
theorem wc_X7_passedPlace : Cond.code yX7_passedPlace cX7_passedPlace 2 (some .int) ∈ LG := lg_mem 873 (by decide +kernel) rfl
theorem ms_X7_138 : MS RX7 138 yX7_passedPlace cX7_passedPlace 2 (some .int) 2 := ⟨lg_mem 871 (by decide +kernel) rfl, wt_X7_passedPlace, wi_X7, wc_X7_passedPlace, by decide, by decide, by decide +kernel⟩
theorem wn_X7_isThere : Cond.instanceMethod yX7_isThere ∈ LG := lg_mem 876 (by decide +kernel) rfl
theorem wl_X7_isThere : Cond.selects yX7_isThere.cls yX7_isThere yX7_isThere ∈ LG := lg_mem 34 (by decide +kernel) rfl
theorem wc_X7_isThere : Cond.code yX7_isThere cX7_isThere 2 (some .boolean) ∈ LG := lg_mem 877 (by decide +kernel) rfl
theorem mv_X7_142 : MV RX7 142 7 yX7_isThere cX7_isThere 2 (some .boolean) 1 := ⟨⟨TX7, 27, rfl⟩, by decide, lg_mem 874 (by decide +kernel) rfl, wn_X7_isThere, wl_X7_isThere, wi_X7, wc_X7_isThere, by decide, by decide, by decide +kernel⟩
theorem wn_X7_waitOf : Cond.instanceMethod yX7_waitOf ∈ LG := lg_mem 899 (by decide +kernel) rfl
theorem wl_X7_waitOf : Cond.selects yX7_waitOf.cls yX7_waitOf yX7_waitOf ∈ LG := lg_mem 39 (by decide +kernel) rfl
theorem wc_X7_waitOf : Cond.code yX7_waitOf cX7_waitOf 2 (some .int) ∈ LG := lg_mem 900 (by decide +kernel) rfl
theorem mv_X7_145 : MV RX7 145 7 yX7_waitOf cX7_waitOf 2 (some .int) 1 := ⟨⟨TX7, 27, rfl⟩, by decide, lg_mem 897 (by decide +kernel) rfl, wn_X7_waitOf, wl_X7_waitOf, wi_X7, wc_X7_waitOf, by decide, by decide, by decide +kernel⟩
theorem wt_X7_size : Cond.static yX7_size ∈ LG := lg_mem 887 (by decide +kernel) rfl
theorem wc_X7_size : Cond.code yX7_size cX7_size 1 (some .int) ∈ LG := lg_mem 888 (by decide +kernel) rfl
theorem ms_X7_148 : MS RX7 148 yX7_size cX7_size 1 (some .int) 1 := ⟨lg_mem 886 (by decide +kernel) rfl, wt_X7_size, wi_X7, wc_X7_size, by decide, by decide, by decide +kernel⟩
theorem wn_X7_worst : Cond.instanceMethod yX7_worst ∈ LG := lg_mem 884 (by decide +kernel) rfl
theorem wl_X7_worst : Cond.selects yX7_worst.cls yX7_worst yX7_worst ∈ LG := lg_mem 36 (by decide +kernel) rfl
theorem wc_X7_worst : Cond.code yX7_worst cX7_worst 4 (some .int) ∈ LG := lg_mem 885 (by decide +kernel) rfl
theorem mv_X7_151 : MV RX7 151 7 yX7_worst cX7_worst 4 (some .int) 0 := ⟨⟨TX7, 27, rfl⟩, by decide, lg_mem 882 (by decide +kernel) rfl, wn_X7_worst, wl_X7_worst, wi_X7, wc_X7_worst, by decide, by decide, by decide +kernel⟩
theorem wn_X7_correctedBy : Cond.instanceMethod yX7_correctedBy ∈ LG := lg_mem 895 (by decide +kernel) rfl
theorem wl_X7_correctedBy : Cond.selects yX7_correctedBy.cls yX7_correctedBy yX7_correctedBy ∈ LG := lg_mem 38 (by decide +kernel) rfl
theorem wc_X7_correctedBy : Cond.code yX7_correctedBy cX7_correctedBy 3 none ∈ LG := lg_mem 896 (by decide +kernel) rfl
theorem mv_X7_154 : MV RX7 154 7 yX7_correctedBy cX7_correctedBy 3 none 2 := ⟨⟨TX7, 27, rfl⟩, by decide, lg_mem 893 (by decide +kernel) rfl, wn_X7_correctedBy, wl_X7_correctedBy, wi_X7, wc_X7_correctedBy, by decide, by decide, by decide +kernel⟩
theorem wn_X7_nextReel : Cond.instanceMethod yX7_nextReel ∈ LG := lg_mem 850 (by decide +kernel) rfl
theorem wl_X7_nextReel : Cond.selects yX7_nextReel.cls yX7_nextReel yX7_nextReel ∈ LG := lg_mem 29 (by decide +kernel) rfl
theorem wc_X7_nextReel : Cond.code yX7_nextReel cX7_nextReel 1 (some .int) ∈ LG := lg_mem 851 (by decide +kernel) rfl
theorem mv_X7_158 : MV RX7 158 7 yX7_nextReel cX7_nextReel 1 (some .int) 0 := ⟨⟨TX7, 27, rfl⟩, by decide, lg_mem 848 (by decide +kernel) rfl, wn_X7_nextReel, wl_X7_nextReel, wi_X7, wc_X7_nextReel, by decide, by decide, by decide +kernel⟩
theorem wn_X7_breaks : Cond.instanceMethod yX7_breaks ∈ LG := lg_mem 854 (by decide +kernel) rfl
theorem wl_X7_breaks : Cond.selects yX7_breaks.cls yX7_breaks yX7_breaks ∈ LG := lg_mem 30 (by decide +kernel) rfl
theorem wc_X7_breaks : Cond.code yX7_breaks cX7_breaks 4 none ∈ LG := lg_mem 855 (by decide +kernel) rfl
theorem mv_X7_161 : MV RX7 161 7 yX7_breaks cX7_breaks 4 none 0 := ⟨⟨TX7, 27, rfl⟩, by decide, lg_mem 852 (by decide +kernel) rfl, wn_X7_breaks, wl_X7_breaks, wi_X7, wc_X7_breaks, by decide, by decide, by decide +kernel⟩
theorem wn_X7_goesOnReel : Cond.instanceMethod yX7_goesOnReel ∈ LG := lg_mem 861 (by decide +kernel) rfl
theorem wl_X7_goesOnReel : Cond.selects yX7_goesOnReel.cls yX7_goesOnReel yX7_goesOnReel ∈ LG := lg_mem 31 (by decide +kernel) rfl
theorem wc_X7_goesOnReel : Cond.code yX7_goesOnReel cX7_goesOnReel 1 none ∈ LG := lg_mem 862 (by decide +kernel) rfl
theorem mv_X7_164 : MV RX7 164 7 yX7_goesOnReel cX7_goesOnReel 1 none 0 := ⟨⟨TX7, 27, rfl⟩, by decide, lg_mem 859 (by decide +kernel) rfl, wn_X7_goesOnReel, wl_X7_goesOnReel, wi_X7, wc_X7_goesOnReel, by decide, by decide, by decide +kernel⟩
theorem wn_X7_copyBegins : Cond.instanceMethod yX7_copyBegins ∈ LG := lg_mem 865 (by decide +kernel) rfl
theorem wl_X7_copyBegins : Cond.selects yX7_copyBegins.cls yX7_copyBegins yX7_copyBegins ∈ LG := lg_mem 32 (by decide +kernel) rfl
theorem wc_X7_copyBegins : Cond.code yX7_copyBegins cX7_copyBegins 4 none ∈ LG := lg_mem 866 (by decide +kernel) rfl
theorem mv_X7_167 : MV RX7 167 7 yX7_copyBegins cX7_copyBegins 4 none 1 := ⟨⟨TX7, 27, rfl⟩, by decide, lg_mem 863 (by decide +kernel) rfl, wn_X7_copyBegins, wl_X7_copyBegins, wi_X7, wc_X7_copyBegins, by decide, by decide, by decide +kernel⟩
theorem wn_X7_prints : Cond.instanceMethod yX7_prints ∈ LG := lg_mem 869 (by decide +kernel) rfl
theorem wl_X7_prints : Cond.selects yX7_prints.cls yX7_prints yX7_prints ∈ LG := lg_mem 33 (by decide +kernel) rfl
theorem wc_X7_prints : Cond.code yX7_prints cX7_prints 5 none ∈ LG := lg_mem 870 (by decide +kernel) rfl
theorem mv_X7_171 : MV RX7 171 7 yX7_prints cX7_prints 5 none 1 := ⟨⟨TX7, 27, rfl⟩, by decide, lg_mem 867 (by decide +kernel) rfl, wn_X7_prints, wl_X7_prints, wi_X7, wc_X7_prints, by decide, by decide, by decide +kernel⟩
theorem wn_X7_isSeen : Cond.instanceMethod yX7_isSeen ∈ LG := lg_mem 880 (by decide +kernel) rfl
theorem wl_X7_isSeen : Cond.selects yX7_isSeen.cls yX7_isSeen yX7_isSeen ∈ LG := lg_mem 35 (by decide +kernel) rfl
theorem wc_X7_isSeen : Cond.code yX7_isSeen cX7_isSeen 4 (some .boolean) ∈ LG := lg_mem 881 (by decide +kernel) rfl
theorem mv_X7_175 : MV RX7 175 7 yX7_isSeen cX7_isSeen 4 (some .boolean) 0 := ⟨⟨TX7, 27, rfl⟩, by decide, lg_mem 878 (by decide +kernel) rfl, wn_X7_isSeen, wl_X7_isSeen, wi_X7, wc_X7_isSeen, by decide, by decide, by decide +kernel⟩
theorem wn_X7_corrections : Cond.instanceMethod yX7_corrections ∈ LG := lg_mem 891 (by decide +kernel) rfl
theorem wl_X7_corrections : Cond.selects yX7_corrections.cls yX7_corrections yX7_corrections ∈ LG := lg_mem 37 (by decide +kernel) rfl
theorem wc_X7_corrections : Cond.code yX7_corrections cX7_corrections 3 none ∈ LG := lg_mem 892 (by decide +kernel) rfl
theorem mv_X7_178 : MV RX7 178 7 yX7_corrections cX7_corrections 3 none 0 := ⟨⟨TX7, 27, rfl⟩, by decide, lg_mem 889 (by decide +kernel) rfl, wn_X7_corrections, wl_X7_corrections, wi_X7, wc_X7_corrections, by decide, by decide, by decide +kernel⟩
theorem wn_X7_remembers : Cond.instanceMethod yX7_remembers ∈ LG := lg_mem 842 (by decide +kernel) rfl
theorem wl_X7_remembers : Cond.selects yX7_remembers.cls yX7_remembers yX7_remembers ∈ LG := lg_mem 27 (by decide +kernel) rfl
theorem wc_X7_remembers : Cond.code yX7_remembers cX7_remembers 2 none ∈ LG := lg_mem 843 (by decide +kernel) rfl
theorem mv_X7_181 : MV RX7 181 7 yX7_remembers cX7_remembers 2 none 0 := ⟨⟨TX7, 27, rfl⟩, by decide, lg_mem 840 (by decide +kernel) rfl, wn_X7_remembers, wl_X7_remembers, wi_X7, wc_X7_remembers, by decide, by decide, by decide +kernel⟩
theorem wn_X7_goes : Cond.instanceMethod yX7_goes ∈ LG := lg_mem 846 (by decide +kernel) rfl
theorem wl_X7_goes : Cond.selects yX7_goes.cls yX7_goes yX7_goes ∈ LG := lg_mem 28 (by decide +kernel) rfl
theorem wc_X7_goes : Cond.code yX7_goes cX7_goes 4 (some .boolean) ∈ LG := lg_mem 847 (by decide +kernel) rfl
theorem mv_X7_184 : MV RX7 184 7 yX7_goes cX7_goes 4 (some .boolean) 1 := ⟨⟨TX7, 27, rfl⟩, by decide, lg_mem 844 (by decide +kernel) rfl, wn_X7_goes, wl_X7_goes, wi_X7, wc_X7_goes, by decide, by decide, by decide +kernel⟩
theorem wn_X7_isLater : Cond.instanceMethod yX7_isLater ∈ LG := lg_mem 907 (by decide +kernel) rfl
theorem wl_X7_isLater : Cond.selects yX7_isLater.cls yX7_isLater yX7_isLater ∈ LG := lg_mem 40 (by decide +kernel) rfl
theorem wc_X7_isLater : Cond.code yX7_isLater cX7_isLater 2 (some .boolean) ∈ LG := lg_mem 908 (by decide +kernel) rfl
theorem mv_X7_187 : MV RX7 187 7 yX7_isLater cX7_isLater 2 (some .boolean) 1 := ⟨⟨TX7, 27, rfl⟩, by decide, lg_mem 905 (by decide +kernel) rfl, wn_X7_isLater, wl_X7_isLater, wi_X7, wc_X7_isLater, by decide, by decide, by decide +kernel⟩
theorem wn_X7_passedTo : Cond.instanceMethod yX7_passedTo ∈ LG := lg_mem 932 (by decide +kernel) rfl
theorem wl_X7_passedTo : Cond.selects yX7_passedTo.cls yX7_passedTo yX7_passedTo ∈ LG := lg_mem 41 (by decide +kernel) rfl
theorem wc_X7_passedTo : Cond.code yX7_passedTo cX7_passedTo 4 (some .int) ∈ LG := lg_mem 933 (by decide +kernel) rfl
theorem mv_X7_191 : MV RX7 191 7 yX7_passedTo cX7_passedTo 4 (some .int) 1 := ⟨⟨TX7, 27, rfl⟩, by decide, lg_mem 930 (by decide +kernel) rfl, wn_X7_passedTo, wl_X7_passedTo, wi_X7, wc_X7_passedTo, by decide, by decide, by decide +kernel⟩
theorem wn_X7_laysAside : Cond.instanceMethod yX7_laysAside ∈ LG := lg_mem 953 (by decide +kernel) rfl
theorem wl_X7_laysAside : Cond.selects yX7_laysAside.cls yX7_laysAside yX7_laysAside ∈ LG := lg_mem 42 (by decide +kernel) rfl
theorem wc_X7_laysAside : Cond.code yX7_laysAside cX7_laysAside 2 none ∈ LG := lg_mem 954 (by decide +kernel) rfl
theorem mv_X7_195 : MV RX7 195 7 yX7_laysAside cX7_laysAside 2 none 0 := ⟨⟨TX7, 27, rfl⟩, by decide, lg_mem 951 (by decide +kernel) rfl, wn_X7_laysAside, wl_X7_laysAside, wi_X7, wc_X7_laysAside, by decide, by decide, by decide +kernel⟩
theorem wn_X7_comesBack : Cond.instanceMethod yX7_comesBack ∈ LG := lg_mem 957 (by decide +kernel) rfl
theorem wl_X7_comesBack : Cond.selects yX7_comesBack.cls yX7_comesBack yX7_comesBack ∈ LG := lg_mem 43 (by decide +kernel) rfl
theorem wc_X7_comesBack : Cond.code yX7_comesBack cX7_comesBack 2 none ∈ LG := lg_mem 958 (by decide +kernel) rfl
theorem mv_X7_198 : MV RX7 198 7 yX7_comesBack cX7_comesBack 2 none 0 := ⟨⟨TX7, 27, rfl⟩, by decide, lg_mem 955 (by decide +kernel) rfl, wn_X7_comesBack, wl_X7_comesBack, wi_X7, wc_X7_comesBack, by decide, by decide, by decide +kernel⟩
theorem wn_X7_wasteBy : Cond.instanceMethod yX7_wasteBy ∈ LG := lg_mem 965 (by decide +kernel) rfl
theorem wl_X7_wasteBy : Cond.selects yX7_wasteBy.cls yX7_wasteBy yX7_wasteBy ∈ LG := lg_mem 44 (by decide +kernel) rfl
theorem wc_X7_wasteBy : Cond.code yX7_wasteBy cX7_wasteBy 4 (some .int) ∈ LG := lg_mem 966 (by decide +kernel) rfl
theorem mv_X7_201 : MV RX7 201 7 yX7_wasteBy cX7_wasteBy 4 (some .int) 1 := ⟨⟨TX7, 27, rfl⟩, by decide, lg_mem 963 (by decide +kernel) rfl, wn_X7_wasteBy, wl_X7_wasteBy, wi_X7, wc_X7_wasteBy, by decide, by decide, by decide +kernel⟩
theorem wt_X7_times : Cond.static yX7_times ∈ LG := lg_mem 992 (by decide +kernel) rfl
theorem wc_X7_times : Cond.code yX7_times cX7_times 2 (some .int) ∈ LG := lg_mem 993 (by decide +kernel) rfl
theorem ms_X7_204 : MS RX7 204 yX7_times cX7_times 2 (some .int) 2 := ⟨lg_mem 991 (by decide +kernel) rfl, wt_X7_times, wi_X7, wc_X7_times, by decide, by decide, by decide +kernel⟩
theorem wn_X7_isCause : Cond.instanceMethod yX7_isCause ∈ LG := lg_mem 985 (by decide +kernel) rfl
theorem wl_X7_isCause : Cond.selects yX7_isCause.cls yX7_isCause yX7_isCause ∈ LG := lg_mem 46 (by decide +kernel) rfl
theorem wc_X7_isCause : Cond.code yX7_isCause cX7_isCause 2 (some .boolean) ∈ LG := lg_mem 986 (by decide +kernel) rfl
theorem mv_X7_207 : MV RX7 207 7 yX7_isCause cX7_isCause 2 (some .boolean) 1 := ⟨⟨TX7, 27, rfl⟩, by decide, lg_mem 983 (by decide +kernel) rfl, wn_X7_isCause, wl_X7_isCause, wi_X7, wc_X7_isCause, by decide, by decide, by decide +kernel⟩
theorem wn_X7_isSo : Cond.instanceMethod yX7_isSo ∈ LG := lg_mem 989 (by decide +kernel) rfl
theorem wl_X7_isSo : Cond.selects yX7_isSo.cls yX7_isSo yX7_isSo ∈ LG := lg_mem 47 (by decide +kernel) rfl
theorem wc_X7_isSo : Cond.code yX7_isSo cX7_isSo 5 (some .boolean) ∈ LG := lg_mem 990 (by decide +kernel) rfl
theorem mv_X7_210 : MV RX7 210 7 yX7_isSo cX7_isSo 5 (some .boolean) 1 := ⟨⟨TX7, 27, rfl⟩, by decide, lg_mem 987 (by decide +kernel) rfl, wn_X7_isSo, wl_X7_isSo, wi_X7, wc_X7_isSo, by decide, by decide, by decide +kernel⟩
theorem wn_X7_causes : Cond.instanceMethod yX7_causes ∈ LG := lg_mem 981 (by decide +kernel) rfl
theorem wl_X7_causes : Cond.selects yX7_causes.cls yX7_causes yX7_causes ∈ LG := lg_mem 45 (by decide +kernel) rfl
theorem wc_X7_causes : Cond.code yX7_causes cX7_causes 3 (some .int) ∈ LG := lg_mem 982 (by decide +kernel) rfl
theorem mv_X7_213 : MV RX7 213 7 yX7_causes cX7_causes 3 (some .int) 0 := ⟨⟨TX7, 27, rfl⟩, by decide, lg_mem 979 (by decide +kernel) rfl, wn_X7_causes, wl_X7_causes, wi_X7, wc_X7_causes, by decide, by decide, by decide +kernel⟩
theorem wn_X7_underWay : Cond.instanceMethod yX7_underWay ∈ LG := lg_mem 1012 (by decide +kernel) rfl
theorem wl_X7_underWay : Cond.selects yX7_underWay.cls yX7_underWay yX7_underWay ∈ LG := lg_mem 48 (by decide +kernel) rfl
theorem wc_X7_underWay : Cond.code yX7_underWay cX7_underWay 3 (some .int) ∈ LG := lg_mem 1013 (by decide +kernel) rfl
theorem mv_X7_216 : MV RX7 216 7 yX7_underWay cX7_underWay 3 (some .int) 0 := ⟨⟨TX7, 27, rfl⟩, by decide, lg_mem 1010 (by decide +kernel) rfl, wn_X7_underWay, wl_X7_underWay, wi_X7, wc_X7_underWay, by decide, by decide, by decide +kernel⟩
theorem fr_X0_11 : FR RX0 11 0 0 true (.array .int) := ⟨RX0, TX0, 11, tyX0, cr_0, by decide, rfl, rfl, lg_mem 178 (by decide +kernel) rfl, fun _ h => by first | exact h.symm | rfl⟩
theorem fr_X0_15 : FR RX0 15 0 1 true (.array .int) := ⟨RX0, TX0, 11, tyX0, cr_0, by decide, rfl, rfl, lg_mem 179 (by decide +kernel) rfl, fun _ h => by first | exact h.symm | rfl⟩
theorem fr_X0_18 : FR RX0 18 0 2 true (.array .int) := ⟨RX0, TX0, 11, tyX0, cr_0, by decide, rfl, rfl, lg_mem 180 (by decide +kernel) rfl, fun _ h => by first | exact h.symm | rfl⟩
theorem fr_X0_21 : FR RX0 21 0 3 true (.array .int) := ⟨RX0, TX0, 11, tyX0, cr_0, by decide, rfl, rfl, lg_mem 181 (by decide +kernel) rfl, fun _ h => by first | exact h.symm | rfl⟩
theorem fr_X0_24 : FR RX0 24 0 10 true (.array .int) := ⟨RX0, TX0, 11, tyX0, cr_0, by decide, rfl, rfl, lg_mem 197 (by decide +kernel) rfl, fun _ h => by first | exact h.symm | rfl⟩
theorem fr_X0_27 : FR RX0 27 0 4 false (.int) := ⟨RX0, TX0, 11, tyX0, cr_0, by decide, rfl, rfl, lg_mem 182 (by decide +kernel) rfl, fun h => by cases h⟩
theorem fr_X0_31 : FR RX0 31 0 5 false (.int) := ⟨RX0, TX0, 11, tyX0, cr_0, by decide, rfl, rfl, lg_mem 184 (by decide +kernel) rfl, fun h => by cases h⟩
theorem fr_X0_34 : FR RX0 34 0 6 false (.boolean) := ⟨RX0, TX0, 11, tyX0, cr_0, by decide, rfl, rfl, lg_mem 187 (by decide +kernel) rfl, fun h => by cases h⟩
theorem wt_J7_fill_53178 : Cond.static yJ7_fill_53178 ∈ LG := lg_mem 322 (by decide +kernel) rfl
theorem wi_J7 : Cond.initialized RJ7 ∈ LG := lg_mem 57 (by decide +kernel) rfl
theorem wc_J7_fill_53178 : Cond.code yJ7_fill_53178 cJ7_fill_53178 4 none ∈ LG := lg_mem 323 (by decide +kernel) rfl
theorem ms_X0_38 : MS RX0 38 yJ7_fill_53178 cJ7_fill_53178 4 none 2 := ⟨lg_mem 328 (by decide +kernel) rfl, wt_J7_fill_53178, wi_J7, wc_J7_fill_53178, by decide, by decide, by decide +kernel⟩
theorem wk_X0_44 : Cond.methodLink RX0 44 arraycopyName ∈ LG := lg_mem 450 (by decide +kernel) rfl
theorem fr_X0_50 : FR RX0 50 0 7 false (.int) := ⟨RX0, TX0, 11, tyX0, cr_0, by decide, rfl, rfl, lg_mem 189 (by decide +kernel) rfl, fun h => by cases h⟩
theorem fr_X0_53 : FR RX0 53 0 8 false (.boolean) := ⟨RX0, TX0, 11, tyX0, cr_0, by decide, rfl, rfl, lg_mem 191 (by decide +kernel) rfl, fun h => by cases h⟩
theorem fr_X0_56 : FR RX0 56 0 9 false (.boolean) := ⟨RX0, TX0, 11, tyX0, cr_0, by decide, rfl, rfl, lg_mem 194 (by decide +kernel) rfl, fun h => by cases h⟩
theorem wn_X0_placeOf : Cond.instanceMethod yX0_placeOf ∈ LG := lg_mem 482 (by decide +kernel) rfl
theorem wl_X0_placeOf : Cond.selects yX0_placeOf.cls yX0_placeOf yX0_placeOf ∈ LG := lg_mem 10 (by decide +kernel) rfl
theorem wc_X0_placeOf : Cond.code yX0_placeOf cX0_placeOf 2 (some .int) ∈ LG := lg_mem 483 (by decide +kernel) rfl
theorem mv_X0_59 : MV RX0 59 0 yX0_placeOf cX0_placeOf 2 (some .int) 1 := ⟨⟨TX0, 11, rfl⟩, by decide, lg_mem 480 (by decide +kernel) rfl, wn_X0_placeOf, wl_X0_placeOf, wi_X0, wc_X0_placeOf, by decide, by decide, by decide +kernel⟩
theorem mn_X6_isWithin : MN yX6_isWithin cX6_isWithin 3 (some .boolean) 3 := ⟨wt_X6_isWithin, wi_X6, wc_X6_isWithin, by decide, by decide, by decide +kernel⟩
theorem mv_X0_67 : MV RX0 67 0 yX0_cameFurtherOutThan cX0_cameFurtherOutThan 3 (some .boolean) 1 := ⟨⟨TX0, 11, rfl⟩, by decide, lg_mem 508 (by decide +kernel) rfl, wn_X0_cameFurtherOutThan, wl_X0_cameFurtherOutThan, wi_X0, wc_X0_cameFurtherOutThan, by decide, by decide, by decide +kernel⟩
theorem mm_X0_71 : Cond.methodLink RX0 71 Lib.Math.abs.name ∈ LG ∧ Cond.static Lib.Math.abs.name ∈ LG ∧ Cond.initialized "java/lang/Math" ∈ LG ∧ Cond.code Lib.Math.abs.name Lib.Math.abs.code 1 (some .int) ∈ LG := ⟨lg_mem 512 (by decide +kernel) rfl, lg_mem 513 (by decide +kernel) rfl, lg_mem 59 (by decide +kernel) rfl, lg_mem 514 (by decide +kernel) rfl⟩
theorem fr_X1_9 : FR RX1 9 1 0 true (.array .int) := ⟨RX1, TX1, 3, tyX1, cr_1, by decide, rfl, rfl, lg_mem 305 (by decide +kernel) rfl, fun _ h => by first | exact h.symm | rfl⟩
theorem fr_X1_15 : FR RX1 15 1 1 true (.array .int) := ⟨RX1, TX1, 3, tyX1, cr_1, by decide, rfl, rfl, lg_mem 306 (by decide +kernel) rfl, fun _ h => by first | exact h.symm | rfl⟩
theorem fr_X1_18 : FR RX1 18 1 2 false (.int) := ⟨RX1, TX1, 3, tyX1, cr_1, by decide, rfl, rfl, lg_mem 307 (by decide +kernel) rfl, fun h => by cases h⟩
theorem wt_X1_unitOf : Cond.static yX1_unitOf ∈ LG := lg_mem 639 (by decide +kernel) rfl
theorem wc_X1_unitOf : Cond.code yX1_unitOf cX1_unitOf 1 (some .int) ∈ LG := lg_mem 640 (by decide +kernel) rfl
theorem ms_X1_22 : MS RX1 22 yX1_unitOf cX1_unitOf 1 (some .int) 1 := ⟨lg_mem 638 (by decide +kernel) rfl, wt_X1_unitOf, wi_X1, wc_X1_unitOf, by decide, by decide, by decide +kernel⟩
theorem wn_X1_fitsAny : Cond.instanceMethod yX1_fitsAny ∈ LG := lg_mem 643 (by decide +kernel) rfl
theorem wl_X1_fitsAny : Cond.selects yX1_fitsAny.cls yX1_fitsAny yX1_fitsAny ∈ LG := lg_mem 14 (by decide +kernel) rfl
theorem wc_X1_fitsAny : Cond.code yX1_fitsAny cX1_fitsAny 3 (some .boolean) ∈ LG := lg_mem 644 (by decide +kernel) rfl
theorem mv_X1_26 : MV RX1 26 1 yX1_fitsAny cX1_fitsAny 3 (some .boolean) 1 := ⟨⟨TX1, 3, rfl⟩, by decide, lg_mem 641 (by decide +kernel) rfl, wn_X1_fitsAny, wl_X1_fitsAny, wi_X1, wc_X1_fitsAny, by decide, by decide, by decide +kernel⟩
theorem mv_X1_30 : MV RX1 30 1 yX1_causes cX1_causes 4 (some .int) 1 := ⟨⟨TX1, 3, rfl⟩, by decide, lg_mem 660 (by decide +kernel) rfl, wn_X1_causes, wl_X1_causes, wi_X1, wc_X1_causes, by decide, by decide, by decide +kernel⟩
theorem wt_J6_bitCount_0f7a4 : Cond.static yJ6_bitCount_0f7a4 ∈ LG := lg_mem 662 (by decide +kernel) rfl
theorem wi_J6 : Cond.initialized RJ6 ∈ LG := lg_mem 61 (by decide +kernel) rfl
theorem wc_J6_bitCount_0f7a4 : Cond.code yJ6_bitCount_0f7a4 cJ6_bitCount_0f7a4 1 (some .int) ∈ LG := lg_mem 663 (by decide +kernel) rfl
theorem ms_X1_33 : MS RX1 33 yJ6_bitCount_0f7a4 cJ6_bitCount_0f7a4 1 (some .int) 1 := ⟨lg_mem 661 (by decide +kernel) rfl, wt_J6_bitCount_0f7a4, wi_J6, wc_J6_bitCount_0f7a4, by decide, by decide, by decide +kernel⟩
theorem wt_X1_silentAt : Cond.static yX1_silentAt ∈ LG := lg_mem 668 (by decide +kernel) rfl
theorem wc_X1_silentAt : Cond.code yX1_silentAt cX1_silentAt 4 (some .int) ∈ LG := lg_mem 669 (by decide +kernel) rfl
theorem ms_X1_38 : MS RX1 38 yX1_silentAt cX1_silentAt 4 (some .int) 2 := ⟨lg_mem 667 (by decide +kernel) rfl, wt_X1_silentAt, wi_X1, wc_X1_silentAt, by decide, by decide, by decide +kernel⟩
theorem mm_X1_42 : Cond.methodLink RX1 42 Lib.Math.max.name ∈ LG ∧ Cond.static Lib.Math.max.name ∈ LG ∧ Cond.initialized "java/lang/Math" ∈ LG ∧ Cond.code Lib.Math.max.name Lib.Math.max.code 2 (some .int) ∈ LG := ⟨lg_mem 670 (by decide +kernel) rfl, lg_mem 671 (by decide +kernel) rfl, lg_mem 59 (by decide +kernel) rfl, lg_mem 672 (by decide +kernel) rfl⟩
theorem wn_X1_fits : Cond.instanceMethod yX1_fits ∈ LG := lg_mem 647 (by decide +kernel) rfl
theorem wl_X1_fits : Cond.selects yX1_fits.cls yX1_fits yX1_fits ∈ LG := lg_mem 15 (by decide +kernel) rfl
theorem wc_X1_fits : Cond.code yX1_fits cX1_fits 4 (some .boolean) ∈ LG := lg_mem 648 (by decide +kernel) rfl
theorem mv_X1_47 : MV RX1 47 1 yX1_fits cX1_fits 4 (some .boolean) 2 := ⟨⟨TX1, 3, rfl⟩, by decide, lg_mem 645 (by decide +kernel) rfl, wn_X1_fits, wl_X1_fits, wi_X1, wc_X1_fits, by decide, by decide, by decide +kernel⟩
theorem wt_X1_effect : Cond.static yX1_effect ∈ LG := lg_mem 650 (by decide +kernel) rfl
theorem wc_X1_effect : Cond.code yX1_effect cX1_effect 4 (some .int) ∈ LG := lg_mem 651 (by decide +kernel) rfl
theorem ms_X1_51 : MS RX1 51 yX1_effect cX1_effect 4 (some .int) 3 := ⟨lg_mem 649 (by decide +kernel) rfl, wt_X1_effect, wi_X1, wc_X1_effect, by decide, by decide, by decide +kernel⟩
theorem fr_X2_11 : FR RX2 11 2 0 true (.array (.object "SplicedWeb$Press")) := ⟨RX2, TX2, 3, tyX2, cr_2, by decide, rfl, rfl, lg_mem 288 (by decide +kernel) rfl, fun _ h => by first | exact h.symm | rfl⟩
theorem fr_X2_18 : FR RX2 18 2 1 false (.int) := ⟨RX2, TX2, 3, tyX2, cr_2, by decide, rfl, rfl, lg_mem 289 (by decide +kernel) rfl, fun h => by cases h⟩
theorem mv_X2_22 : MV RX2 22 4 yX4_takeFrom cX4_takeFrom 2 none 1 := ⟨⟨TX4, 14, rfl⟩, by decide, lg_mem 439 (by decide +kernel) rfl, wn_X4_takeFrom, wl_X4_takeFrom, wi_X4, wc_X4_takeFrom, by decide, by decide, by decide +kernel⟩
theorem fr_X2_26 : FR RX2 26 2 2 false (.int) := ⟨RX2, TX2, 3, tyX2, cr_2, by decide, rfl, rfl, lg_mem 290 (by decide +kernel) rfl, fun h => by cases h⟩
theorem mm_X2_29 : Cond.methodLink RX2 29 Lib.Math.min.name ∈ LG ∧ Cond.static Lib.Math.min.name ∈ LG ∧ Cond.initialized "java/lang/Math" ∈ LG ∧ Cond.code Lib.Math.min.name Lib.Math.min.code 2 (some .int) ∈ LG := ⟨lg_mem 451 (by decide +kernel) rfl, lg_mem 393 (by decide +kernel) rfl, lg_mem 59 (by decide +kernel) rfl, lg_mem 394 (by decide +kernel) rfl⟩
theorem fr_X3_9 : FR RX3 9 3 0 true (.array .int) := ⟨RX3, TX3, 10, tyX3, cr_3, by decide, rfl, rfl, lg_mem 110 (by decide +kernel) rfl, fun _ h => by first | exact h.symm | rfl⟩
theorem fr_X3_15 : FR RX3 15 3 1 true (.array .int) := ⟨RX3, TX3, 10, tyX3, cr_3, by decide, rfl, rfl, lg_mem 113 (by decide +kernel) rfl, fun _ h => by first | exact h.symm | rfl⟩
theorem fr_X3_18 : FR RX3 18 3 2 true (.array .int) := ⟨RX3, TX3, 10, tyX3, cr_3, by decide, rfl, rfl, lg_mem 116 (by decide +kernel) rfl, fun _ h => by first | exact h.symm | rfl⟩
theorem fr_X3_21 : FR RX3 21 3 3 true (.array .int) := ⟨RX3, TX3, 10, tyX3, cr_3, by decide, rfl, rfl, lg_mem 119 (by decide +kernel) rfl, fun _ h => by first | exact h.symm | rfl⟩
theorem wn_X3_setAsAtFirst : Cond.instanceMethod yX3_setAsAtFirst ∈ LG := lg_mem 107 (by decide +kernel) rfl
theorem wl_X3_setAsAtFirst : Cond.selects yX3_setAsAtFirst.cls yX3_setAsAtFirst yX3_setAsAtFirst ∈ LG := lg_mem 108 (by decide +kernel) rfl
theorem wc_X3_setAsAtFirst : Cond.code yX3_setAsAtFirst cX3_setAsAtFirst 1 none ∈ LG := lg_mem 109 (by decide +kernel) rfl
theorem mv_X3_24 : MV RX3 24 3 yX3_setAsAtFirst cX3_setAsAtFirst 1 none 0 := ⟨⟨TX3, 10, rfl⟩, by decide, lg_mem 106 (by decide +kernel) rfl, wn_X3_setAsAtFirst, wl_X3_setAsAtFirst, wi_X3, wc_X3_setAsAtFirst, by decide, by decide, by decide +kernel⟩
theorem fr_X3_27 : FR RX3 27 3 4 false (.int) := ⟨RX3, TX3, 10, tyX3, cr_3, by decide, rfl, rfl, lg_mem 122 (by decide +kernel) rfl, fun h => by cases h⟩
theorem fr_X3_31 : FR RX3 31 3 5 false (.int) := ⟨RX3, TX3, 10, tyX3, cr_3, by decide, rfl, rfl, lg_mem 126 (by decide +kernel) rfl, fun h => by cases h⟩
theorem fr_X3_34 : FR RX3 34 3 6 false (.int) := ⟨RX3, TX3, 10, tyX3, cr_3, by decide, rfl, rfl, lg_mem 130 (by decide +kernel) rfl, fun h => by cases h⟩
theorem fr_X3_37 : FR RX3 37 3 7 false (.int) := ⟨RX3, TX3, 10, tyX3, cr_3, by decide, rfl, rfl, lg_mem 133 (by decide +kernel) rfl, fun h => by cases h⟩
theorem fr_X3_40 : FR RX3 40 3 8 false (.int) := ⟨RX3, TX3, 10, tyX3, cr_3, by decide, rfl, rfl, lg_mem 137 (by decide +kernel) rfl, fun h => by cases h⟩
theorem fr_X3_43 : FR RX3 43 3 9 false (.int) := ⟨RX3, TX3, 10, tyX3, cr_3, by decide, rfl, rfl, lg_mem 141 (by decide +kernel) rfl, fun h => by cases h⟩
theorem fr_X4_9 : FR RX4 9 4 0 true (.array .int) := ⟨RX4, TX4, 14, tyX4, cr_4, by decide, rfl, rfl, lg_mem 223 (by decide +kernel) rfl, fun _ h => by first | exact h.symm | rfl⟩
theorem fr_X4_15 : FR RX4 15 4 1 true (.array .int) := ⟨RX4, TX4, 14, tyX4, cr_4, by decide, rfl, rfl, lg_mem 225 (by decide +kernel) rfl, fun _ h => by first | exact h.symm | rfl⟩
theorem fr_X4_18 : FR RX4 18 4 2 true (.array .int) := ⟨RX4, TX4, 14, tyX4, cr_4, by decide, rfl, rfl, lg_mem 227 (by decide +kernel) rfl, fun _ h => by first | exact h.symm | rfl⟩
theorem fr_X4_21 : FR RX4 21 4 3 true (.array .int) := ⟨RX4, TX4, 14, tyX4, cr_4, by decide, rfl, rfl, lg_mem 229 (by decide +kernel) rfl, fun _ h => by first | exact h.symm | rfl⟩
theorem wn_X0_init : Cond.instanceMethod yX0_init ∈ LG := lg_mem 175 (by decide +kernel) rfl
theorem wc_X0_init : Cond.code yX0_init cX0_init 1 none ∈ LG := lg_mem 176 (by decide +kernel) rfl
theorem mi_X0_init : MI yX0_init cX0_init 1 0 := ⟨wn_X0_init, wi_X0, wc_X0_init, by decide, by decide, by decide +kernel, rfl⟩
theorem fr_X4_27 : FR RX4 27 4 4 true (.object "SplicedWeb$Band") := ⟨RX4, TX4, 14, tyX4, cr_4, by decide, rfl, rfl, lg_mem 230 (by decide +kernel) rfl, fun _ h => by first | exact h.symm | rfl⟩
theorem ms_X4_31 : MS RX4 31 yJ7_fill_53178 cJ7_fill_53178 4 none 2 := ⟨lg_mem 321 (by decide +kernel) rfl, wt_J7_fill_53178, wi_J7, wc_J7_fill_53178, by decide, by decide, by decide +kernel⟩
theorem wn_X0_setAsAtFirst : Cond.instanceMethod yX0_setAsAtFirst ∈ LG := lg_mem 325 (by decide +kernel) rfl
theorem wl_X0_setAsAtFirst : Cond.selects yX0_setAsAtFirst.cls yX0_setAsAtFirst yX0_setAsAtFirst ∈ LG := lg_mem 326 (by decide +kernel) rfl
theorem wc_X0_setAsAtFirst : Cond.code yX0_setAsAtFirst cX0_setAsAtFirst 1 none ∈ LG := lg_mem 327 (by decide +kernel) rfl
theorem mv_X4_37 : MV RX4 37 0 yX0_setAsAtFirst cX0_setAsAtFirst 1 none 0 := ⟨⟨TX0, 11, rfl⟩, by decide, lg_mem 324 (by decide +kernel) rfl, wn_X0_setAsAtFirst, wl_X0_setAsAtFirst, wi_X0, wc_X0_setAsAtFirst, by decide, by decide, by decide +kernel⟩
theorem fr_X4_40 : FR RX4 40 3 5 false (.int) := ⟨RX3, TX3, 10, tyX3, cr_3, by decide, rfl, rfl, lg_mem 127 (by decide +kernel) rfl, fun h => by cases h⟩
theorem fr_X4_46 : FR RX4 46 4 5 false (.int) := ⟨RX4, TX4, 14, tyX4, cr_4, by decide, rfl, rfl, lg_mem 232 (by decide +kernel) rfl, fun h => by cases h⟩
theorem fr_X4_49 : FR RX4 49 3 2 true (.array .int) := ⟨RX3, TX3, 10, tyX3, cr_3, by decide, rfl, rfl, lg_mem 117 (by decide +kernel) rfl, fun _ h => by first | exact h.symm | rfl⟩
theorem fr_X4_52 : FR RX4 52 4 6 false (.int) := ⟨RX4, TX4, 14, tyX4, cr_4, by decide, rfl, rfl, lg_mem 234 (by decide +kernel) rfl, fun h => by cases h⟩
theorem fr_X4_55 : FR RX4 55 4 7 false (.int) := ⟨RX4, TX4, 14, tyX4, cr_4, by decide, rfl, rfl, lg_mem 236 (by decide +kernel) rfl, fun h => by cases h⟩
theorem fr_X4_58 : FR RX4 58 4 8 false (.boolean) := ⟨RX4, TX4, 14, tyX4, cr_4, by decide, rfl, rfl, lg_mem 238 (by decide +kernel) rfl, fun h => by cases h⟩
theorem fr_X4_62 : FR RX4 62 4 9 false (.boolean) := ⟨RX4, TX4, 14, tyX4, cr_4, by decide, rfl, rfl, lg_mem 240 (by decide +kernel) rfl, fun h => by cases h⟩
theorem fr_X4_65 : FR RX4 65 4 10 false (.int) := ⟨RX4, TX4, 14, tyX4, cr_4, by decide, rfl, rfl, lg_mem 242 (by decide +kernel) rfl, fun h => by cases h⟩
theorem fr_X4_68 : FR RX4 68 4 11 false (.int) := ⟨RX4, TX4, 14, tyX4, cr_4, by decide, rfl, rfl, lg_mem 244 (by decide +kernel) rfl, fun h => by cases h⟩
theorem fr_X4_71 : FR RX4 71 4 12 false (.int) := ⟨RX4, TX4, 14, tyX4, cr_4, by decide, rfl, rfl, lg_mem 246 (by decide +kernel) rfl, fun h => by cases h⟩
theorem fr_X4_74 : FR RX4 74 4 13 false (.int) := ⟨RX4, TX4, 14, tyX4, cr_4, by decide, rfl, rfl, lg_mem 248 (by decide +kernel) rfl, fun h => by cases h⟩
theorem wk_X4_77 : Cond.methodLink RX4 77 arraycopyName ∈ LG := lg_mem 443 (by decide +kernel) rfl
theorem wn_X0_takeFrom : Cond.instanceMethod yX0_takeFrom ∈ LG := lg_mem 447 (by decide +kernel) rfl
theorem wl_X0_takeFrom : Cond.selects yX0_takeFrom.cls yX0_takeFrom yX0_takeFrom ∈ LG := lg_mem 448 (by decide +kernel) rfl
theorem wc_X0_takeFrom : Cond.code yX0_takeFrom cX0_takeFrom 2 none ∈ LG := lg_mem 449 (by decide +kernel) rfl
theorem mv_X4_83 : MV RX4 83 0 yX0_takeFrom cX0_takeFrom 2 none 1 := ⟨⟨TX0, 11, rfl⟩, by decide, lg_mem 446 (by decide +kernel) rfl, wn_X0_takeFrom, wl_X0_takeFrom, wi_X0, wc_X0_takeFrom, by decide, by decide, by decide +kernel⟩
theorem mv_X4_87 : MV RX4 87 3 yX3_hasReel cX3_hasReel 2 (some .boolean) 1 := ⟨⟨TX3, 10, rfl⟩, by decide, lg_mem 464 (by decide +kernel) rfl, wn_X3_hasReel, wl_X3_hasReel, wi_X3, wc_X3_hasReel, by decide, by decide, by decide +kernel⟩
theorem wt_X4_passPlace : Cond.static yX4_passPlace ∈ LG := lg_mem 489 (by decide +kernel) rfl
theorem wc_X4_passPlace : Cond.code yX4_passPlace cX4_passPlace 2 (some .int) ∈ LG := lg_mem 490 (by decide +kernel) rfl
theorem ms_X4_91 : MS RX4 91 yX4_passPlace cX4_passPlace 2 (some .int) 2 := ⟨lg_mem 488 (by decide +kernel) rfl, wt_X4_passPlace, wi_X4, wc_X4_passPlace, by decide, by decide, by decide +kernel⟩
theorem mv_X4_95 : MV RX4 95 3 yX3_isMovable cX3_isMovable 2 (some .boolean) 1 := ⟨⟨TX3, 10, rfl⟩, by decide, lg_mem 524 (by decide +kernel) rfl, wn_X3_isMovable, wl_X3_isMovable, wi_X3, wc_X3_isMovable, by decide, by decide, by decide +kernel⟩
theorem wn_X3_ticksToCameraFrom : Cond.instanceMethod yX3_ticksToCameraFrom ∈ LG := lg_mem 497 (by decide +kernel) rfl
theorem wl_X3_ticksToCameraFrom : Cond.selects yX3_ticksToCameraFrom.cls yX3_ticksToCameraFrom yX3_ticksToCameraFrom ∈ LG := lg_mem 498 (by decide +kernel) rfl
theorem wc_X3_ticksToCameraFrom : Cond.code yX3_ticksToCameraFrom cX3_ticksToCameraFrom 2 (some .int) ∈ LG := lg_mem 499 (by decide +kernel) rfl
theorem mv_X4_98 : MV RX4 98 3 yX3_ticksToCameraFrom cX3_ticksToCameraFrom 2 (some .int) 1 := ⟨⟨TX3, 10, rfl⟩, by decide, lg_mem 496 (by decide +kernel) rfl, wn_X3_ticksToCameraFrom, wl_X3_ticksToCameraFrom, wi_X3, wc_X3_ticksToCameraFrom, by decide, by decide, by decide +kernel⟩
theorem mv_X4_102 : MV RX4 102 3 yX3_hasUnit cX3_hasUnit 2 (some .boolean) 1 := ⟨⟨TX3, 10, rfl⟩, by decide, lg_mem 528 (by decide +kernel) rfl, wn_X3_hasUnit, wl_X3_hasUnit, wi_X3, wc_X3_hasUnit, by decide, by decide, by decide +kernel⟩
theorem fr_X4_105 : FR RX4 105 3 0 true (.array .int) := ⟨RX3, TX3, 10, tyX3, cr_3, by decide, rfl, rfl, lg_mem 111 (by decide +kernel) rfl, fun _ h => by first | exact h.symm | rfl⟩
theorem mv_X4_108 : MV RX4 108 4 yX4_tick cX4_tick 4 (some .boolean) 1 := ⟨⟨TX4, 14, rfl⟩, by decide, lg_mem 613 (by decide +kernel) rfl, wn_X4_tick, wl_X4_tick, wi_X4, wc_X4_tick, by decide, by decide, by decide +kernel⟩
theorem wn_X4_canPaste : Cond.instanceMethod yX4_canPaste ∈ LG := lg_mem 458 (by decide +kernel) rfl
theorem wl_X4_canPaste : Cond.selects yX4_canPaste.cls yX4_canPaste yX4_canPaste ∈ LG := lg_mem 7 (by decide +kernel) rfl
theorem wc_X4_canPaste : Cond.code yX4_canPaste cX4_canPaste 2 (some .boolean) ∈ LG := lg_mem 459 (by decide +kernel) rfl
theorem mv_X4_112 : MV RX4 112 4 yX4_canPaste cX4_canPaste 2 (some .boolean) 1 := ⟨⟨TX4, 14, rfl⟩, by decide, lg_mem 456 (by decide +kernel) rfl, wn_X4_canPaste, wl_X4_canPaste, wi_X4, wc_X4_canPaste, by decide, by decide, by decide +kernel⟩
theorem wn_X4_breakOff : Cond.instanceMethod yX4_breakOff ∈ LG := lg_mem 470 (by decide +kernel) rfl
theorem wl_X4_breakOff : Cond.selects yX4_breakOff.cls yX4_breakOff yX4_breakOff ∈ LG := lg_mem 8 (by decide +kernel) rfl
theorem wc_X4_breakOff : Cond.code yX4_breakOff cX4_breakOff 1 none ∈ LG := lg_mem 471 (by decide +kernel) rfl
theorem mv_X4_115 : MV RX4 115 4 yX4_breakOff cX4_breakOff 1 none 0 := ⟨⟨TX4, 14, rfl⟩, by decide, lg_mem 468 (by decide +kernel) rfl, wn_X4_breakOff, wl_X4_breakOff, wi_X4, wc_X4_breakOff, by decide, by decide, by decide +kernel⟩
theorem wn_X4_mountNext : Cond.instanceMethod yX4_mountNext ∈ LG := lg_mem 474 (by decide +kernel) rfl
theorem wl_X4_mountNext : Cond.selects yX4_mountNext.cls yX4_mountNext yX4_mountNext ∈ LG := lg_mem 9 (by decide +kernel) rfl
theorem wc_X4_mountNext : Cond.code yX4_mountNext cX4_mountNext 3 none ∈ LG := lg_mem 475 (by decide +kernel) rfl
theorem mv_X4_118 : MV RX4 118 4 yX4_mountNext cX4_mountNext 3 none 1 := ⟨⟨TX4, 14, rfl⟩, by decide, lg_mem 472 (by decide +kernel) rfl, wn_X4_mountNext, wl_X4_mountNext, wi_X4, wc_X4_mountNext, by decide, by decide, by decide +kernel⟩
theorem fr_X4_122 : FR RX4 122 3 3 true (.array .int) := ⟨RX3, TX3, 10, tyX3, cr_3, by decide, rfl, rfl, lg_mem 120 (by decide +kernel) rfl, fun _ h => by first | exact h.symm | rfl⟩
theorem wn_X0_begin : Cond.instanceMethod yX0_begin ∈ LG := lg_mem 477 (by decide +kernel) rfl
theorem wl_X0_begin : Cond.selects yX0_begin.cls yX0_begin yX0_begin ∈ LG := lg_mem 478 (by decide +kernel) rfl
theorem wc_X0_begin : Cond.code yX0_begin cX0_begin 4 none ∈ LG := lg_mem 479 (by decide +kernel) rfl
theorem mv_X4_125 : MV RX4 125 0 yX0_begin cX0_begin 4 none 2 := ⟨⟨TX0, 11, rfl⟩, by decide, lg_mem 476 (by decide +kernel) rfl, wn_X0_begin, wl_X0_begin, wi_X0, wc_X0_begin, by decide, by decide, by decide +kernel⟩
theorem wn_X4_print : Cond.instanceMethod yX4_print ∈ LG := lg_mem 486 (by decide +kernel) rfl
theorem wl_X4_print : Cond.selects yX4_print.cls yX4_print yX4_print ∈ LG := lg_mem 11 (by decide +kernel) rfl
theorem wc_X4_print : Cond.code yX4_print cX4_print 4 none ∈ LG := lg_mem 487 (by decide +kernel) rfl
theorem mv_X4_129 : MV RX4 129 4 yX4_print cX4_print 4 none 1 := ⟨⟨TX4, 14, rfl⟩, by decide, lg_mem 484 (by decide +kernel) rfl, wn_X4_print, wl_X4_print, wi_X4, wc_X4_print, by decide, by decide, by decide +kernel⟩
theorem fr_X4_132 : FR RX4 132 0 5 false (.int) := ⟨RX0, TX0, 11, tyX0, cr_0, by decide, rfl, rfl, lg_mem 185 (by decide +kernel) rfl, fun h => by cases h⟩
theorem wn_X4_judge : Cond.instanceMethod yX4_judge ∈ LG := lg_mem 502 (by decide +kernel) rfl
theorem wl_X4_judge : Cond.selects yX4_judge.cls yX4_judge yX4_judge ∈ LG := lg_mem 12 (by decide +kernel) rfl
theorem wc_X4_judge : Cond.code yX4_judge cX4_judge 2 none ∈ LG := lg_mem 503 (by decide +kernel) rfl
theorem mv_X4_135 : MV RX4 135 4 yX4_judge cX4_judge 2 none 1 := ⟨⟨TX4, 14, rfl⟩, by decide, lg_mem 500 (by decide +kernel) rfl, wn_X4_judge, wl_X4_judge, wi_X4, wc_X4_judge, by decide, by decide, by decide +kernel⟩
theorem wn_X4_adjust : Cond.instanceMethod yX4_adjust ∈ LG := lg_mem 517 (by decide +kernel) rfl
theorem wl_X4_adjust : Cond.selects yX4_adjust.cls yX4_adjust yX4_adjust ∈ LG := lg_mem 13 (by decide +kernel) rfl
theorem wc_X4_adjust : Cond.code yX4_adjust cX4_adjust 4 none ∈ LG := lg_mem 518 (by decide +kernel) rfl
theorem mv_X4_138 : MV RX4 138 4 yX4_adjust cX4_adjust 4 none 1 := ⟨⟨TX4, 14, rfl⟩, by decide, lg_mem 515 (by decide +kernel) rfl, wn_X4_adjust, wl_X4_adjust, wi_X4, wc_X4_adjust, by decide, by decide, by decide +kernel⟩
theorem mv_X4_141 : MV RX4 141 4 yX4_nextReel cX4_nextReel 2 (some .int) 1 := ⟨⟨TX4, 14, rfl⟩, by decide, lg_mem 460 (by decide +kernel) rfl, wn_X4_nextReel, wl_X4_nextReel, wi_X4, wc_X4_nextReel, by decide, by decide, by decide +kernel⟩
theorem fr_X4_145 : FR RX4 145 3 9 false (.int) := ⟨RX3, TX3, 10, tyX3, cr_3, by decide, rfl, rfl, lg_mem 143 (by decide +kernel) rfl, fun h => by cases h⟩
theorem fr_X4_148 : FR RX4 148 3 4 false (.int) := ⟨RX3, TX3, 10, tyX3, cr_3, by decide, rfl, rfl, lg_mem 124 (by decide +kernel) rfl, fun h => by cases h⟩
theorem fr_X4_151 : FR RX4 151 3 1 true (.array .int) := ⟨RX3, TX3, 10, tyX3, cr_3, by decide, rfl, rfl, lg_mem 115 (by decide +kernel) rfl, fun _ h => by first | exact h.symm | rfl⟩
theorem wn_X0_print : Cond.instanceMethod yX0_print ∈ LG := lg_mem 492 (by decide +kernel) rfl
theorem wl_X0_print : Cond.selects yX0_print.cls yX0_print yX0_print ∈ LG := lg_mem 493 (by decide +kernel) rfl
theorem wc_X0_print : Cond.code yX0_print cX0_print 6 none ∈ LG := lg_mem 494 (by decide +kernel) rfl
theorem mv_X4_154 : MV RX4 154 0 yX0_print cX0_print 6 none 4 := ⟨⟨TX0, 11, rfl⟩, by decide, lg_mem 491 (by decide +kernel) rfl, wn_X0_print, wl_X0_print, wi_X0, wc_X0_print, by decide, by decide, by decide +kernel⟩
theorem fr_X4_157 : FR RX4 157 3 7 false (.int) := ⟨RX3, TX3, 10, tyX3, cr_3, by decide, rfl, rfl, lg_mem 135 (by decide +kernel) rfl, fun h => by cases h⟩
theorem wn_X0_come : Cond.instanceMethod yX0_come ∈ LG := lg_mem 505 (by decide +kernel) rfl
theorem wl_X0_come : Cond.selects yX0_come.cls yX0_come yX0_come ∈ LG := lg_mem 506 (by decide +kernel) rfl
theorem wc_X0_come : Cond.code yX0_come cX0_come 3 none ∈ LG := lg_mem 507 (by decide +kernel) rfl
theorem mv_X4_160 : MV RX4 160 0 yX0_come cX0_come 3 none 1 := ⟨⟨TX0, 11, rfl⟩, by decide, lg_mem 504 (by decide +kernel) rfl, wn_X0_come, wl_X0_come, wi_X0, wc_X0_come, by decide, by decide, by decide +kernel⟩
theorem fr_X4_164 : FR RX4 164 0 9 false (.boolean) := ⟨RX0, TX0, 11, tyX0, cr_0, by decide, rfl, rfl, lg_mem 196 (by decide +kernel) rfl, fun h => by cases h⟩
theorem fr_X4_167 : FR RX4 167 0 10 true (.array .int) := ⟨RX0, TX0, 11, tyX0, cr_0, by decide, rfl, rfl, lg_mem 199 (by decide +kernel) rfl, fun _ h => by first | exact h.symm | rfl⟩
theorem mm_X4_170 : Cond.methodLink RX4 170 Lib.Math.abs.name ∈ LG ∧ Cond.static Lib.Math.abs.name ∈ LG ∧ Cond.initialized "java/lang/Math" ∈ LG ∧ Cond.code Lib.Math.abs.name Lib.Math.abs.code 1 (some .int) ∈ LG := ⟨lg_mem 519 (by decide +kernel) rfl, lg_mem 513 (by decide +kernel) rfl, lg_mem 59 (by decide +kernel) rfl, lg_mem 514 (by decide +kernel) rfl⟩
theorem fr_X4_175 : FR RX4 175 3 8 false (.int) := ⟨RX3, TX3, 10, tyX3, cr_3, by decide, rfl, rfl, lg_mem 140 (by decide +kernel) rfl, fun h => by cases h⟩
theorem fr_X4_178 : FR RX4 178 0 8 false (.boolean) := ⟨RX0, TX0, 11, tyX0, cr_0, by decide, rfl, rfl, lg_mem 193 (by decide +kernel) rfl, fun h => by cases h⟩
theorem mv_X4_181 : MV RX4 181 4 yX4_correct cX4_correct 5 none 3 := ⟨⟨TX4, 14, rfl⟩, by decide, lg_mem 520 (by decide +kernel) rfl, wn_X4_correct, wl_X4_correct, wi_X4, wc_X4_correct, by decide, by decide, by decide +kernel⟩
theorem fr_X5_9 : FR RX5 9 5 0 true (.array .int) := ⟨RX5, TX5, 7, tyX5, cr_5, by decide, rfl, rfl, lg_mem 76 (by decide +kernel) rfl, fun _ h => by first | exact h.symm | rfl⟩
theorem fr_X5_15 : FR RX5 15 5 1 false (.int) := ⟨RX5, TX5, 7, tyX5, cr_5, by decide, rfl, rfl, lg_mem 77 (by decide +kernel) rfl, fun h => by cases h⟩
theorem mv_X5_19 : MV RX5 19 3 yX3_setAsAtFirst cX3_setAsAtFirst 1 none 0 := ⟨⟨TX3, 10, rfl⟩, by decide, lg_mem 380 (by decide +kernel) rfl, wn_X3_setAsAtFirst, wl_X3_setAsAtFirst, wi_X3, wc_X3_setAsAtFirst, by decide, by decide, by decide +kernel⟩
theorem fr_X5_24 : FR RX5 24 5 2 false (.int) := ⟨RX5, TX5, 7, tyX5, cr_5, by decide, rfl, rfl, lg_mem 79 (by decide +kernel) rfl, fun h => by cases h⟩
theorem fr_X5_27 : FR RX5 27 5 6 false (.int) := ⟨RX5, TX5, 7, tyX5, cr_5, by decide, rfl, rfl, lg_mem 83 (by decide +kernel) rfl, fun h => by cases h⟩
theorem wn_X5_stepOn : Cond.instanceMethod yX5_stepOn ∈ LG := lg_mem 383 (by decide +kernel) rfl
theorem wl_X5_stepOn : Cond.selects yX5_stepOn.cls yX5_stepOn yX5_stepOn ∈ LG := lg_mem 0 (by decide +kernel) rfl
theorem wc_X5_stepOn : Cond.code yX5_stepOn cX5_stepOn 1 none ∈ LG := lg_mem 384 (by decide +kernel) rfl
theorem mv_X5_30 : MV RX5 30 5 yX5_stepOn cX5_stepOn 1 none 0 := ⟨⟨TX5, 7, rfl⟩, by decide, lg_mem 381 (by decide +kernel) rfl, wn_X5_stepOn, wl_X5_stepOn, wi_X5, wc_X5_stepOn, by decide, by decide, by decide +kernel⟩
theorem fr_X5_33 : FR RX5 33 5 4 false (.int) := ⟨RX5, TX5, 7, tyX5, cr_5, by decide, rfl, rfl, lg_mem 81 (by decide +kernel) rfl, fun h => by cases h⟩
theorem wn_X5_readItem : Cond.instanceMethod yX5_readItem ∈ LG := lg_mem 397 (by decide +kernel) rfl
theorem wl_X5_readItem : Cond.selects yX5_readItem.cls yX5_readItem yX5_readItem ∈ LG := lg_mem 2 (by decide +kernel) rfl
theorem wc_X5_readItem : Cond.code yX5_readItem cX5_readItem 4 (some .boolean) ∈ LG := lg_mem 398 (by decide +kernel) rfl
theorem mv_X5_36 : MV RX5 36 5 yX5_readItem cX5_readItem 4 (some .boolean) 1 := ⟨⟨TX5, 7, rfl⟩, by decide, lg_mem 395 (by decide +kernel) rfl, wn_X5_readItem, wl_X5_readItem, wi_X5, wc_X5_readItem, by decide, by decide, by decide +kernel⟩
theorem fr_X5_40 : FR RX5 40 5 3 false (.int) := ⟨RX5, TX5, 7, tyX5, cr_5, by decide, rfl, rfl, lg_mem 80 (by decide +kernel) rfl, fun h => by cases h⟩
theorem wn_X5_mayBegin : Cond.instanceMethod yX5_mayBegin ∈ LG := lg_mem 401 (by decide +kernel) rfl
theorem wl_X5_mayBegin : Cond.selects yX5_mayBegin.cls yX5_mayBegin yX5_mayBegin ∈ LG := lg_mem 3 (by decide +kernel) rfl
theorem wc_X5_mayBegin : Cond.code yX5_mayBegin cX5_mayBegin 4 (some .boolean) ∈ LG := lg_mem 402 (by decide +kernel) rfl
theorem mv_X5_43 : MV RX5 43 5 yX5_mayBegin cX5_mayBegin 4 (some .boolean) 2 := ⟨⟨TX5, 7, rfl⟩, by decide, lg_mem 399 (by decide +kernel) rfl, wn_X5_mayBegin, wl_X5_mayBegin, wi_X5, wc_X5_mayBegin, by decide, by decide, by decide +kernel⟩
theorem wn_X5_readReel : Cond.instanceMethod yX5_readReel ∈ LG := lg_mem 408 (by decide +kernel) rfl
theorem wl_X5_readReel : Cond.selects yX5_readReel.cls yX5_readReel yX5_readReel ∈ LG := lg_mem 4 (by decide +kernel) rfl
theorem wc_X5_readReel : Cond.code yX5_readReel cX5_readReel 5 (some .boolean) ∈ LG := lg_mem 409 (by decide +kernel) rfl
theorem mv_X5_47 : MV RX5 47 5 yX5_readReel cX5_readReel 5 (some .boolean) 1 := ⟨⟨TX5, 7, rfl⟩, by decide, lg_mem 406 (by decide +kernel) rfl, wn_X5_readReel, wl_X5_readReel, wi_X5, wc_X5_readReel, by decide, by decide, by decide +kernel⟩
theorem wn_X5_readSetting : Cond.instanceMethod yX5_readSetting ∈ LG := lg_mem 422 (by decide +kernel) rfl
theorem wl_X5_readSetting : Cond.selects yX5_readSetting.cls yX5_readSetting yX5_readSetting ∈ LG := lg_mem 6 (by decide +kernel) rfl
theorem wc_X5_readSetting : Cond.code yX5_readSetting cX5_readSetting 5 (some .boolean) ∈ LG := lg_mem 423 (by decide +kernel) rfl
theorem mv_X5_50 : MV RX5 50 5 yX5_readSetting cX5_readSetting 5 (some .boolean) 2 := ⟨⟨TX5, 7, rfl⟩, by decide, lg_mem 420 (by decide +kernel) rfl, wn_X5_readSetting, wl_X5_readSetting, wi_X5, wc_X5_readSetting, by decide, by decide, by decide +kernel⟩
theorem fr_X5_53 : FR RX5 53 3 4 false (.int) := ⟨RX3, TX3, 10, tyX3, cr_3, by decide, rfl, rfl, lg_mem 123 (by decide +kernel) rfl, fun h => by cases h⟩
theorem fr_X5_56 : FR RX5 56 3 5 false (.int) := ⟨RX3, TX3, 10, tyX3, cr_3, by decide, rfl, rfl, lg_mem 128 (by decide +kernel) rfl, fun h => by cases h⟩
theorem wt_X5_onceBit : Cond.static yX5_onceBit ∈ LG := lg_mem 404 (by decide +kernel) rfl
theorem wc_X5_onceBit : Cond.code yX5_onceBit cX5_onceBit 1 (some .int) ∈ LG := lg_mem 405 (by decide +kernel) rfl
theorem ms_X5_59 : MS RX5 59 yX5_onceBit cX5_onceBit 1 (some .int) 1 := ⟨lg_mem 403 (by decide +kernel) rfl, wt_X5_onceBit, wi_X5, wc_X5_onceBit, by decide, by decide, by decide +kernel⟩
theorem wn_X5_takeNumber : Cond.instanceMethod yX5_takeNumber ∈ LG := lg_mem 412 (by decide +kernel) rfl
theorem wl_X5_takeNumber : Cond.selects yX5_takeNumber.cls yX5_takeNumber yX5_takeNumber ∈ LG := lg_mem 5 (by decide +kernel) rfl
theorem wc_X5_takeNumber : Cond.code yX5_takeNumber cX5_takeNumber 4 (some .int) ∈ LG := lg_mem 413 (by decide +kernel) rfl
theorem mv_X5_63 : MV RX5 63 5 yX5_takeNumber cX5_takeNumber 4 (some .int) 2 := ⟨⟨TX5, 7, rfl⟩, by decide, lg_mem 410 (by decide +kernel) rfl, wn_X5_takeNumber, wl_X5_takeNumber, wi_X5, wc_X5_takeNumber, by decide, by decide, by decide +kernel⟩
theorem wn_X3_addReel : Cond.instanceMethod yX3_addReel ∈ LG := lg_mem 416 (by decide +kernel) rfl
theorem wl_X3_addReel : Cond.selects yX3_addReel.cls yX3_addReel yX3_addReel ∈ LG := lg_mem 417 (by decide +kernel) rfl
theorem wc_X3_addReel : Cond.code yX3_addReel cX3_addReel 3 none ∈ LG := lg_mem 418 (by decide +kernel) rfl
theorem mv_X5_67 : MV RX5 67 3 yX3_addReel cX3_addReel 3 none 2 := ⟨⟨TX3, 10, rfl⟩, by decide, lg_mem 415 (by decide +kernel) rfl, wn_X3_addReel, wl_X3_addReel, wi_X3, wc_X3_addReel, by decide, by decide, by decide +kernel⟩
theorem wt_X5_highest : Cond.static yX5_highest ∈ LG := lg_mem 425 (by decide +kernel) rfl
theorem wc_X5_highest : Cond.code yX5_highest cX5_highest 1 (some .int) ∈ LG := lg_mem 426 (by decide +kernel) rfl
theorem ms_X5_71 : MS RX5 71 yX5_highest cX5_highest 1 (some .int) 1 := ⟨lg_mem 424 (by decide +kernel) rfl, wt_X5_highest, wi_X5, wc_X5_highest, by decide, by decide, by decide +kernel⟩
theorem wn_X3_addUnit : Cond.instanceMethod yX3_addUnit ∈ LG := lg_mem 428 (by decide +kernel) rfl
theorem wl_X3_addUnit : Cond.selects yX3_addUnit.cls yX3_addUnit yX3_addUnit ∈ LG := lg_mem 429 (by decide +kernel) rfl
theorem wc_X3_addUnit : Cond.code yX3_addUnit cX3_addUnit 2 none ∈ LG := lg_mem 430 (by decide +kernel) rfl
theorem mv_X5_74 : MV RX5 74 3 yX3_addUnit cX3_addUnit 2 none 1 := ⟨⟨TX3, 10, rfl⟩, by decide, lg_mem 427 (by decide +kernel) rfl, wn_X3_addUnit, wl_X3_addUnit, wi_X3, wc_X3_addUnit, by decide, by decide, by decide +kernel⟩
theorem fr_X5_78 : FR RX5 78 3 6 false (.int) := ⟨RX3, TX3, 10, tyX3, cr_3, by decide, rfl, rfl, lg_mem 131 (by decide +kernel) rfl, fun h => by cases h⟩
theorem fr_X5_81 : FR RX5 81 3 7 false (.int) := ⟨RX3, TX3, 10, tyX3, cr_3, by decide, rfl, rfl, lg_mem 134 (by decide +kernel) rfl, fun h => by cases h⟩
theorem fr_X5_84 : FR RX5 84 3 8 false (.int) := ⟨RX3, TX3, 10, tyX3, cr_3, by decide, rfl, rfl, lg_mem 138 (by decide +kernel) rfl, fun h => by cases h⟩
theorem fr_X5_87 : FR RX5 87 3 9 false (.int) := ⟨RX3, TX3, 10, tyX3, cr_3, by decide, rfl, rfl, lg_mem 142 (by decide +kernel) rfl, fun h => by cases h⟩
theorem fr_X5_90 : FR RX5 90 5 5 false (.int) := ⟨RX5, TX5, 7, tyX5, cr_5, by decide, rfl, rfl, lg_mem 82 (by decide +kernel) rfl, fun h => by cases h⟩
theorem wt_X5_isFigure : Cond.static yX5_isFigure ∈ LG := lg_mem 386 (by decide +kernel) rfl
theorem wc_X5_isFigure : Cond.code yX5_isFigure cX5_isFigure 1 (some .boolean) ∈ LG := lg_mem 387 (by decide +kernel) rfl
theorem ms_X5_97 : MS RX5 97 yX5_isFigure cX5_isFigure 1 (some .boolean) 1 := ⟨lg_mem 385 (by decide +kernel) rfl, wt_X5_isFigure, wi_X5, wc_X5_isFigure, by decide, by decide, by decide +kernel⟩
theorem wn_X5_stepOverNumber : Cond.instanceMethod yX5_stepOverNumber ∈ LG := lg_mem 390 (by decide +kernel) rfl
theorem wl_X5_stepOverNumber : Cond.selects yX5_stepOverNumber.cls yX5_stepOverNumber yX5_stepOverNumber ∈ LG := lg_mem 1 (by decide +kernel) rfl
theorem wc_X5_stepOverNumber : Cond.code yX5_stepOverNumber cX5_stepOverNumber 3 none ∈ LG := lg_mem 391 (by decide +kernel) rfl
theorem mv_X5_101 : MV RX5 101 5 yX5_stepOverNumber cX5_stepOverNumber 3 none 0 := ⟨⟨TX5, 7, rfl⟩, by decide, lg_mem 388 (by decide +kernel) rfl, wn_X5_stepOverNumber, wl_X5_stepOverNumber, wi_X5, wc_X5_stepOverNumber, by decide, by decide, by decide +kernel⟩
theorem mm_X5_104 : Cond.methodLink RX5 104 Lib.Math.min.name ∈ LG ∧ Cond.static Lib.Math.min.name ∈ LG ∧ Cond.initialized "java/lang/Math" ∈ LG ∧ Cond.code Lib.Math.min.name Lib.Math.min.code 2 (some .int) ∈ LG := ⟨lg_mem 392 (by decide +kernel) rfl, lg_mem 393 (by decide +kernel) rfl, lg_mem 59 (by decide +kernel) rfl, lg_mem 394 (by decide +kernel) rfl⟩
theorem wn_X6_init : Cond.instanceMethod yX6_init ∈ LG := lg_mem 65 (by decide +kernel) rfl
theorem wc_X6_init : Cond.code yX6_init cX6_init 2 none ∈ LG := lg_mem 66 (by decide +kernel) rfl
theorem mi_X6_init : MI yX6_init cX6_init 2 0 := ⟨wn_X6_init, wi_X6, wc_X6_init, by decide, by decide, by decide +kernel, rfl⟩
theorem wn_X7_init : Cond.instanceMethod yX7_init ∈ LG := lg_mem 688 (by decide +kernel) rfl
theorem wc_X7_init : Cond.code yX7_init cX7_init 1 none ∈ LG := lg_mem 689 (by decide +kernel) rfl
theorem mi_X7_init : MI yX7_init cX7_init 1 0 := ⟨wn_X7_init, wi_X7, wc_X7_init, by decide, by decide, by decide +kernel, rfl⟩
theorem wn_X6_type : Cond.instanceMethod yX6_type ∈ LG := lg_mem 358 (by decide +kernel) rfl
theorem wl_X6_type : Cond.selects yX6_type.cls yX6_type yX6_type ∈ LG := lg_mem 359 (by decide +kernel) rfl
theorem wc_X6_type : Cond.code yX6_type cX6_type 2 (some .int) ∈ LG := lg_mem 360 (by decide +kernel) rfl
theorem mv_L_13 : MV RL 13 6 yX6_type cX6_type 2 (some .int) 1 := ⟨⟨TX6, 9, rfl⟩, by decide, lg_mem 357 (by decide +kernel) rfl, wn_X6_type, wl_X6_type, wi_X6, wc_X6_type, by decide, by decide, by decide +kernel⟩
theorem wn_X7_type : Cond.instanceMethod yX7_type ∈ LG := lg_mem 782 (by decide +kernel) rfl
theorem wl_X7_type : Cond.selects yX7_type.cls yX7_type yX7_type ∈ LG := lg_mem 783 (by decide +kernel) rfl
theorem wc_X7_type : Cond.code yX7_type cX7_type 2 (some .int) ∈ LG := lg_mem 784 (by decide +kernel) rfl
theorem mv_L_17 : MV RL 17 7 yX7_type cX7_type 2 (some .int) 1 := ⟨⟨TX7, 27, rfl⟩, by decide, lg_mem 781 (by decide +kernel) rfl, wn_X7_type, wl_X7_type, wi_X7, wc_X7_type, by decide, by decide, by decide +kernel⟩
theorem wn_X6_clear : Cond.instanceMethod yX6_clear ∈ LG := lg_mem 369 (by decide +kernel) rfl
theorem wl_X6_clear : Cond.selects yX6_clear.cls yX6_clear yX6_clear ∈ LG := lg_mem 370 (by decide +kernel) rfl
theorem wc_X6_clear : Cond.code yX6_clear cX6_clear 2 (some .int) ∈ LG := lg_mem 371 (by decide +kernel) rfl
theorem mv_L_18 : MV RL 18 6 yX6_clear cX6_clear 2 (some .int) 0 := ⟨⟨TX6, 9, rfl⟩, by decide, lg_mem 368 (by decide +kernel) rfl, wn_X6_clear, wl_X6_clear, wi_X6, wc_X6_clear, by decide, by decide, by decide +kernel⟩
theorem wn_X7_clear : Cond.instanceMethod yX7_clear ∈ LG := lg_mem 789 (by decide +kernel) rfl
theorem wl_X7_clear : Cond.selects yX7_clear.cls yX7_clear yX7_clear ∈ LG := lg_mem 790 (by decide +kernel) rfl
theorem wc_X7_clear : Cond.code yX7_clear cX7_clear 2 (some .int) ∈ LG := lg_mem 791 (by decide +kernel) rfl
theorem mv_L_22 : MV RL 22 7 yX7_clear cX7_clear 2 (some .int) 0 := ⟨⟨TX7, 27, rfl⟩, by decide, lg_mem 788 (by decide +kernel) rfl, wn_X7_clear, wl_X7_clear, wi_X7, wc_X7_clear, by decide, by decide, by decide +kernel⟩
theorem wn_X6_tells : Cond.instanceMethod yX6_tells ∈ LG := lg_mem 373 (by decide +kernel) rfl
theorem wl_X6_tells : Cond.selects yX6_tells.cls yX6_tells yX6_tells ∈ LG := lg_mem 374 (by decide +kernel) rfl
theorem wc_X6_tells : Cond.code yX6_tells cX6_tells 4 (some .int) ∈ LG := lg_mem 375 (by decide +kernel) rfl
theorem mv_L_23 : MV RL 23 6 yX6_tells cX6_tells 4 (some .int) 0 := ⟨⟨TX6, 9, rfl⟩, by decide, lg_mem 372 (by decide +kernel) rfl, wn_X6_tells, wl_X6_tells, wi_X6, wc_X6_tells, by decide, by decide, by decide +kernel⟩
theorem wn_X7_tells : Cond.instanceMethod yX7_tells ∈ LG := lg_mem 793 (by decide +kernel) rfl
theorem wl_X7_tells : Cond.selects yX7_tells.cls yX7_tells yX7_tells ∈ LG := lg_mem 794 (by decide +kernel) rfl
theorem wc_X7_tells : Cond.code yX7_tells cX7_tells 2 (some .int) ∈ LG := lg_mem 795 (by decide +kernel) rfl
theorem mv_L_26 : MV RL 26 7 yX7_tells cX7_tells 2 (some .int) 0 := ⟨⟨TX7, 27, rfl⟩, by decide, lg_mem 792 (by decide +kernel) rfl, wn_X7_tells, wl_X7_tells, wi_X7, wc_X7_tells, by decide, by decide, by decide +kernel⟩
theorem wn_X6_ticks : Cond.instanceMethod yX6_ticks ∈ LG := lg_mem 432 (by decide +kernel) rfl
theorem wl_X6_ticks : Cond.selects yX6_ticks.cls yX6_ticks yX6_ticks ∈ LG := lg_mem 433 (by decide +kernel) rfl
theorem wc_X6_ticks : Cond.code yX6_ticks cX6_ticks 4 (some .int) ∈ LG := lg_mem 434 (by decide +kernel) rfl
theorem mv_L_27 : MV RL 27 6 yX6_ticks cX6_ticks 4 (some .int) 1 := ⟨⟨TX6, 9, rfl⟩, by decide, lg_mem 431 (by decide +kernel) rfl, wn_X6_ticks, wl_X6_ticks, wi_X6, wc_X6_ticks, by decide, by decide, by decide +kernel⟩
theorem wn_X7_ticks : Cond.instanceMethod yX7_ticks ∈ LG := lg_mem 837 (by decide +kernel) rfl
theorem wl_X7_ticks : Cond.selects yX7_ticks.cls yX7_ticks yX7_ticks ∈ LG := lg_mem 838 (by decide +kernel) rfl
theorem wc_X7_ticks : Cond.code yX7_ticks cX7_ticks 4 (some .int) ∈ LG := lg_mem 839 (by decide +kernel) rfl
theorem mv_L_30 : MV RL 30 7 yX7_ticks cX7_ticks 4 (some .int) 1 := ⟨⟨TX7, 27, rfl⟩, by decide, lg_mem 836 (by decide +kernel) rfl, wn_X7_ticks, wl_X7_ticks, wi_X7, wc_X7_ticks, by decide, by decide, by decide +kernel⟩
theorem wn_X6_drifts : Cond.instanceMethod yX6_drifts ∈ LG := lg_mem 533 (by decide +kernel) rfl
theorem wl_X6_drifts : Cond.selects yX6_drifts.cls yX6_drifts yX6_drifts ∈ LG := lg_mem 534 (by decide +kernel) rfl
theorem wc_X6_drifts : Cond.code yX6_drifts cX6_drifts 3 (some .int) ∈ LG := lg_mem 535 (by decide +kernel) rfl
theorem mv_L_31 : MV RL 31 6 yX6_drifts cX6_drifts 3 (some .int) 2 := ⟨⟨TX6, 9, rfl⟩, by decide, lg_mem 532 (by decide +kernel) rfl, wn_X6_drifts, wl_X6_drifts, wi_X6, wc_X6_drifts, by decide, by decide, by decide +kernel⟩
theorem wn_X7_drifts : Cond.instanceMethod yX7_drifts ∈ LG := lg_mem 902 (by decide +kernel) rfl
theorem wl_X7_drifts : Cond.selects yX7_drifts.cls yX7_drifts yX7_drifts ∈ LG := lg_mem 903 (by decide +kernel) rfl
theorem wc_X7_drifts : Cond.code yX7_drifts cX7_drifts 3 (some .int) ∈ LG := lg_mem 904 (by decide +kernel) rfl
theorem mv_L_35 : MV RL 35 7 yX7_drifts cX7_drifts 3 (some .int) 2 := ⟨⟨TX7, 27, rfl⟩, by decide, lg_mem 901 (by decide +kernel) rfl, wn_X7_drifts, wl_X7_drifts, wi_X7, wc_X7_drifts, by decide, by decide, by decide +kernel⟩
theorem wn_X6_corrects : Cond.instanceMethod yX6_corrects ∈ LG := lg_mem 538 (by decide +kernel) rfl
theorem wl_X6_corrects : Cond.selects yX6_corrects.cls yX6_corrects yX6_corrects ∈ LG := lg_mem 539 (by decide +kernel) rfl
theorem wc_X6_corrects : Cond.code yX6_corrects cX6_corrects 3 (some .int) ∈ LG := lg_mem 540 (by decide +kernel) rfl
theorem mv_L_36 : MV RL 36 6 yX6_corrects cX6_corrects 3 (some .int) 2 := ⟨⟨TX6, 9, rfl⟩, by decide, lg_mem 537 (by decide +kernel) rfl, wn_X6_corrects, wl_X6_corrects, wi_X6, wc_X6_corrects, by decide, by decide, by decide +kernel⟩
theorem wn_X7_corrects : Cond.instanceMethod yX7_corrects ∈ LG := lg_mem 910 (by decide +kernel) rfl
theorem wl_X7_corrects : Cond.selects yX7_corrects.cls yX7_corrects yX7_corrects ∈ LG := lg_mem 911 (by decide +kernel) rfl
theorem wc_X7_corrects : Cond.code yX7_corrects cX7_corrects 3 (some .int) ∈ LG := lg_mem 912 (by decide +kernel) rfl
theorem mv_L_39 : MV RL 39 7 yX7_corrects cX7_corrects 3 (some .int) 2 := ⟨⟨TX7, 27, rfl⟩, by decide, lg_mem 909 (by decide +kernel) rfl, wn_X7_corrects, wl_X7_corrects, wi_X7, wc_X7_corrects, by decide, by decide, by decide +kernel⟩
theorem wn_X6_spins : Cond.instanceMethod yX6_spins ∈ LG := lg_mem 543 (by decide +kernel) rfl
theorem wl_X6_spins : Cond.selects yX6_spins.cls yX6_spins yX6_spins ∈ LG := lg_mem 544 (by decide +kernel) rfl
theorem wc_X6_spins : Cond.code yX6_spins cX6_spins 2 (some .int) ∈ LG := lg_mem 545 (by decide +kernel) rfl
theorem mv_L_40 : MV RL 40 6 yX6_spins cX6_spins 2 (some .int) 0 := ⟨⟨TX6, 9, rfl⟩, by decide, lg_mem 542 (by decide +kernel) rfl, wn_X6_spins, wl_X6_spins, wi_X6, wc_X6_spins, by decide, by decide, by decide +kernel⟩
theorem wn_X7_spins : Cond.instanceMethod yX7_spins ∈ LG := lg_mem 914 (by decide +kernel) rfl
theorem wl_X7_spins : Cond.selects yX7_spins.cls yX7_spins yX7_spins ∈ LG := lg_mem 915 (by decide +kernel) rfl
theorem wc_X7_spins : Cond.code yX7_spins cX7_spins 1 (some .int) ∈ LG := lg_mem 916 (by decide +kernel) rfl
theorem mv_L_43 : MV RL 43 7 yX7_spins cX7_spins 1 (some .int) 0 := ⟨⟨TX7, 27, rfl⟩, by decide, lg_mem 913 (by decide +kernel) rfl, wn_X7_spins, wl_X7_spins, wi_X7, wc_X7_spins, by decide, by decide, by decide +kernel⟩
theorem wn_X6_starts : Cond.instanceMethod yX6_starts ∈ LG := lg_mem 548 (by decide +kernel) rfl
theorem wl_X6_starts : Cond.selects yX6_starts.cls yX6_starts yX6_starts ∈ LG := lg_mem 549 (by decide +kernel) rfl
theorem wc_X6_starts : Cond.code yX6_starts cX6_starts 1 (some .int) ∈ LG := lg_mem 550 (by decide +kernel) rfl
theorem mv_L_44 : MV RL 44 6 yX6_starts cX6_starts 1 (some .int) 0 := ⟨⟨TX6, 9, rfl⟩, by decide, lg_mem 547 (by decide +kernel) rfl, wn_X6_starts, wl_X6_starts, wi_X6, wc_X6_starts, by decide, by decide, by decide +kernel⟩
theorem wn_X7_starts : Cond.instanceMethod yX7_starts ∈ LG := lg_mem 918 (by decide +kernel) rfl
theorem wl_X7_starts : Cond.selects yX7_starts.cls yX7_starts yX7_starts ∈ LG := lg_mem 919 (by decide +kernel) rfl
theorem wc_X7_starts : Cond.code yX7_starts cX7_starts 2 (some .int) ∈ LG := lg_mem 920 (by decide +kernel) rfl
theorem mv_L_47 : MV RL 47 7 yX7_starts cX7_starts 2 (some .int) 0 := ⟨⟨TX7, 27, rfl⟩, by decide, lg_mem 917 (by decide +kernel) rfl, wn_X7_starts, wl_X7_starts, wi_X7, wc_X7_starts, by decide, by decide, by decide +kernel⟩
theorem wn_X6_aheads : Cond.instanceMethod yX6_aheads ∈ LG := lg_mem 556 (by decide +kernel) rfl
theorem wl_X6_aheads : Cond.selects yX6_aheads.cls yX6_aheads yX6_aheads ∈ LG := lg_mem 557 (by decide +kernel) rfl
theorem wc_X6_aheads : Cond.code yX6_aheads cX6_aheads 2 (some .int) ∈ LG := lg_mem 558 (by decide +kernel) rfl
theorem mv_L_48 : MV RL 48 6 yX6_aheads cX6_aheads 2 (some .int) 1 := ⟨⟨TX6, 9, rfl⟩, by decide, lg_mem 555 (by decide +kernel) rfl, wn_X6_aheads, wl_X6_aheads, wi_X6, wc_X6_aheads, by decide, by decide, by decide +kernel⟩
theorem wn_X7_aheads : Cond.instanceMethod yX7_aheads ∈ LG := lg_mem 922 (by decide +kernel) rfl
theorem wl_X7_aheads : Cond.selects yX7_aheads.cls yX7_aheads yX7_aheads ∈ LG := lg_mem 923 (by decide +kernel) rfl
theorem wc_X7_aheads : Cond.code yX7_aheads cX7_aheads 2 (some .int) ∈ LG := lg_mem 924 (by decide +kernel) rfl
theorem mv_L_51 : MV RL 51 7 yX7_aheads cX7_aheads 2 (some .int) 1 := ⟨⟨TX7, 27, rfl⟩, by decide, lg_mem 921 (by decide +kernel) rfl, wn_X7_aheads, wl_X7_aheads, wi_X7, wc_X7_aheads, by decide, by decide, by decide +kernel⟩
theorem wn_X6_undo : Cond.instanceMethod yX6_undo ∈ LG := lg_mem 560 (by decide +kernel) rfl
theorem wl_X6_undo : Cond.selects yX6_undo.cls yX6_undo yX6_undo ∈ LG := lg_mem 561 (by decide +kernel) rfl
theorem wc_X6_undo : Cond.code yX6_undo cX6_undo 1 (some .int) ∈ LG := lg_mem 562 (by decide +kernel) rfl
theorem mv_L_52 : MV RL 52 6 yX6_undo cX6_undo 1 (some .int) 0 := ⟨⟨TX6, 9, rfl⟩, by decide, lg_mem 559 (by decide +kernel) rfl, wn_X6_undo, wl_X6_undo, wi_X6, wc_X6_undo, by decide, by decide, by decide +kernel⟩
theorem wn_X7_undo : Cond.instanceMethod yX7_undo ∈ LG := lg_mem 833 (by decide +kernel) rfl
theorem wl_X7_undo : Cond.selects yX7_undo.cls yX7_undo yX7_undo ∈ LG := lg_mem 834 (by decide +kernel) rfl
theorem wc_X7_undo : Cond.code yX7_undo cX7_undo 2 (some .int) ∈ LG := lg_mem 835 (by decide +kernel) rfl
theorem mv_L_55 : MV RL 55 7 yX7_undo cX7_undo 2 (some .int) 0 := ⟨⟨TX7, 27, rfl⟩, by decide, lg_mem 832 (by decide +kernel) rfl, wn_X7_undo, wl_X7_undo, wi_X7, wc_X7_undo, by decide, by decide, by decide +kernel⟩
theorem wn_X6_unit : Cond.instanceMethod yX6_unit ∈ LG := lg_mem 568 (by decide +kernel) rfl
theorem wl_X6_unit : Cond.selects yX6_unit.cls yX6_unit yX6_unit ∈ LG := lg_mem 569 (by decide +kernel) rfl
theorem wc_X6_unit : Cond.code yX6_unit cX6_unit 3 (some .int) ∈ LG := lg_mem 570 (by decide +kernel) rfl
theorem mv_L_56 : MV RL 56 6 yX6_unit cX6_unit 3 (some .int) 2 := ⟨⟨TX6, 9, rfl⟩, by decide, lg_mem 567 (by decide +kernel) rfl, wn_X6_unit, wl_X6_unit, wi_X6, wc_X6_unit, by decide, by decide, by decide +kernel⟩
theorem wn_X7_unit : Cond.instanceMethod yX7_unit ∈ LG := lg_mem 926 (by decide +kernel) rfl
theorem wl_X7_unit : Cond.selects yX7_unit.cls yX7_unit yX7_unit ∈ LG := lg_mem 927 (by decide +kernel) rfl
theorem wc_X7_unit : Cond.code yX7_unit cX7_unit 3 (some .int) ∈ LG := lg_mem 928 (by decide +kernel) rfl
theorem mv_L_59 : MV RL 59 7 yX7_unit cX7_unit 3 (some .int) 2 := ⟨⟨TX7, 27, rfl⟩, by decide, lg_mem 925 (by decide +kernel) rfl, wn_X7_unit, wl_X7_unit, wi_X7, wc_X7_unit, by decide, by decide, by decide +kernel⟩
theorem wn_X6_reel : Cond.instanceMethod yX6_reel ∈ LG := lg_mem 578 (by decide +kernel) rfl
theorem wl_X6_reel : Cond.selects yX6_reel.cls yX6_reel yX6_reel ∈ LG := lg_mem 579 (by decide +kernel) rfl
theorem wc_X6_reel : Cond.code yX6_reel cX6_reel 3 (some .int) ∈ LG := lg_mem 580 (by decide +kernel) rfl
theorem mv_L_60 : MV RL 60 6 yX6_reel cX6_reel 3 (some .int) 2 := ⟨⟨TX6, 9, rfl⟩, by decide, lg_mem 577 (by decide +kernel) rfl, wn_X6_reel, wl_X6_reel, wi_X6, wc_X6_reel, by decide, by decide, by decide +kernel⟩
theorem wn_X7_reel : Cond.instanceMethod yX7_reel ∈ LG := lg_mem 935 (by decide +kernel) rfl
theorem wl_X7_reel : Cond.selects yX7_reel.cls yX7_reel yX7_reel ∈ LG := lg_mem 936 (by decide +kernel) rfl
theorem wc_X7_reel : Cond.code yX7_reel cX7_reel 3 (some .int) ∈ LG := lg_mem 937 (by decide +kernel) rfl
theorem mv_L_63 : MV RL 63 7 yX7_reel cX7_reel 3 (some .int) 2 := ⟨⟨TX7, 27, rfl⟩, by decide, lg_mem 934 (by decide +kernel) rfl, wn_X7_reel, wl_X7_reel, wi_X7, wc_X7_reel, by decide, by decide, by decide +kernel⟩
theorem wn_X6_last : Cond.instanceMethod yX6_last ∈ LG := lg_mem 587 (by decide +kernel) rfl
theorem wl_X6_last : Cond.selects yX6_last.cls yX6_last yX6_last ∈ LG := lg_mem 588 (by decide +kernel) rfl
theorem wc_X6_last : Cond.code yX6_last cX6_last 3 (some .int) ∈ LG := lg_mem 589 (by decide +kernel) rfl
theorem mv_L_64 : MV RL 64 6 yX6_last cX6_last 3 (some .int) 1 := ⟨⟨TX6, 9, rfl⟩, by decide, lg_mem 586 (by decide +kernel) rfl, wn_X6_last, wl_X6_last, wi_X6, wc_X6_last, by decide, by decide, by decide +kernel⟩
theorem wn_X7_last : Cond.instanceMethod yX7_last ∈ LG := lg_mem 939 (by decide +kernel) rfl
theorem wl_X7_last : Cond.selects yX7_last.cls yX7_last yX7_last ∈ LG := lg_mem 940 (by decide +kernel) rfl
theorem wc_X7_last : Cond.code yX7_last cX7_last 2 (some .int) ∈ LG := lg_mem 941 (by decide +kernel) rfl
theorem mv_L_67 : MV RL 67 7 yX7_last cX7_last 2 (some .int) 1 := ⟨⟨TX7, 27, rfl⟩, by decide, lg_mem 938 (by decide +kernel) rfl, wn_X7_last, wl_X7_last, wi_X7, wc_X7_last, by decide, by decide, by decide +kernel⟩
theorem wn_X6_error : Cond.instanceMethod yX6_error ∈ LG := lg_mem 592 (by decide +kernel) rfl
theorem wl_X6_error : Cond.selects yX6_error.cls yX6_error yX6_error ∈ LG := lg_mem 593 (by decide +kernel) rfl
theorem wc_X6_error : Cond.code yX6_error cX6_error 4 (some .int) ∈ LG := lg_mem 594 (by decide +kernel) rfl
theorem mv_L_68 : MV RL 68 6 yX6_error cX6_error 4 (some .int) 2 := ⟨⟨TX6, 9, rfl⟩, by decide, lg_mem 591 (by decide +kernel) rfl, wn_X6_error, wl_X6_error, wi_X6, wc_X6_error, by decide, by decide, by decide +kernel⟩
theorem wn_X7_error : Cond.instanceMethod yX7_error ∈ LG := lg_mem 944 (by decide +kernel) rfl
theorem wl_X7_error : Cond.selects yX7_error.cls yX7_error yX7_error ∈ LG := lg_mem 945 (by decide +kernel) rfl
theorem wc_X7_error : Cond.code yX7_error cX7_error 5 (some .int) ∈ LG := lg_mem 946 (by decide +kernel) rfl
theorem mv_L_71 : MV RL 71 7 yX7_error cX7_error 5 (some .int) 2 := ⟨⟨TX7, 27, rfl⟩, by decide, lg_mem 943 (by decide +kernel) rfl, wn_X7_error, wl_X7_error, wi_X7, wc_X7_error, by decide, by decide, by decide +kernel⟩
theorem wn_X6_steady : Cond.instanceMethod yX6_steady ∈ LG := lg_mem 600 (by decide +kernel) rfl
theorem wl_X6_steady : Cond.selects yX6_steady.cls yX6_steady yX6_steady ∈ LG := lg_mem 601 (by decide +kernel) rfl
theorem wc_X6_steady : Cond.code yX6_steady cX6_steady 3 (some .int) ∈ LG := lg_mem 602 (by decide +kernel) rfl
theorem mv_L_72 : MV RL 72 6 yX6_steady cX6_steady 3 (some .int) 0 := ⟨⟨TX6, 9, rfl⟩, by decide, lg_mem 599 (by decide +kernel) rfl, wn_X6_steady, wl_X6_steady, wi_X6, wc_X6_steady, by decide, by decide, by decide +kernel⟩
theorem wn_X7_steady : Cond.instanceMethod yX7_steady ∈ LG := lg_mem 948 (by decide +kernel) rfl
theorem wl_X7_steady : Cond.selects yX7_steady.cls yX7_steady yX7_steady ∈ LG := lg_mem 949 (by decide +kernel) rfl
theorem wc_X7_steady : Cond.code yX7_steady cX7_steady 4 (some .int) ∈ LG := lg_mem 950 (by decide +kernel) rfl
theorem mv_L_75 : MV RL 75 7 yX7_steady cX7_steady 4 (some .int) 0 := ⟨⟨TX7, 27, rfl⟩, by decide, lg_mem 947 (by decide +kernel) rfl, wn_X7_steady, wl_X7_steady, wi_X7, wc_X7_steady, by decide, by decide, by decide +kernel⟩
theorem wn_X6_cost : Cond.instanceMethod yX6_cost ∈ LG := lg_mem 606 (by decide +kernel) rfl
theorem wl_X6_cost : Cond.selects yX6_cost.cls yX6_cost yX6_cost ∈ LG := lg_mem 607 (by decide +kernel) rfl
theorem wc_X6_cost : Cond.code yX6_cost cX6_cost 2 (some .int) ∈ LG := lg_mem 608 (by decide +kernel) rfl
theorem mv_L_76 : MV RL 76 6 yX6_cost cX6_cost 2 (some .int) 0 := ⟨⟨TX6, 9, rfl⟩, by decide, lg_mem 605 (by decide +kernel) rfl, wn_X6_cost, wl_X6_cost, wi_X6, wc_X6_cost, by decide, by decide, by decide +kernel⟩
theorem wn_X7_cost : Cond.instanceMethod yX7_cost ∈ LG := lg_mem 960 (by decide +kernel) rfl
theorem wl_X7_cost : Cond.selects yX7_cost.cls yX7_cost yX7_cost ∈ LG := lg_mem 961 (by decide +kernel) rfl
theorem wc_X7_cost : Cond.code yX7_cost cX7_cost 1 (some .int) ∈ LG := lg_mem 962 (by decide +kernel) rfl
theorem mv_L_79 : MV RL 79 7 yX7_cost cX7_cost 1 (some .int) 0 := ⟨⟨TX7, 27, rfl⟩, by decide, lg_mem 959 (by decide +kernel) rfl, wn_X7_cost, wl_X7_cost, wi_X7, wc_X7_cost, by decide, by decide, by decide +kernel⟩
theorem wn_X6_sees : Cond.instanceMethod yX6_sees ∈ LG := lg_mem 619 (by decide +kernel) rfl
theorem wl_X6_sees : Cond.selects yX6_sees.cls yX6_sees yX6_sees ∈ LG := lg_mem 620 (by decide +kernel) rfl
theorem wc_X6_sees : Cond.code yX6_sees cX6_sees 3 (some .int) ∈ LG := lg_mem 621 (by decide +kernel) rfl
theorem mv_L_80 : MV RL 80 6 yX6_sees cX6_sees 3 (some .int) 2 := ⟨⟨TX6, 9, rfl⟩, by decide, lg_mem 618 (by decide +kernel) rfl, wn_X6_sees, wl_X6_sees, wi_X6, wc_X6_sees, by decide, by decide, by decide +kernel⟩
theorem wn_X7_sees : Cond.instanceMethod yX7_sees ∈ LG := lg_mem 968 (by decide +kernel) rfl
theorem wl_X7_sees : Cond.selects yX7_sees.cls yX7_sees yX7_sees ∈ LG := lg_mem 969 (by decide +kernel) rfl
theorem wc_X7_sees : Cond.code yX7_sees cX7_sees 3 (some .int) ∈ LG := lg_mem 970 (by decide +kernel) rfl
theorem mv_L_83 : MV RL 83 7 yX7_sees cX7_sees 3 (some .int) 2 := ⟨⟨TX7, 27, rfl⟩, by decide, lg_mem 967 (by decide +kernel) rfl, wn_X7_sees, wl_X7_sees, wi_X7, wc_X7_sees, by decide, by decide, by decide +kernel⟩
theorem wn_X6_forget : Cond.instanceMethod yX6_forget ∈ LG := lg_mem 627 (by decide +kernel) rfl
theorem wl_X6_forget : Cond.selects yX6_forget.cls yX6_forget yX6_forget ∈ LG := lg_mem 628 (by decide +kernel) rfl
theorem wc_X6_forget : Cond.code yX6_forget cX6_forget 2 (some .int) ∈ LG := lg_mem 629 (by decide +kernel) rfl
theorem mv_L_84 : MV RL 84 6 yX6_forget cX6_forget 2 (some .int) 0 := ⟨⟨TX6, 9, rfl⟩, by decide, lg_mem 626 (by decide +kernel) rfl, wn_X6_forget, wl_X6_forget, wi_X6, wc_X6_forget, by decide, by decide, by decide +kernel⟩
theorem wn_X7_forget : Cond.instanceMethod yX7_forget ∈ LG := lg_mem 972 (by decide +kernel) rfl
theorem wl_X7_forget : Cond.selects yX7_forget.cls yX7_forget yX7_forget ∈ LG := lg_mem 973 (by decide +kernel) rfl
theorem wc_X7_forget : Cond.code yX7_forget cX7_forget 2 (some .int) ∈ LG := lg_mem 974 (by decide +kernel) rfl
theorem mv_L_87 : MV RL 87 7 yX7_forget cX7_forget 2 (some .int) 0 := ⟨⟨TX7, 27, rfl⟩, by decide, lg_mem 971 (by decide +kernel) rfl, wn_X7_forget, wl_X7_forget, wi_X7, wc_X7_forget, by decide, by decide, by decide +kernel⟩
theorem wn_X6_which : Cond.instanceMethod yX6_which ∈ LG := lg_mem 631 (by decide +kernel) rfl
theorem wl_X6_which : Cond.selects yX6_which.cls yX6_which yX6_which ∈ LG := lg_mem 632 (by decide +kernel) rfl
theorem wc_X6_which : Cond.code yX6_which cX6_which 1 (some .int) ∈ LG := lg_mem 633 (by decide +kernel) rfl
theorem mv_L_88 : MV RL 88 6 yX6_which cX6_which 1 (some .int) 0 := ⟨⟨TX6, 9, rfl⟩, by decide, lg_mem 630 (by decide +kernel) rfl, wn_X6_which, wl_X6_which, wi_X6, wc_X6_which, by decide, by decide, by decide +kernel⟩
theorem wn_X7_which : Cond.instanceMethod yX7_which ∈ LG := lg_mem 976 (by decide +kernel) rfl
theorem wl_X7_which : Cond.selects yX7_which.cls yX7_which yX7_which ∈ LG := lg_mem 977 (by decide +kernel) rfl
theorem wc_X7_which : Cond.code yX7_which cX7_which 1 (some .int) ∈ LG := lg_mem 978 (by decide +kernel) rfl
theorem mv_L_91 : MV RL 91 7 yX7_which cX7_which 1 (some .int) 0 := ⟨⟨TX7, 27, rfl⟩, by decide, lg_mem 975 (by decide +kernel) rfl, wn_X7_which, wl_X7_which, wi_X7, wc_X7_which, by decide, by decide, by decide +kernel⟩
theorem wn_X6_look : Cond.instanceMethod yX6_look ∈ LG := lg_mem 653 (by decide +kernel) rfl
theorem wl_X6_look : Cond.selects yX6_look.cls yX6_look yX6_look ∈ LG := lg_mem 654 (by decide +kernel) rfl
theorem wc_X6_look : Cond.code yX6_look cX6_look 1 (some .int) ∈ LG := lg_mem 655 (by decide +kernel) rfl
theorem mv_L_92 : MV RL 92 6 yX6_look cX6_look 1 (some .int) 0 := ⟨⟨TX6, 9, rfl⟩, by decide, lg_mem 652 (by decide +kernel) rfl, wn_X6_look, wl_X6_look, wi_X6, wc_X6_look, by decide, by decide, by decide +kernel⟩
theorem wn_X7_look : Cond.instanceMethod yX7_look ∈ LG := lg_mem 995 (by decide +kernel) rfl
theorem wl_X7_look : Cond.selects yX7_look.cls yX7_look yX7_look ∈ LG := lg_mem 996 (by decide +kernel) rfl
theorem wc_X7_look : Cond.code yX7_look cX7_look 8 (some .int) ∈ LG := lg_mem 997 (by decide +kernel) rfl
theorem mv_L_95 : MV RL 95 7 yX7_look cX7_look 8 (some .int) 0 := ⟨⟨TX7, 27, rfl⟩, by decide, lg_mem 994 (by decide +kernel) rfl, wn_X7_look, wl_X7_look, wi_X7, wc_X7_look, by decide, by decide, by decide +kernel⟩
theorem wn_X6_keep : Cond.instanceMethod yX6_keep ∈ LG := lg_mem 674 (by decide +kernel) rfl
theorem wl_X6_keep : Cond.selects yX6_keep.cls yX6_keep yX6_keep ∈ LG := lg_mem 675 (by decide +kernel) rfl
theorem wc_X6_keep : Cond.code yX6_keep cX6_keep 2 (some .int) ∈ LG := lg_mem 676 (by decide +kernel) rfl
theorem mv_L_96 : MV RL 96 6 yX6_keep cX6_keep 2 (some .int) 1 := ⟨⟨TX6, 9, rfl⟩, by decide, lg_mem 673 (by decide +kernel) rfl, wn_X6_keep, wl_X6_keep, wi_X6, wc_X6_keep, by decide, by decide, by decide +kernel⟩
theorem wn_X7_keep : Cond.instanceMethod yX7_keep ∈ LG := lg_mem 999 (by decide +kernel) rfl
theorem wl_X7_keep : Cond.selects yX7_keep.cls yX7_keep yX7_keep ∈ LG := lg_mem 1000 (by decide +kernel) rfl
theorem wc_X7_keep : Cond.code yX7_keep cX7_keep 3 (some .int) ∈ LG := lg_mem 1001 (by decide +kernel) rfl
theorem mv_L_99 : MV RL 99 7 yX7_keep cX7_keep 3 (some .int) 1 := ⟨⟨TX7, 27, rfl⟩, by decide, lg_mem 998 (by decide +kernel) rfl, wn_X7_keep, wl_X7_keep, wi_X7, wc_X7_keep, by decide, by decide, by decide +kernel⟩
theorem wn_X6_back : Cond.instanceMethod yX6_back ∈ LG := lg_mem 678 (by decide +kernel) rfl
theorem wl_X6_back : Cond.selects yX6_back.cls yX6_back yX6_back ∈ LG := lg_mem 679 (by decide +kernel) rfl
theorem wc_X6_back : Cond.code yX6_back cX6_back 2 (some .int) ∈ LG := lg_mem 680 (by decide +kernel) rfl
theorem mv_L_100 : MV RL 100 6 yX6_back cX6_back 2 (some .int) 1 := ⟨⟨TX6, 9, rfl⟩, by decide, lg_mem 677 (by decide +kernel) rfl, wn_X6_back, wl_X6_back, wi_X6, wc_X6_back, by decide, by decide, by decide +kernel⟩
theorem wn_X7_back : Cond.instanceMethod yX7_back ∈ LG := lg_mem 1003 (by decide +kernel) rfl
theorem wl_X7_back : Cond.selects yX7_back.cls yX7_back yX7_back ∈ LG := lg_mem 1004 (by decide +kernel) rfl
theorem wc_X7_back : Cond.code yX7_back cX7_back 3 (some .int) ∈ LG := lg_mem 1005 (by decide +kernel) rfl
theorem mv_L_103 : MV RL 103 7 yX7_back cX7_back 3 (some .int) 1 := ⟨⟨TX7, 27, rfl⟩, by decide, lg_mem 1002 (by decide +kernel) rfl, wn_X7_back, wl_X7_back, wi_X7, wc_X7_back, by decide, by decide, by decide +kernel⟩
theorem wn_X6_count : Cond.instanceMethod yX6_count ∈ LG := lg_mem 682 (by decide +kernel) rfl
theorem wl_X6_count : Cond.selects yX6_count.cls yX6_count yX6_count ∈ LG := lg_mem 683 (by decide +kernel) rfl
theorem wc_X6_count : Cond.code yX6_count cX6_count 2 (some .int) ∈ LG := lg_mem 684 (by decide +kernel) rfl
theorem mv_L_104 : MV RL 104 6 yX6_count cX6_count 2 (some .int) 1 := ⟨⟨TX6, 9, rfl⟩, by decide, lg_mem 681 (by decide +kernel) rfl, wn_X6_count, wl_X6_count, wi_X6, wc_X6_count, by decide, by decide, by decide +kernel⟩
theorem wn_X7_count : Cond.instanceMethod yX7_count ∈ LG := lg_mem 1007 (by decide +kernel) rfl
theorem wl_X7_count : Cond.selects yX7_count.cls yX7_count yX7_count ∈ LG := lg_mem 1008 (by decide +kernel) rfl
theorem wc_X7_count : Cond.code yX7_count cX7_count 2 (some .int) ∈ LG := lg_mem 1009 (by decide +kernel) rfl
theorem mv_L_107 : MV RL 107 7 yX7_count cX7_count 2 (some .int) 1 := ⟨⟨TX7, 27, rfl⟩, by decide, lg_mem 1006 (by decide +kernel) rfl, wn_X7_count, wl_X7_count, wi_X7, wc_X7_count, by decide, by decide, by decide +kernel⟩
theorem w_cp1 : Cond.native arraycopyName ∈ LG := lg_mem 445 (by decide +kernel) rfl
theorem w_cp2 : Cond.static arraycopyName ∈ LG := lg_mem 444 (by decide +kernel) rfl
theorem w_cp3 : Cond.initialized "java/lang/System" ∈ LG := lg_mem 60 (by decide +kernel) rfl
theorem wx_X6_135 : Cond.constant RX6 135 (-1000000) ∈ LG := lg_mem 572 (by decide +kernel) rfl
theorem wx_X6_171 : Cond.constant RX6 171 (-2000000) ∈ LG := lg_mem 590 (by decide +kernel) rfl
theorem wx_J6_265 : Cond.constant RJ6 265 (1431655765) ∈ LG := lg_mem 664 (by decide +kernel) rfl
theorem wx_J6_266 : Cond.constant RJ6 266 (858993459) ∈ LG := lg_mem 665 (by decide +kernel) rfl
theorem wx_J6_267 : Cond.constant RJ6 267 (252645135) ∈ LG := lg_mem 666 (by decide +kernel) rfl
theorem wx_X7_190 : Cond.constant RX7 190 (-1000000) ∈ LG := lg_mem 929 (by decide +kernel) rfl
theorem wx_X7_194 : Cond.constant RX7 194 (-2000000) ∈ LG := lg_mem 942 (by decide +kernel) rfl
theorem kc_m1 : Int32.ofInt (-1) = (-1 : Int32) := by decide +kernel
theorem kc_0 : Int32.ofInt (0) = (0 : Int32) := by decide +kernel
theorem kc_1 : Int32.ofInt (1) = (1 : Int32) := by decide +kernel
theorem kc_2 : Int32.ofInt (2) = (2 : Int32) := by decide +kernel
theorem kc_3 : Int32.ofInt (3) = (3 : Int32) := by decide +kernel
theorem kc_4 : Int32.ofInt (4) = (4 : Int32) := by decide +kernel
theorem kc_5 : Int32.ofInt (5) = (5 : Int32) := by decide +kernel
theorem kb_m99 : (Int8.ofInt (-99)).toInt32 = (-99 : Int32) := by decide +kernel
theorem kb_m20 : (Int8.ofInt (-20)).toInt32 = (-20 : Int32) := by decide +kernel
theorem kb_m10 : (Int8.ofInt (-10)).toInt32 = (-10 : Int32) := by decide +kernel
theorem kb_m9 : (Int8.ofInt (-9)).toInt32 = (-9 : Int32) := by decide +kernel
theorem kb_m3 : (Int8.ofInt (-3)).toInt32 = (-3 : Int32) := by decide +kernel
theorem kb_m2 : (Int8.ofInt (-2)).toInt32 = (-2 : Int32) := by decide +kernel
theorem kb_6 : (Int8.ofInt (6)).toInt32 = (6 : Int32) := by decide +kernel
theorem kb_7 : (Int8.ofInt (7)).toInt32 = (7 : Int32) := by decide +kernel
theorem kb_8 : (Int8.ofInt (8)).toInt32 = (8 : Int32) := by decide +kernel
theorem kb_9 : (Int8.ofInt (9)).toInt32 = (9 : Int32) := by decide +kernel
theorem kb_10 : (Int8.ofInt (10)).toInt32 = (10 : Int32) := by decide +kernel
theorem kb_12 : (Int8.ofInt (12)).toInt32 = (12 : Int32) := by decide +kernel
theorem kb_13 : (Int8.ofInt (13)).toInt32 = (13 : Int32) := by decide +kernel
theorem kb_14 : (Int8.ofInt (14)).toInt32 = (14 : Int32) := by decide +kernel
theorem kb_16 : (Int8.ofInt (16)).toInt32 = (16 : Int32) := by decide +kernel
theorem kb_18 : (Int8.ofInt (18)).toInt32 = (18 : Int32) := by decide +kernel
theorem kb_20 : (Int8.ofInt (20)).toInt32 = (20 : Int32) := by decide +kernel
theorem kb_22 : (Int8.ofInt (22)).toInt32 = (22 : Int32) := by decide +kernel
theorem kb_31 : (Int8.ofInt (31)).toInt32 = (31 : Int32) := by decide +kernel
theorem kb_32 : (Int8.ofInt (32)).toInt32 = (32 : Int32) := by decide +kernel
theorem kb_45 : (Int8.ofInt (45)).toInt32 = (45 : Int32) := by decide +kernel
theorem kb_48 : (Int8.ofInt (48)).toInt32 = (48 : Int32) := by decide +kernel
theorem kb_54 : (Int8.ofInt (54)).toInt32 = (54 : Int32) := by decide +kernel
theorem kb_55 : (Int8.ofInt (55)).toInt32 = (55 : Int32) := by decide +kernel
theorem kb_56 : (Int8.ofInt (56)).toInt32 = (56 : Int32) := by decide +kernel
theorem kb_57 : (Int8.ofInt (57)).toInt32 = (57 : Int32) := by decide +kernel
theorem kb_59 : (Int8.ofInt (59)).toInt32 = (59 : Int32) := by decide +kernel
theorem kb_60 : (Int8.ofInt (60)).toInt32 = (60 : Int32) := by decide +kernel
theorem kb_61 : (Int8.ofInt (61)).toInt32 = (61 : Int32) := by decide +kernel
theorem kb_63 : (Int8.ofInt (63)).toInt32 = (63 : Int32) := by decide +kernel
theorem kb_99 : (Int8.ofInt (99)).toInt32 = (99 : Int32) := by decide +kernel
theorem kb_100 : (Int8.ofInt (100)).toInt32 = (100 : Int32) := by decide +kernel
theorem kb_105 : (Int8.ofInt (105)).toInt32 = (105 : Int32) := by decide +kernel
theorem kb_114 : (Int8.ofInt (114)).toInt32 = (114 : Int32) := by decide +kernel
theorem kb_117 : (Int8.ofInt (117)).toInt32 = (117 : Int32) := by decide +kernel
theorem kb_120 : (Int8.ofInt (120)).toInt32 = (120 : Int32) := by decide +kernel
theorem ks_128 : (Int16.ofInt (128)).toInt32 = (128 : Int32) := by decide +kernel
theorem ks_199 : (Int16.ofInt (199)).toInt32 = (199 : Int32) := by decide +kernel
theorem ks_200 : (Int16.ofInt (200)).toInt32 = (200 : Int32) := by decide +kernel
theorem ks_255 : (Int16.ofInt (255)).toInt32 = (255 : Int32) := by decide +kernel
theorem ks_256 : (Int16.ofInt (256)).toInt32 = (256 : Int32) := by decide +kernel
theorem ks_257 : (Int16.ofInt (257)).toInt32 = (257 : Int32) := by decide +kernel
theorem ks_258 : (Int16.ofInt (258)).toInt32 = (258 : Int32) := by decide +kernel
theorem ks_300 : (Int16.ofInt (300)).toInt32 = (300 : Int32) := by decide +kernel
theorem ks_349 : (Int16.ofInt (349)).toInt32 = (349 : Int32) := by decide +kernel
theorem ks_698 : (Int16.ofInt (698)).toInt32 = (698 : Int32) := by decide +kernel
theorem ks_1000 : (Int16.ofInt (1000)).toInt32 = (1000 : Int32) := by decide +kernel
theorem ks_1745 : (Int16.ofInt (1745)).toInt32 = (1745 : Int32) := by decide +kernel
theorem ks_2094 : (Int16.ofInt (2094)).toInt32 = (2094 : Int32) := by decide +kernel
theorem ks_9999 : (Int16.ofInt (9999)).toInt32 = (9999 : Int32) := by decide +kernel
theorem lit_0 : Lit 0 0 := ⟨by decide +kernel, by decide +kernel⟩
theorem lit_1 : Lit 1 1 := ⟨by decide +kernel, by decide +kernel⟩
theorem lit_2 : Lit 2 2 := ⟨by decide +kernel, by decide +kernel⟩
theorem lit_3 : Lit 3 3 := ⟨by decide +kernel, by decide +kernel⟩
theorem lit_4 : Lit 4 4 := ⟨by decide +kernel, by decide +kernel⟩
theorem lit_5 : Lit 5 5 := ⟨by decide +kernel, by decide +kernel⟩
theorem lit_6 : Lit 6 6 := ⟨by decide +kernel, by decide +kernel⟩
theorem lit_7 : Lit 7 7 := ⟨by decide +kernel, by decide +kernel⟩
theorem lit_8 : Lit 8 8 := ⟨by decide +kernel, by decide +kernel⟩
theorem lit_9 : Lit 9 9 := ⟨by decide +kernel, by decide +kernel⟩
theorem lit_10 : Lit 10 10 := ⟨by decide +kernel, by decide +kernel⟩
theorem lit_12 : Lit 12 12 := ⟨by decide +kernel, by decide +kernel⟩
theorem lit_13 : Lit 13 13 := ⟨by decide +kernel, by decide +kernel⟩
theorem lit_14 : Lit 14 14 := ⟨by decide +kernel, by decide +kernel⟩
theorem lit_16 : Lit 16 16 := ⟨by decide +kernel, by decide +kernel⟩
theorem lit_18 : Lit 18 18 := ⟨by decide +kernel, by decide +kernel⟩
theorem lit_20 : Lit 20 20 := ⟨by decide +kernel, by decide +kernel⟩
theorem lit_22 : Lit 22 22 := ⟨by decide +kernel, by decide +kernel⟩
theorem lit_31 : Lit 31 31 := ⟨by decide +kernel, by decide +kernel⟩
theorem lit_32 : Lit 32 32 := ⟨by decide +kernel, by decide +kernel⟩
theorem lit_45 : Lit 45 45 := ⟨by decide +kernel, by decide +kernel⟩
theorem lit_48 : Lit 48 48 := ⟨by decide +kernel, by decide +kernel⟩
theorem lit_54 : Lit 54 54 := ⟨by decide +kernel, by decide +kernel⟩
theorem lit_55 : Lit 55 55 := ⟨by decide +kernel, by decide +kernel⟩
theorem lit_56 : Lit 56 56 := ⟨by decide +kernel, by decide +kernel⟩
theorem lit_57 : Lit 57 57 := ⟨by decide +kernel, by decide +kernel⟩
theorem lit_59 : Lit 59 59 := ⟨by decide +kernel, by decide +kernel⟩
theorem lit_60 : Lit 60 60 := ⟨by decide +kernel, by decide +kernel⟩
theorem lit_61 : Lit 61 61 := ⟨by decide +kernel, by decide +kernel⟩
theorem lit_63 : Lit 63 63 := ⟨by decide +kernel, by decide +kernel⟩
theorem lit_99 : Lit 99 99 := ⟨by decide +kernel, by decide +kernel⟩
theorem lit_100 : Lit 100 100 := ⟨by decide +kernel, by decide +kernel⟩
theorem lit_105 : Lit 105 105 := ⟨by decide +kernel, by decide +kernel⟩
theorem lit_114 : Lit 114 114 := ⟨by decide +kernel, by decide +kernel⟩
theorem lit_117 : Lit 117 117 := ⟨by decide +kernel, by decide +kernel⟩
theorem lit_120 : Lit 120 120 := ⟨by decide +kernel, by decide +kernel⟩
theorem lit_128 : Lit 128 128 := ⟨by decide +kernel, by decide +kernel⟩
theorem lit_199 : Lit 199 199 := ⟨by decide +kernel, by decide +kernel⟩
theorem lit_200 : Lit 200 200 := ⟨by decide +kernel, by decide +kernel⟩
theorem lit_255 : Lit 255 255 := ⟨by decide +kernel, by decide +kernel⟩
theorem lit_256 : Lit 256 256 := ⟨by decide +kernel, by decide +kernel⟩
theorem lit_257 : Lit 257 257 := ⟨by decide +kernel, by decide +kernel⟩
theorem lit_258 : Lit 258 258 := ⟨by decide +kernel, by decide +kernel⟩
theorem lit_300 : Lit 300 300 := ⟨by decide +kernel, by decide +kernel⟩
theorem lit_349 : Lit 349 349 := ⟨by decide +kernel, by decide +kernel⟩
theorem lit_698 : Lit 698 698 := ⟨by decide +kernel, by decide +kernel⟩
theorem lit_1000 : Lit 1000 1000 := ⟨by decide +kernel, by decide +kernel⟩
theorem lit_1745 : Lit 1745 1745 := ⟨by decide +kernel, by decide +kernel⟩
theorem lit_2094 : Lit 2094 2094 := ⟨by decide +kernel, by decide +kernel⟩
theorem lit_9999 : Lit 9999 9999 := ⟨by decide +kernel, by decide +kernel⟩
theorem sh_0 : SH 0 = (6, 0) := by decide +kernel
theorem sh_103 : SH 103 = (10, 2) := by decide +kernel
theorem sh_104 : SH 104 = (9, 2) := by decide +kernel
theorem sh_130 : SH 130 = (7, 0) := by decide +kernel
theorem sh_131 : SH 131 = (8, 349) := by decide +kernel
theorem sh_132 : SH 132 = (8, 349) := by decide +kernel
theorem sh_133 : SH 133 = (8, 2094) := by decide +kernel
theorem sh_134 : SH 134 = (8, 698) := by decide +kernel
theorem sh_135 : SH 135 = (9, 2) := by decide +kernel
theorem sh_136 : SH 136 = (8, 120) := by decide +kernel
theorem sh_137 : SH 137 = (8, 12) := by decide +kernel
theorem sh_138 : SH 138 = (8, 4) := by decide +kernel
theorem sh_139 : SH 139 = (8, 4) := by decide +kernel
theorem sh_140 : SH 140 = (8, 8) := by decide +kernel
theorem sh_141 : SH 141 = (8, 8) := by decide +kernel
theorem sh_142 : SH 142 = (8, 4) := by decide +kernel
theorem sh_143 : SH 143 = (8, 4) := by decide +kernel
theorem sh_144 : SH 144 = (8, 8) := by decide +kernel
theorem sh_145 : SH 145 = (8, 8) := by decide +kernel
theorem sh_146 : SH 146 = (8, 4) := by decide +kernel
theorem sh_147 : SH 147 = (9, 4) := by decide +kernel
def isBand (n : Nat) (R : Rfs) (b : Nat) : Prop := b + 6 ≤ n ∧ SH b = (0, 0) ∧ SH (b + 1) = (8, 32) ∧ SH (b + 2) = (8, 32) ∧ SH (b + 3) = (8, 32) ∧ SH (b + 4) = (8, 128) ∧ SH (b + 5) = (8, 4) ∧ R b 0 = some (b + 1) ∧ R b 1 = some (b + 2) ∧ R b 2 = some (b + 3) ∧ R b 3 = some (b + 4) ∧ R b 10 = some (b + 5)
theorem iBand_s0 {n : Nat} {R : Rfs} {b : Nat} (h : isBand n R b) : SH b = (0, 0) := h.2.1
theorem iBand_l0 {n : Nat} {R : Rfs} {b : Nat} (h : isBand n R b) : b < n := by have := h.1; omega
theorem iBand_s1 {n : Nat} {R : Rfs} {b : Nat} (h : isBand n R b) : SH (b + 1) = (8, 32) := h.2.2.1
theorem iBand_l1 {n : Nat} {R : Rfs} {b : Nat} (h : isBand n R b) : b + 1 < n := by have := h.1; omega
theorem iBand_s2 {n : Nat} {R : Rfs} {b : Nat} (h : isBand n R b) : SH (b + 2) = (8, 32) := h.2.2.2.1
theorem iBand_l2 {n : Nat} {R : Rfs} {b : Nat} (h : isBand n R b) : b + 2 < n := by have := h.1; omega
theorem iBand_s3 {n : Nat} {R : Rfs} {b : Nat} (h : isBand n R b) : SH (b + 3) = (8, 32) := h.2.2.2.2.1
theorem iBand_l3 {n : Nat} {R : Rfs} {b : Nat} (h : isBand n R b) : b + 3 < n := by have := h.1; omega
theorem iBand_s4 {n : Nat} {R : Rfs} {b : Nat} (h : isBand n R b) : SH (b + 4) = (8, 128) := h.2.2.2.2.2.1
theorem iBand_l4 {n : Nat} {R : Rfs} {b : Nat} (h : isBand n R b) : b + 4 < n := by have := h.1; omega
theorem iBand_s5 {n : Nat} {R : Rfs} {b : Nat} (h : isBand n R b) : SH (b + 5) = (8, 4) := h.2.2.2.2.2.2.1
theorem iBand_l5 {n : Nat} {R : Rfs} {b : Nat} (h : isBand n R b) : b + 5 < n := by have := h.1; omega
theorem iBand_r0 {n : Nat} {R : Rfs} {b : Nat} (h : isBand n R b) : R b 0 = some (b + 1) := h.2.2.2.2.2.2.2.1
theorem iBand_r1 {n : Nat} {R : Rfs} {b : Nat} (h : isBand n R b) : R b 1 = some (b + 2) := h.2.2.2.2.2.2.2.2.1
theorem iBand_r2 {n : Nat} {R : Rfs} {b : Nat} (h : isBand n R b) : R b 2 = some (b + 3) := h.2.2.2.2.2.2.2.2.2.1
theorem iBand_r3 {n : Nat} {R : Rfs} {b : Nat} (h : isBand n R b) : R b 3 = some (b + 4) := h.2.2.2.2.2.2.2.2.2.2.1
theorem iBand_r10 {n : Nat} {R : Rfs} {b : Nat} (h : isBand n R b) : R b 10 = some (b + 5) := h.2.2.2.2.2.2.2.2.2.2.2
def isClues (n : Nat) (R : Rfs) (b : Nat) : Prop := b + 3 ≤ n ∧ SH b = (1, 0) ∧ SH (b + 1) = (8, 6) ∧ SH (b + 2) = (8, 6) ∧ R b 0 = some (b + 1) ∧ R b 1 = some (b + 2)
theorem iClues_s0 {n : Nat} {R : Rfs} {b : Nat} (h : isClues n R b) : SH b = (1, 0) := h.2.1
theorem iClues_l0 {n : Nat} {R : Rfs} {b : Nat} (h : isClues n R b) : b < n := by have := h.1; omega
theorem iClues_s1 {n : Nat} {R : Rfs} {b : Nat} (h : isClues n R b) : SH (b + 1) = (8, 6) := h.2.2.1
theorem iClues_l1 {n : Nat} {R : Rfs} {b : Nat} (h : isClues n R b) : b + 1 < n := by have := h.1; omega
theorem iClues_s2 {n : Nat} {R : Rfs} {b : Nat} (h : isClues n R b) : SH (b + 2) = (8, 6) := h.2.2.2.1
theorem iClues_l2 {n : Nat} {R : Rfs} {b : Nat} (h : isClues n R b) : b + 2 < n := by have := h.1; omega
theorem iClues_r0 {n : Nat} {R : Rfs} {b : Nat} (h : isClues n R b) : R b 0 = some (b + 1) := h.2.2.2.2.1
theorem iClues_r1 {n : Nat} {R : Rfs} {b : Nat} (h : isClues n R b) : R b 1 = some (b + 2) := h.2.2.2.2.2
def isPlan (n : Nat) (R : Rfs) (b : Nat) : Prop := b + 5 ≤ n ∧ SH b = (3, 0) ∧ SH (b + 1) = (8, 4) ∧ SH (b + 2) = (8, 4) ∧ SH (b + 3) = (8, 8) ∧ SH (b + 4) = (8, 8) ∧ R b 0 = some (b + 1) ∧ R b 1 = some (b + 2) ∧ R b 2 = some (b + 3) ∧ R b 3 = some (b + 4)
theorem iPlan_s0 {n : Nat} {R : Rfs} {b : Nat} (h : isPlan n R b) : SH b = (3, 0) := h.2.1
theorem iPlan_l0 {n : Nat} {R : Rfs} {b : Nat} (h : isPlan n R b) : b < n := by have := h.1; omega
theorem iPlan_s1 {n : Nat} {R : Rfs} {b : Nat} (h : isPlan n R b) : SH (b + 1) = (8, 4) := h.2.2.1
theorem iPlan_l1 {n : Nat} {R : Rfs} {b : Nat} (h : isPlan n R b) : b + 1 < n := by have := h.1; omega
theorem iPlan_s2 {n : Nat} {R : Rfs} {b : Nat} (h : isPlan n R b) : SH (b + 2) = (8, 4) := h.2.2.2.1
theorem iPlan_l2 {n : Nat} {R : Rfs} {b : Nat} (h : isPlan n R b) : b + 2 < n := by have := h.1; omega
theorem iPlan_s3 {n : Nat} {R : Rfs} {b : Nat} (h : isPlan n R b) : SH (b + 3) = (8, 8) := h.2.2.2.2.1
theorem iPlan_l3 {n : Nat} {R : Rfs} {b : Nat} (h : isPlan n R b) : b + 3 < n := by have := h.1; omega
theorem iPlan_s4 {n : Nat} {R : Rfs} {b : Nat} (h : isPlan n R b) : SH (b + 4) = (8, 8) := h.2.2.2.2.2.1
theorem iPlan_l4 {n : Nat} {R : Rfs} {b : Nat} (h : isPlan n R b) : b + 4 < n := by have := h.1; omega
theorem iPlan_r0 {n : Nat} {R : Rfs} {b : Nat} (h : isPlan n R b) : R b 0 = some (b + 1) := h.2.2.2.2.2.2.1
theorem iPlan_r1 {n : Nat} {R : Rfs} {b : Nat} (h : isPlan n R b) : R b 1 = some (b + 2) := h.2.2.2.2.2.2.2.1
theorem iPlan_r2 {n : Nat} {R : Rfs} {b : Nat} (h : isPlan n R b) : R b 2 = some (b + 3) := h.2.2.2.2.2.2.2.2.1
theorem iPlan_r3 {n : Nat} {R : Rfs} {b : Nat} (h : isPlan n R b) : R b 3 = some (b + 4) := h.2.2.2.2.2.2.2.2.2
def isPress (n : Nat) (R : Rfs) (b : Nat) : Prop := b + 11 ≤ n ∧ SH b = (4, 0) ∧ SH (b + 1) = (8, 4) ∧ SH (b + 2) = (8, 4) ∧ SH (b + 3) = (8, 4) ∧ SH (b + 4) = (8, 32) ∧ R b 0 = some (b + 1) ∧ R b 1 = some (b + 2) ∧ R b 2 = some (b + 3) ∧ R b 3 = some (b + 4) ∧ R b 4 = some (b + 5) ∧ isBand n R (b + 5)
theorem iPress_s0 {n : Nat} {R : Rfs} {b : Nat} (h : isPress n R b) : SH b = (4, 0) := h.2.1
theorem iPress_l0 {n : Nat} {R : Rfs} {b : Nat} (h : isPress n R b) : b < n := by have := h.1; omega
theorem iPress_s1 {n : Nat} {R : Rfs} {b : Nat} (h : isPress n R b) : SH (b + 1) = (8, 4) := h.2.2.1
theorem iPress_l1 {n : Nat} {R : Rfs} {b : Nat} (h : isPress n R b) : b + 1 < n := by have := h.1; omega
theorem iPress_s2 {n : Nat} {R : Rfs} {b : Nat} (h : isPress n R b) : SH (b + 2) = (8, 4) := h.2.2.2.1
theorem iPress_l2 {n : Nat} {R : Rfs} {b : Nat} (h : isPress n R b) : b + 2 < n := by have := h.1; omega
theorem iPress_s3 {n : Nat} {R : Rfs} {b : Nat} (h : isPress n R b) : SH (b + 3) = (8, 4) := h.2.2.2.2.1
theorem iPress_l3 {n : Nat} {R : Rfs} {b : Nat} (h : isPress n R b) : b + 3 < n := by have := h.1; omega
theorem iPress_s4 {n : Nat} {R : Rfs} {b : Nat} (h : isPress n R b) : SH (b + 4) = (8, 32) := h.2.2.2.2.2.1
theorem iPress_l4 {n : Nat} {R : Rfs} {b : Nat} (h : isPress n R b) : b + 4 < n := by have := h.1; omega
theorem iPress_r0 {n : Nat} {R : Rfs} {b : Nat} (h : isPress n R b) : R b 0 = some (b + 1) := h.2.2.2.2.2.2.1
theorem iPress_r1 {n : Nat} {R : Rfs} {b : Nat} (h : isPress n R b) : R b 1 = some (b + 2) := h.2.2.2.2.2.2.2.1
theorem iPress_r2 {n : Nat} {R : Rfs} {b : Nat} (h : isPress n R b) : R b 2 = some (b + 3) := h.2.2.2.2.2.2.2.2.1
theorem iPress_r3 {n : Nat} {R : Rfs} {b : Nat} (h : isPress n R b) : R b 3 = some (b + 4) := h.2.2.2.2.2.2.2.2.2.1
theorem iPress_r4 {n : Nat} {R : Rfs} {b : Nat} (h : isPress n R b) : R b 4 = some (b + 5) := h.2.2.2.2.2.2.2.2.2.2.1
theorem iPress_x {n : Nat} {R : Rfs} {b : Nat} (h : isPress n R b) : isBand n R (b + 5) := h.2.2.2.2.2.2.2.2.2.2.2
def isText (n : Nat) (R : Rfs) (b : Nat) : Prop := b + 2 ≤ n ∧ SH b = (5, 0) ∧ SH (b + 1) = (8, 120) ∧ R b 0 = some (b + 1)
theorem iText_s0 {n : Nat} {R : Rfs} {b : Nat} (h : isText n R b) : SH b = (5, 0) := h.2.1
theorem iText_l0 {n : Nat} {R : Rfs} {b : Nat} (h : isText n R b) : b < n := by have := h.1; omega
theorem iText_s1 {n : Nat} {R : Rfs} {b : Nat} (h : isText n R b) : SH (b + 1) = (8, 120) := h.2.2.1
theorem iText_l1 {n : Nat} {R : Rfs} {b : Nat} (h : isText n R b) : b + 1 < n := by have := h.1; omega
theorem iText_r0 {n : Nat} {R : Rfs} {b : Nat} (h : isText n R b) : R b 0 = some (b + 1) := h.2.2.2
def isHist (n : Nat) (R : Rfs) (b : Nat) : Prop := b + 68 ≤ n ∧ SH b = (2, 0) ∧ SH (b + 1) = (10, 6) ∧ R b 0 = some (b + 1) ∧ ∀ i, i < 6 → R (b + 1) i = some (b + 2 + 11 * i) ∧ isPress n R (b + 2 + 11 * i)
theorem iHist_s0 {n : Nat} {R : Rfs} {b : Nat} (h : isHist n R b) : SH b = (2, 0) := h.2.1
theorem iHist_l0 {n : Nat} {R : Rfs} {b : Nat} (h : isHist n R b) : b < n := by have := h.1; omega
theorem iHist_s1 {n : Nat} {R : Rfs} {b : Nat} (h : isHist n R b) : SH (b + 1) = (10, 6) := h.2.2.1
theorem iHist_l1 {n : Nat} {R : Rfs} {b : Nat} (h : isHist n R b) : b + 1 < n := by have := h.1; omega
theorem iHist_r0 {n : Nat} {R : Rfs} {b : Nat} (h : isHist n R b) : R b 0 = some (b + 1) := h.2.2.2.1
theorem iHist_x {n : Nat} {R : Rfs} {b : Nat} (h : isHist n R b) : ∀ i, i < 6 → R (b + 1) i = some (b + 2 + 11 * i) ∧ isPress n R (b + 2 + 11 * i) := h.2.2.2.2
def isSW (R : Rfs) (pl dr : Nat) : Prop := R 0 0 = some 1 ∧ R 0 1 = some pl ∧ R 0 2 = some dr ∧ R 0 3 = some 13 ∧ R 0 4 = some 24 ∧ R 0 5 = some 35 ∧ R 0 6 = some 103 ∧ R 0 7 = some 104 ∧ R 0 8 = some 105 ∧ isText 148 R 1 ∧ isPlan 148 R pl ∧ isPlan 148 R dr ∧ isPress 148 R 13 ∧ isPress 148 R 24 ∧ isHist 148 R 35 ∧ isClues 148 R 105 ∧ ∀ i, i < 2 → R 103 i = some (108 + 11 * i) ∧ isPress 148 R (108 + 11 * i)
theorem iSW_r0 {R : Rfs} {pl dr : Nat} (h : isSW R pl dr) : R 0 0 = some 1 := h.1
theorem iSW_r1 {R : Rfs} {pl dr : Nat} (h : isSW R pl dr) : R 0 1 = some pl := h.2.1
theorem iSW_r2 {R : Rfs} {pl dr : Nat} (h : isSW R pl dr) : R 0 2 = some dr := h.2.2.1
theorem iSW_r3 {R : Rfs} {pl dr : Nat} (h : isSW R pl dr) : R 0 3 = some 13 := h.2.2.2.1
theorem iSW_r4 {R : Rfs} {pl dr : Nat} (h : isSW R pl dr) : R 0 4 = some 24 := h.2.2.2.2.1
theorem iSW_r5 {R : Rfs} {pl dr : Nat} (h : isSW R pl dr) : R 0 5 = some 35 := h.2.2.2.2.2.1
theorem iSW_r6 {R : Rfs} {pl dr : Nat} (h : isSW R pl dr) : R 0 6 = some 103 := h.2.2.2.2.2.2.1
theorem iSW_r7 {R : Rfs} {pl dr : Nat} (h : isSW R pl dr) : R 0 7 = some 104 := h.2.2.2.2.2.2.2.1
theorem iSW_r8 {R : Rfs} {pl dr : Nat} (h : isSW R pl dr) : R 0 8 = some 105 := h.2.2.2.2.2.2.2.2.1
theorem iSW_text {R : Rfs} {pl dr : Nat} (h : isSW R pl dr) : isText 148 R 1 := h.2.2.2.2.2.2.2.2.2.1
theorem iSW_plan {R : Rfs} {pl dr : Nat} (h : isSW R pl dr) : isPlan 148 R pl := h.2.2.2.2.2.2.2.2.2.2.1
theorem iSW_draft {R : Rfs} {pl dr : Nat} (h : isSW R pl dr) : isPlan 148 R dr := h.2.2.2.2.2.2.2.2.2.2.2.1
theorem iSW_press {R : Rfs} {pl dr : Nat} (h : isSW R pl dr) : isPress 148 R 13 := h.2.2.2.2.2.2.2.2.2.2.2.2.1
theorem iSW_trial {R : Rfs} {pl dr : Nat} (h : isSW R pl dr) : isPress 148 R 24 := h.2.2.2.2.2.2.2.2.2.2.2.2.2.1
theorem iSW_hist {R : Rfs} {pl dr : Nat} (h : isSW R pl dr) : isHist 148 R 35 := h.2.2.2.2.2.2.2.2.2.2.2.2.2.2.1
theorem iSW_clues {R : Rfs} {pl dr : Nat} (h : isSW R pl dr) : isClues 148 R 105 := h.2.2.2.2.2.2.2.2.2.2.2.2.2.2.2.1
theorem iSW_img {R : Rfs} {pl dr : Nat} (h : isSW R pl dr) : ∀ i, i < 2 → R 103 i = some (108 + 11 * i) ∧ isPress 148 R (108 + 11 * i) := h.2.2.2.2.2.2.2.2.2.2.2.2.2.2.2.2
def isMod (R : Rfs) : Prop := R 130 0 = some 131 ∧ R 130 1 = some 132 ∧ R 130 2 = some 133 ∧ R 130 4 = some 134 ∧ R 130 5 = some 135 ∧ R 130 6 = some 136 ∧ R 130 8 = some 137 ∧ R 130 11 = some 138 ∧ R 130 12 = some 139 ∧ R 130 14 = some 140 ∧ R 130 15 = some 141 ∧ R 130 16 = some 142 ∧ R 130 19 = some 143 ∧ R 130 20 = some 144 ∧ R 130 21 = some 145 ∧ R 130 22 = some 146 ∧ R 130 23 = some 147
theorem iMod_r0 {R : Rfs} (h : isMod R) : R 130 0 = some 131 := h.1
theorem iMod_r1 {R : Rfs} (h : isMod R) : R 130 1 = some 132 := h.2.1
theorem iMod_r2 {R : Rfs} (h : isMod R) : R 130 2 = some 133 := h.2.2.1
theorem iMod_r4 {R : Rfs} (h : isMod R) : R 130 4 = some 134 := h.2.2.2.1
theorem iMod_r5 {R : Rfs} (h : isMod R) : R 130 5 = some 135 := h.2.2.2.2.1
theorem iMod_r6 {R : Rfs} (h : isMod R) : R 130 6 = some 136 := h.2.2.2.2.2.1
theorem iMod_r8 {R : Rfs} (h : isMod R) : R 130 8 = some 137 := h.2.2.2.2.2.2.1
theorem iMod_r11 {R : Rfs} (h : isMod R) : R 130 11 = some 138 := h.2.2.2.2.2.2.2.1
theorem iMod_r12 {R : Rfs} (h : isMod R) : R 130 12 = some 139 := h.2.2.2.2.2.2.2.2.1
theorem iMod_r14 {R : Rfs} (h : isMod R) : R 130 14 = some 140 := h.2.2.2.2.2.2.2.2.2.1
theorem iMod_r15 {R : Rfs} (h : isMod R) : R 130 15 = some 141 := h.2.2.2.2.2.2.2.2.2.2.1
theorem iMod_r16 {R : Rfs} (h : isMod R) : R 130 16 = some 142 := h.2.2.2.2.2.2.2.2.2.2.2.1
theorem iMod_r19 {R : Rfs} (h : isMod R) : R 130 19 = some 143 := h.2.2.2.2.2.2.2.2.2.2.2.2.1
theorem iMod_r20 {R : Rfs} (h : isMod R) : R 130 20 = some 144 := h.2.2.2.2.2.2.2.2.2.2.2.2.2.1
theorem iMod_r21 {R : Rfs} (h : isMod R) : R 130 21 = some 145 := h.2.2.2.2.2.2.2.2.2.2.2.2.2.2.1
theorem iMod_r22 {R : Rfs} (h : isMod R) : R 130 22 = some 146 := h.2.2.2.2.2.2.2.2.2.2.2.2.2.2.2.1
theorem iMod_r23 {R : Rfs} (h : isMod R) : R 130 23 = some 147 := h.2.2.2.2.2.2.2.2.2.2.2.2.2.2.2.2
