abbrev jX0_init : MI := (0, cX0_init, 2, none, true, iX0_init)
set_option maxRecDepth 100000 in
theorem oX0_init : ab_ok2 jX0_init 2 yX0_init := ⟨by decide +kernel, ⟨ab_T_of 106 (by decide +kernel) rfl, ab_T_of 56 (by decide +kernel) rfl, ⟨by decide, by decide⟩, by decide, ⟨ab_T_of 105 (by decide +kernel) rfl, rfl, rfl⟩⟩, by decide, rfl, fun q => rfl, Or.inl rfl⟩
abbrev jX0_copyFrom : MI := (0, cX0_copyFrom, 3, none, false, iX0_copyFrom)
set_option maxRecDepth 100000 in
theorem oX0_copyFrom : ab_ok2 jX0_copyFrom 0 yX0_copyFrom := ⟨by decide +kernel, ⟨ab_T_of 340 (by decide +kernel) rfl, ab_T_of 56 (by decide +kernel) rfl, ⟨by decide, by decide⟩, by decide, ⟨ab_T_of 338 (by decide +kernel) rfl, ab_T_of 339 (by decide +kernel) rfl⟩⟩, by decide, rfl, fun q => absurd q (by decide), Or.inl rfl⟩
abbrev jX0_takeStatement : MI := (0, cX0_takeStatement, 3, some .boolean, false, iX0_takeStatement)
set_option maxRecDepth 100000 in
theorem oX0_takeStatement : ab_ok2 jX0_takeStatement 0 yX0_takeStatement := ⟨by decide +kernel, ⟨ab_T_of 352 (by decide +kernel) rfl, ab_T_of 56 (by decide +kernel) rfl, ⟨by decide, by decide⟩, by decide, ⟨ab_T_of 350 (by decide +kernel) rfl, ab_T_of 351 (by decide +kernel) rfl⟩⟩, by decide, rfl, fun q => absurd q (by decide), Or.inr (Or.inr rfl)⟩
abbrev jX0_addCog : MI := (0, cX0_addCog, 2, some .boolean, false, iX0_addCog)
set_option maxRecDepth 100000 in
theorem oX0_addCog : ab_ok2 jX0_addCog 0 yX0_addCog := ⟨by decide +kernel, ⟨ab_T_of 356 (by decide +kernel) rfl, ab_T_of 56 (by decide +kernel) rfl, ⟨by decide, by decide⟩, by decide, ⟨ab_T_of 355 (by decide +kernel) rfl, ab_T_of 7 (by decide +kernel) rfl⟩⟩, by decide, rfl, fun q => absurd q (by decide), Or.inr (Or.inr rfl)⟩
abbrev jX0_addFault : MI := (0, cX0_addFault, 2, some .boolean, false, iX0_addFault)
set_option maxRecDepth 100000 in
theorem oX0_addFault : ab_ok2 jX0_addFault 0 yX0_addFault := ⟨by decide +kernel, ⟨ab_T_of 360 (by decide +kernel) rfl, ab_T_of 56 (by decide +kernel) rfl, ⟨by decide, by decide⟩, by decide, ⟨ab_T_of 359 (by decide +kernel) rfl, ab_T_of 8 (by decide +kernel) rfl⟩⟩, by decide, rfl, fun q => absurd q (by decide), Or.inr (Or.inr rfl)⟩
abbrev jX0_addStage : MI := (0, cX0_addStage, 4, none, false, iX0_addStage)
set_option maxRecDepth 100000 in
theorem oX0_addStage : ab_ok2 jX0_addStage 0 yX0_addStage := ⟨by decide +kernel, ⟨ab_T_of 425 (by decide +kernel) rfl, ab_T_of 56 (by decide +kernel) rfl, ⟨by decide, by decide⟩, by decide, ⟨ab_T_of 423 (by decide +kernel) rfl, ab_T_of 424 (by decide +kernel) rfl⟩⟩, by decide, rfl, fun q => absurd q (by decide), Or.inl rfl⟩
abbrev jX0_turnsOfRide : MI := (0, cX0_turnsOfRide, 3, some .int, false, iX0_turnsOfRide)
set_option maxRecDepth 100000 in
theorem oX0_turnsOfRide : ab_ok2 jX0_turnsOfRide 0 yX0_turnsOfRide := ⟨by decide +kernel, ⟨ab_T_of 522 (by decide +kernel) rfl, ab_T_of 56 (by decide +kernel) rfl, ⟨by decide, by decide⟩, by decide, ⟨ab_T_of 520 (by decide +kernel) rfl, ab_T_of 521 (by decide +kernel) rfl⟩⟩, by decide, rfl, fun q => absurd q (by decide), Or.inr (Or.inl rfl)⟩
abbrev jX0_upOf : MI := (0, cX0_upOf, 2, some .int, false, iX0_upOf)
set_option maxRecDepth 100000 in
theorem oX0_upOf : ab_ok2 jX0_upOf 0 yX0_upOf := ⟨by decide +kernel, ⟨ab_T_of 392 (by decide +kernel) rfl, ab_T_of 56 (by decide +kernel) rfl, ⟨by decide, by decide⟩, by decide, ⟨ab_T_of 390 (by decide +kernel) rfl, ab_T_of 391 (by decide +kernel) rfl⟩⟩, by decide, rfl, fun q => absurd q (by decide), Or.inr (Or.inl rfl)⟩
abbrev jX0_downOf : MI := (0, cX0_downOf, 3, some .int, false, iX0_downOf)
set_option maxRecDepth 100000 in
theorem oX0_downOf : ab_ok2 jX0_downOf 0 yX0_downOf := ⟨by decide +kernel, ⟨ab_T_of 396 (by decide +kernel) rfl, ab_T_of 56 (by decide +kernel) rfl, ⟨by decide, by decide⟩, by decide, ⟨ab_T_of 394 (by decide +kernel) rfl, ab_T_of 395 (by decide +kernel) rfl⟩⟩, by decide, rfl, fun q => absurd q (by decide), Or.inr (Or.inl rfl)⟩
abbrev jX0_loadIn : MI := (0, cX0_loadIn, 6, some .int, false, iX0_loadIn)
set_option maxRecDepth 100000 in
theorem oX0_loadIn : ab_ok2 jX0_loadIn 0 yX0_loadIn := ⟨by decide +kernel, ⟨ab_T_of 407 (by decide +kernel) rfl, ab_T_of 56 (by decide +kernel) rfl, ⟨by decide, by decide⟩, by decide, ⟨ab_T_of 405 (by decide +kernel) rfl, ab_T_of 406 (by decide +kernel) rfl⟩⟩, by decide, rfl, fun q => absurd q (by decide), Or.inr (Or.inl rfl)⟩
abbrev jX0_wasOiled : MI := (0, cX0_wasOiled, 1, some .boolean, false, iX0_wasOiled)
set_option maxRecDepth 100000 in
theorem oX0_wasOiled : ab_ok2 jX0_wasOiled 0 yX0_wasOiled := ⟨by decide +kernel, ⟨ab_T_of 644 (by decide +kernel) rfl, ab_T_of 56 (by decide +kernel) rfl, ⟨by decide, by decide⟩, by decide, ⟨ab_T_of 642 (by decide +kernel) rfl, ab_T_of 643 (by decide +kernel) rfl⟩⟩, by decide, rfl, fun q => absurd q (by decide), Or.inr (Or.inr rfl)⟩
abbrev jX0_isSilent : MI := (0, cX0_isSilent, 3, some .boolean, false, iX0_isSilent)
set_option maxRecDepth 100000 in
theorem oX0_isSilent : ab_ok2 jX0_isSilent 0 yX0_isSilent := ⟨by decide +kernel, ⟨ab_T_of 468 (by decide +kernel) rfl, ab_T_of 56 (by decide +kernel) rfl, ⟨by decide, by decide⟩, by decide, ⟨ab_T_of 466 (by decide +kernel) rfl, ab_T_of 467 (by decide +kernel) rfl⟩⟩, by decide, rfl, fun q => absurd q (by decide), Or.inr (Or.inr rfl)⟩
abbrev jX0_weightOf : MI := (0, cX0_weightOf, 4, some .int, false, iX0_weightOf)
set_option maxRecDepth 100000 in
theorem oX0_weightOf : ab_ok2 jX0_weightOf 0 yX0_weightOf := ⟨by decide +kernel, ⟨ab_T_of 545 (by decide +kernel) rfl, ab_T_of 56 (by decide +kernel) rfl, ⟨by decide, by decide⟩, by decide, ⟨ab_T_of 543 (by decide +kernel) rfl, ab_T_of 544 (by decide +kernel) rfl⟩⟩, by decide, rfl, fun q => absurd q (by decide), Or.inr (Or.inl rfl)⟩
abbrev jX1_init : MI := (1, cX1_init, 1, none, true, iX1_init)
set_option maxRecDepth 100000 in
theorem oX1_init : ab_ok2 jX1_init 2 yX1_init := ⟨by decide +kernel, ⟨ab_T_of 113 (by decide +kernel) rfl, ab_T_of 57 (by decide +kernel) rfl, ⟨by decide, by decide⟩, by decide, ⟨ab_T_of 112 (by decide +kernel) rfl, rfl, rfl⟩⟩, by decide, rfl, fun q => rfl, Or.inl rfl⟩
abbrev jX1_copyFrom : MI := (1, cX1_copyFrom, 2, none, false, iX1_copyFrom)
set_option maxRecDepth 100000 in
theorem oX1_copyFrom : ab_ok2 jX1_copyFrom 0 yX1_copyFrom := ⟨by decide +kernel, ⟨ab_T_of 347 (by decide +kernel) rfl, ab_T_of 57 (by decide +kernel) rfl, ⟨by decide, by decide⟩, by decide, ⟨ab_T_of 345 (by decide +kernel) rfl, ab_T_of 346 (by decide +kernel) rfl⟩⟩, by decide, rfl, fun q => absurd q (by decide), Or.inl rfl⟩
abbrev jX1_become : MI := (1, cX1_become, 2, some .boolean, false, iX1_become)
set_option maxRecDepth 100000 in
theorem oX1_become : ab_ok2 jX1_become 0 yX1_become := ⟨by decide +kernel, ⟨ab_T_of 364 (by decide +kernel) rfl, ab_T_of 57 (by decide +kernel) rfl, ⟨by decide, by decide⟩, by decide, ⟨ab_T_of 362 (by decide +kernel) rfl, ab_T_of 363 (by decide +kernel) rfl⟩⟩, by decide, rfl, fun q => absurd q (by decide), Or.inr (Or.inr rfl)⟩
abbrev jX1_limitAfter : MI := (1, cX1_limitAfter, 3, some .int, false, iX1_limitAfter)
set_option maxRecDepth 100000 in
theorem oX1_limitAfter : ab_ok2 jX1_limitAfter 0 yX1_limitAfter := ⟨by decide +kernel, ⟨ab_T_of 384 (by decide +kernel) rfl, ab_T_of 57 (by decide +kernel) rfl, ⟨by decide, by decide⟩, by decide, ⟨ab_T_of 382 (by decide +kernel) rfl, ab_T_of 383 (by decide +kernel) rfl⟩⟩, by decide, rfl, fun q => absurd q (by decide), Or.inr (Or.inl rfl)⟩
abbrev jX1_goesBack : MI := (1, cX1_goesBack, 1, some .boolean, false, iX1_goesBack)
set_option maxRecDepth 100000 in
theorem oX1_goesBack : ab_ok2 jX1_goesBack 0 yX1_goesBack := ⟨by decide +kernel, ⟨ab_T_of 485 (by decide +kernel) rfl, ab_T_of 57 (by decide +kernel) rfl, ⟨by decide, by decide⟩, by decide, ⟨ab_T_of 483 (by decide +kernel) rfl, ab_T_of 484 (by decide +kernel) rfl⟩⟩, by decide, rfl, fun q => absurd q (by decide), Or.inr (Or.inr rfl)⟩
abbrev jX1_goesAheadOf : MI := (1, cX1_goesAheadOf, 2, some .boolean, false, iX1_goesAheadOf)
set_option maxRecDepth 100000 in
theorem oX1_goesAheadOf : ab_ok2 jX1_goesAheadOf 0 yX1_goesAheadOf := ⟨by decide +kernel, ⟨ab_T_of 605 (by decide +kernel) rfl, ab_T_of 57 (by decide +kernel) rfl, ⟨by decide, by decide⟩, by decide, ⟨ab_T_of 603 (by decide +kernel) rfl, ab_T_of 604 (by decide +kernel) rfl⟩⟩, by decide, rfl, fun q => absurd q (by decide), Or.inr (Or.inr rfl)⟩
abbrev jX1_scaleTo : MI := (1, cX1_scaleTo, 2, none, false, iX1_scaleTo)
set_option maxRecDepth 100000 in
theorem oX1_scaleTo : ab_ok2 jX1_scaleTo 0 yX1_scaleTo := ⟨by decide +kernel, ⟨ab_T_of 460 (by decide +kernel) rfl, ab_T_of 57 (by decide +kernel) rfl, ⟨by decide, by decide⟩, by decide, ⟨ab_T_of 458 (by decide +kernel) rfl, ab_T_of 459 (by decide +kernel) rfl⟩⟩, by decide, rfl, fun q => absurd q (by decide), Or.inl rfl⟩
abbrev jX1_partsToClick : MI := (1, cX1_partsToClick, 1, some .int, false, iX1_partsToClick)
set_option maxRecDepth 100000 in
theorem oX1_partsToClick : ab_ok2 jX1_partsToClick 0 yX1_partsToClick := ⟨by decide +kernel, ⟨ab_T_of 474 (by decide +kernel) rfl, ab_T_of 57 (by decide +kernel) rfl, ⟨by decide, by decide⟩, by decide, ⟨ab_T_of 472 (by decide +kernel) rfl, ab_T_of 473 (by decide +kernel) rfl⟩⟩, by decide, rfl, fun q => absurd q (by decide), Or.inr (Or.inl rfl)⟩
abbrev jX1_move : MI := (1, cX1_move, 2, none, false, iX1_move)
set_option maxRecDepth 100000 in
theorem oX1_move : ab_ok2 jX1_move 0 yX1_move := ⟨by decide +kernel, ⟨ab_T_of 489 (by decide +kernel) rfl, ab_T_of 57 (by decide +kernel) rfl, ⟨by decide, by decide⟩, by decide, ⟨ab_T_of 487 (by decide +kernel) rfl, ab_T_of 488 (by decide +kernel) rfl⟩⟩, by decide, rfl, fun q => absurd q (by decide), Or.inl rfl⟩
abbrev jX2_init : MI := (2, cX2_init, 2, none, true, iX2_init)
set_option maxRecDepth 100000 in
theorem oX2_init : ab_ok2 jX2_init 2 yX2_init := ⟨by decide +kernel, ⟨ab_T_of 217 (by decide +kernel) rfl, ab_T_of 58 (by decide +kernel) rfl, ⟨by decide, by decide⟩, by decide, ⟨ab_T_of 216 (by decide +kernel) rfl, rfl, rfl⟩⟩, by decide, rfl, fun q => rfl, Or.inl rfl⟩
abbrev jX2_begin : MI := (2, cX2_begin, 3, none, false, iX2_begin)
set_option maxRecDepth 100000 in
theorem oX2_begin : ab_ok2 jX2_begin 0 yX2_begin := ⟨by decide +kernel, ⟨ab_T_of 445 (by decide +kernel) rfl, ab_T_of 58 (by decide +kernel) rfl, ⟨by decide, by decide⟩, by decide, ⟨ab_T_of 443 (by decide +kernel) rfl, ab_T_of 444 (by decide +kernel) rfl⟩⟩, by decide, rfl, fun q => absurd q (by decide), Or.inl rfl⟩
abbrev jX2_passRide : MI := (2, cX2_passRide, 4, some .int, false, iX2_passRide)
set_option maxRecDepth 100000 in
theorem oX2_passRide : ab_ok2 jX2_passRide 0 yX2_passRide := ⟨by decide +kernel, ⟨ab_T_of 441 (by decide +kernel) rfl, ab_T_of 58 (by decide +kernel) rfl, ⟨by decide, by decide⟩, by decide, ⟨ab_T_of 439 (by decide +kernel) rfl, ab_T_of 440 (by decide +kernel) rfl⟩⟩, by decide, rfl, fun q => absurd q (by decide), Or.inr (Or.inl rfl)⟩
abbrev jX2_passStage : MI := (2, cX2_passStage, 4, none, false, iX2_passStage)
set_option maxRecDepth 100000 in
theorem oX2_passStage : ab_ok2 jX2_passStage 0 yX2_passStage := ⟨by decide +kernel, ⟨ab_T_of 451 (by decide +kernel) rfl, ab_T_of 58 (by decide +kernel) rfl, ⟨by decide, by decide⟩, by decide, ⟨ab_T_of 449 (by decide +kernel) rfl, ab_T_of 450 (by decide +kernel) rfl⟩⟩, by decide, rfl, fun q => absurd q (by decide), Or.inl rfl⟩
abbrev jX2_shiftTo : MI := (2, cX2_shiftTo, 2, none, false, iX2_shiftTo)
set_option maxRecDepth 100000 in
theorem oX2_shiftTo : ab_ok2 jX2_shiftTo 0 yX2_shiftTo := ⟨by decide +kernel, ⟨ab_T_of 455 (by decide +kernel) rfl, ab_T_of 58 (by decide +kernel) rfl, ⟨by decide, by decide⟩, by decide, ⟨ab_T_of 453 (by decide +kernel) rfl, ab_T_of 454 (by decide +kernel) rfl⟩⟩, by decide, rfl, fun q => absurd q (by decide), Or.inl rfl⟩
abbrev jX2_comesByIn : MI := (2, cX2_comesByIn, 2, some .boolean, false, iX2_comesByIn)
set_option maxRecDepth 100000 in
theorem oX2_comesByIn : ab_ok2 jX2_comesByIn 0 yX2_comesByIn := ⟨by decide +kernel, ⟨ab_T_of 581 (by decide +kernel) rfl, ab_T_of 58 (by decide +kernel) rfl, ⟨by decide, by decide⟩, by decide, ⟨ab_T_of 579 (by decide +kernel) rfl, ab_T_of 580 (by decide +kernel) rfl⟩⟩, by decide, rfl, fun q => absurd q (by decide), Or.inr (Or.inr rfl)⟩
abbrev jX2_partsInStep : MI := (2, cX2_partsInStep, 2, some .int, false, iX2_partsInStep)
set_option maxRecDepth 100000 in
theorem oX2_partsInStep : ab_ok2 jX2_partsInStep 0 yX2_partsInStep := ⟨by decide +kernel, ⟨ab_T_of 481 (by decide +kernel) rfl, ab_T_of 58 (by decide +kernel) rfl, ⟨by decide, by decide⟩, by decide, ⟨ab_T_of 480 (by decide +kernel) rfl, ab_T_of 12 (by decide +kernel) rfl⟩⟩, by decide, rfl, fun q => absurd q (by decide), Or.inr (Or.inl rfl)⟩
abbrev jX2_listen : MI := (2, cX2_listen, 11, none, false, iX2_listen)
set_option maxRecDepth 100000 in
theorem oX2_listen : ab_ok2 jX2_listen 0 yX2_listen := ⟨by decide +kernel, ⟨ab_T_of 464 (by decide +kernel) rfl, ab_T_of 58 (by decide +kernel) rfl, ⟨by decide, by decide⟩, by decide, ⟨ab_T_of 463 (by decide +kernel) rfl, ab_T_of 11 (by decide +kernel) rfl⟩⟩, by decide, rfl, fun q => absurd q (by decide), Or.inl rfl⟩
abbrev jX3_init : MI := (3, cX3_init, 1, none, true, iX3_init)
set_option maxRecDepth 100000 in
theorem oX3_init : ab_ok2 jX3_init 2 yX3_init := ⟨by decide +kernel, ⟨ab_T_of 74 (by decide +kernel) rfl, ab_T_of 55 (by decide +kernel) rfl, ⟨by decide, by decide⟩, by decide, ⟨ab_T_of 73 (by decide +kernel) rfl, rfl, rfl⟩⟩, by decide, rfl, fun q => rfl, Or.inl rfl⟩
abbrev jX3_add : MI := (3, cX3_add, 2, none, false, iX3_add)
set_option maxRecDepth 100000 in
theorem oX3_add : ab_ok2 jX3_add 0 yX3_add := ⟨by decide +kernel, ⟨ab_T_of 297 (by decide +kernel) rfl, ab_T_of 55 (by decide +kernel) rfl, ⟨by decide, by decide⟩, by decide, ⟨ab_T_of 295 (by decide +kernel) rfl, ab_T_of 296 (by decide +kernel) rfl⟩⟩, by decide, rfl, fun q => absurd q (by decide), Or.inl rfl⟩
abbrev jX3_checkForm : MI := (3, cX3_checkForm, 2, some .int, false, iX3_checkForm)
set_option maxRecDepth 100000 in
theorem oX3_checkForm : ab_ok2 jX3_checkForm 0 yX3_checkForm := ⟨by decide +kernel, ⟨ab_T_of 305 (by decide +kernel) rfl, ab_T_of 55 (by decide +kernel) rfl, ⟨by decide, by decide⟩, by decide, ⟨ab_T_of 303 (by decide +kernel) rfl, ab_T_of 304 (by decide +kernel) rfl⟩⟩, by decide, rfl, fun q => absurd q (by decide), Or.inr (Or.inl rfl)⟩
abbrev jX3_readStatement : MI := (3, cX3_readStatement, 1, some .boolean, false, iX3_readStatement)
set_option maxRecDepth 100000 in
theorem oX3_readStatement : ab_ok2 jX3_readStatement 0 yX3_readStatement := ⟨by decide +kernel, ⟨ab_T_of 309 (by decide +kernel) rfl, ab_T_of 55 (by decide +kernel) rfl, ⟨by decide, by decide⟩, by decide, ⟨ab_T_of 307 (by decide +kernel) rfl, ab_T_of 308 (by decide +kernel) rfl⟩⟩, by decide, rfl, fun q => absurd q (by decide), Or.inr (Or.inr rfl)⟩
abbrev jX3_readFault : MI := (3, cX3_readFault, 1, some .boolean, false, iX3_readFault)
set_option maxRecDepth 100000 in
theorem oX3_readFault : ab_ok2 jX3_readFault 0 yX3_readFault := ⟨by decide +kernel, ⟨ab_T_of 317 (by decide +kernel) rfl, ab_T_of 55 (by decide +kernel) rfl, ⟨by decide, by decide⟩, by decide, ⟨ab_T_of 316 (by decide +kernel) rfl, ab_T_of 2 (by decide +kernel) rfl⟩⟩, by decide, rfl, fun q => absurd q (by decide), Or.inr (Or.inr rfl)⟩
abbrev jX3_readBall : MI := (3, cX3_readBall, 1, some .boolean, false, iX3_readBall)
set_option maxRecDepth 100000 in
theorem oX3_readBall : ab_ok2 jX3_readBall 0 yX3_readBall := ⟨by decide +kernel, ⟨ab_T_of 332 (by decide +kernel) rfl, ab_T_of 55 (by decide +kernel) rfl, ⟨by decide, by decide⟩, by decide, ⟨ab_T_of 331 (by decide +kernel) rfl, ab_T_of 5 (by decide +kernel) rfl⟩⟩, by decide, rfl, fun q => absurd q (by decide), Or.inr (Or.inr rfl)⟩
abbrev jX3_readNumber : MI := (3, cX3_readNumber, 6, some .boolean, false, iX3_readNumber)
set_option maxRecDepth 100000 in
theorem oX3_readNumber : ab_ok2 jX3_readNumber 0 yX3_readNumber := ⟨by decide +kernel, ⟨ab_T_of 324 (by decide +kernel) rfl, ab_T_of 55 (by decide +kernel) rfl, ⟨by decide, by decide⟩, by decide, ⟨ab_T_of 323 (by decide +kernel) rfl, ab_T_of 3 (by decide +kernel) rfl⟩⟩, by decide, rfl, fun q => absurd q (by decide), Or.inr (Or.inr rfl)⟩
abbrev jX3_skip : MI := (3, cX3_skip, 2, some .boolean, false, iX3_skip)
set_option maxRecDepth 100000 in
theorem oX3_skip : ab_ok2 jX3_skip 0 yX3_skip := ⟨by decide +kernel, ⟨ab_T_of 328 (by decide +kernel) rfl, ab_T_of 55 (by decide +kernel) rfl, ⟨by decide, by decide⟩, by decide, ⟨ab_T_of 327 (by decide +kernel) rfl, ab_T_of 4 (by decide +kernel) rfl⟩⟩, by decide, rfl, fun q => absurd q (by decide), Or.inr (Or.inr rfl)⟩
abbrev jX3_peek : MI := (3, cX3_peek, 1, some .int, false, iX3_peek)
set_option maxRecDepth 100000 in
theorem oX3_peek : ab_ok2 jX3_peek 0 yX3_peek := ⟨by decide +kernel, ⟨ab_T_of 313 (by decide +kernel) rfl, ab_T_of 55 (by decide +kernel) rfl, ⟨by decide, by decide⟩, by decide, ⟨ab_T_of 312 (by decide +kernel) rfl, ab_T_of 1 (by decide +kernel) rfl⟩⟩, by decide, rfl, fun q => absurd q (by decide), Or.inr (Or.inl rfl)⟩
abbrev jX3_kindOf : MI := (3, cX3_kindOf, 1, some .int, false, iX3_kindOf)
set_option maxRecDepth 100000 in
theorem oX3_kindOf : ab_ok2 jX3_kindOf 1 yX3_kindOf := ⟨by decide +kernel, ⟨ab_T_of 320 (by decide +kernel) rfl, ab_T_of 55 (by decide +kernel) rfl, ⟨by decide, by decide⟩, by decide, ab_T_of 319 (by decide +kernel) rfl⟩, by decide, rfl, fun q => absurd q (by decide), Or.inr (Or.inl rfl)⟩
abbrev jX4_init : MI := (4, cX4_init, 1, none, true, iX4_init)
set_option maxRecDepth 100000 in
theorem oX4_init : ab_ok2 jX4_init 2 yX4_init := ⟨by decide +kernel, ⟨ab_T_of 66 (by decide +kernel) rfl, ab_T_of 54 (by decide +kernel) rfl, ⟨by decide, by decide⟩, by decide, ⟨ab_T_of 65 (by decide +kernel) rfl, rfl, rfl⟩⟩, by decide, rfl, fun q => rfl, Or.inl rfl⟩
abbrev jX4_feed : MI := (4, cX4_feed, 5, some .int, false, iX4_feed)
set_option maxRecDepth 100000 in
theorem oX4_feed : ab_ok2 jX4_feed 0 yX4_feed := ⟨by decide +kernel, ⟨ab_T_of 289 (by decide +kernel) rfl, ab_T_of 54 (by decide +kernel) rfl, ⟨by decide, by decide⟩, by decide, ⟨ab_T_of 287 (by decide +kernel) rfl, ab_T_of 288 (by decide +kernel) rfl⟩⟩, by decide, rfl, fun q => absurd q (by decide), Or.inr (Or.inl rfl)⟩
abbrev jX4_bicycle : MI := (4, cX4_bicycle, 2, some .int, false, iX4_bicycle)
set_option maxRecDepth 100000 in
theorem oX4_bicycle : ab_ok2 jX4_bicycle 0 yX4_bicycle := ⟨by decide +kernel, ⟨ab_T_of 301 (by decide +kernel) rfl, ab_T_of 54 (by decide +kernel) rfl, ⟨by decide, by decide⟩, by decide, ⟨ab_T_of 299 (by decide +kernel) rfl, ab_T_of 300 (by decide +kernel) rfl⟩⟩, by decide, rfl, fun q => absurd q (by decide), Or.inr (Or.inl rfl)⟩
abbrev jX4_part : MI := (4, cX4_part, 3, some .int, false, iX4_part)
set_option maxRecDepth 100000 in
theorem oX4_part : ab_ok2 jX4_part 0 yX4_part := ⟨by decide +kernel, ⟨ab_T_of 368 (by decide +kernel) rfl, ab_T_of 54 (by decide +kernel) rfl, ⟨by decide, by decide⟩, by decide, ⟨ab_T_of 366 (by decide +kernel) rfl, ab_T_of 367 (by decide +kernel) rfl⟩⟩, by decide, rfl, fun q => absurd q (by decide), Or.inr (Or.inl rfl)⟩
abbrev jX4_fault : MI := (4, cX4_fault, 4, some .int, false, iX4_fault)
set_option maxRecDepth 100000 in
theorem oX4_fault : ab_ok2 jX4_fault 0 yX4_fault := ⟨by decide +kernel, ⟨ab_T_of 376 (by decide +kernel) rfl, ab_T_of 54 (by decide +kernel) rfl, ⟨by decide, by decide⟩, by decide, ⟨ab_T_of 374 (by decide +kernel) rfl, ab_T_of 375 (by decide +kernel) rfl⟩⟩, by decide, rfl, fun q => absurd q (by decide), Or.inr (Or.inl rfl)⟩
abbrev jX4_rounds : MI := (4, cX4_rounds, 5, some .int, false, iX4_rounds)
set_option maxRecDepth 100000 in
theorem oX4_rounds : ab_ok2 jX4_rounds 0 yX4_rounds := ⟨by decide +kernel, ⟨ab_T_of 388 (by decide +kernel) rfl, ab_T_of 54 (by decide +kernel) rfl, ⟨by decide, by decide⟩, by decide, ⟨ab_T_of 386 (by decide +kernel) rfl, ab_T_of 387 (by decide +kernel) rfl⟩⟩, by decide, rfl, fun q => absurd q (by decide), Or.inr (Or.inl rfl)⟩
abbrev jX4_load : MI := (4, cX4_load, 3, some .int, false, iX4_load)
set_option maxRecDepth 100000 in
theorem oX4_load : ab_ok2 jX4_load 0 yX4_load := ⟨by decide +kernel, ⟨ab_T_of 400 (by decide +kernel) rfl, ab_T_of 54 (by decide +kernel) rfl, ⟨by decide, by decide⟩, by decide, ⟨ab_T_of 398 (by decide +kernel) rfl, ab_T_of 399 (by decide +kernel) rfl⟩⟩, by decide, rfl, fun q => absurd q (by decide), Or.inr (Or.inl rfl)⟩
abbrev jX4_set : MI := (4, cX4_set, 4, some .int, false, iX4_set)
set_option maxRecDepth 100000 in
theorem oX4_set : ab_ok2 jX4_set 0 yX4_set := ⟨by decide +kernel, ⟨ab_T_of 411 (by decide +kernel) rfl, ab_T_of 54 (by decide +kernel) rfl, ⟨by decide, by decide⟩, by decide, ⟨ab_T_of 409 (by decide +kernel) rfl, ab_T_of 410 (by decide +kernel) rfl⟩⟩, by decide, rfl, fun q => absurd q (by decide), Or.inr (Or.inl rfl)⟩
abbrev jX4_oil : MI := (4, cX4_oil, 3, some .int, false, iX4_oil)
set_option maxRecDepth 100000 in
theorem oX4_oil : ab_ok2 jX4_oil 0 yX4_oil := ⟨by decide +kernel, ⟨ab_T_of 417 (by decide +kernel) rfl, ab_T_of 54 (by decide +kernel) rfl, ⟨by decide, by decide⟩, by decide, ⟨ab_T_of 415 (by decide +kernel) rfl, ab_T_of 416 (by decide +kernel) rfl⟩⟩, by decide, rfl, fun q => absurd q (by decide), Or.inr (Or.inl rfl)⟩
abbrev jX4_stage : MI := (4, cX4_stage, 4, some .int, false, iX4_stage)
set_option maxRecDepth 100000 in
theorem oX4_stage : ab_ok2 jX4_stage 0 yX4_stage := ⟨by decide +kernel, ⟨ab_T_of 421 (by decide +kernel) rfl, ab_T_of 54 (by decide +kernel) rfl, ⟨by decide, by decide⟩, by decide, ⟨ab_T_of 419 (by decide +kernel) rfl, ab_T_of 420 (by decide +kernel) rfl⟩⟩, by decide, rfl, fun q => absurd q (by decide), Or.inr (Or.inl rfl)⟩
abbrev jX4_stageOf : MI := (4, cX4_stageOf, 3, some .int, false, iX4_stageOf)
set_option maxRecDepth 100000 in
theorem oX4_stageOf : ab_ok2 jX4_stageOf 0 yX4_stageOf := ⟨by decide +kernel, ⟨ab_T_of 429 (by decide +kernel) rfl, ab_T_of 54 (by decide +kernel) rfl, ⟨by decide, by decide⟩, by decide, ⟨ab_T_of 427 (by decide +kernel) rfl, ab_T_of 428 (by decide +kernel) rfl⟩⟩, by decide, rfl, fun q => absurd q (by decide), Or.inr (Or.inl rfl)⟩
abbrev jX4_drop : MI := (4, cX4_drop, 2, some .int, false, iX4_drop)
set_option maxRecDepth 100000 in
theorem oX4_drop : ab_ok2 jX4_drop 0 yX4_drop := ⟨by decide +kernel, ⟨ab_T_of 433 (by decide +kernel) rfl, ab_T_of 54 (by decide +kernel) rfl, ⟨by decide, by decide⟩, by decide, ⟨ab_T_of 431 (by decide +kernel) rfl, ab_T_of 432 (by decide +kernel) rfl⟩⟩, by decide, rfl, fun q => absurd q (by decide), Or.inr (Or.inl rfl)⟩
abbrev jX4_counts : MI := (4, cX4_counts, 2, some .int, false, iX4_counts)
set_option maxRecDepth 100000 in
theorem oX4_counts : ab_ok2 jX4_counts 0 yX4_counts := ⟨by decide +kernel, ⟨ab_T_of 437 (by decide +kernel) rfl, ab_T_of 54 (by decide +kernel) rfl, ⟨by decide, by decide⟩, by decide, ⟨ab_T_of 435 (by decide +kernel) rfl, ab_T_of 436 (by decide +kernel) rfl⟩⟩, by decide, rfl, fun q => absurd q (by decide), Or.inr (Or.inl rfl)⟩
abbrev jX4_stageCounts : MI := (4, cX4_stageCounts, 5, some .int, false, iX4_stageCounts)
set_option maxRecDepth 100000 in
theorem oX4_stageCounts : ab_ok2 jX4_stageCounts 0 yX4_stageCounts := ⟨by decide +kernel, ⟨ab_T_of 493 (by decide +kernel) rfl, ab_T_of 54 (by decide +kernel) rfl, ⟨by decide, by decide⟩, by decide, ⟨ab_T_of 491 (by decide +kernel) rfl, ab_T_of 492 (by decide +kernel) rfl⟩⟩, by decide, rfl, fun q => absurd q (by decide), Or.inr (Or.inl rfl)⟩
abbrev jX4_when : MI := (4, cX4_when, 3, some .int, false, iX4_when)
set_option maxRecDepth 100000 in
theorem oX4_when : ab_ok2 jX4_when 0 yX4_when := ⟨by decide +kernel, ⟨ab_T_of 503 (by decide +kernel) rfl, ab_T_of 54 (by decide +kernel) rfl, ⟨by decide, by decide⟩, by decide, ⟨ab_T_of 501 (by decide +kernel) rfl, ab_T_of 502 (by decide +kernel) rfl⟩⟩, by decide, rfl, fun q => absurd q (by decide), Or.inr (Or.inl rfl)⟩
abbrev jX4_heard : MI := (4, cX4_heard, 7, some .int, false, iX4_heard)
set_option maxRecDepth 100000 in
theorem oX4_heard : ab_ok2 jX4_heard 0 yX4_heard := ⟨by decide +kernel, ⟨ab_T_of 507 (by decide +kernel) rfl, ab_T_of 54 (by decide +kernel) rfl, ⟨by decide, by decide⟩, by decide, ⟨ab_T_of 505 (by decide +kernel) rfl, ab_T_of 506 (by decide +kernel) rfl⟩⟩, by decide, rfl, fun q => absurd q (by decide), Or.inr (Or.inl rfl)⟩
abbrev jX4_go : MI := (4, cX4_go, 3, some .int, false, iX4_go)
set_option maxRecDepth 100000 in
theorem oX4_go : ab_ok2 jX4_go 0 yX4_go := ⟨by decide +kernel, ⟨ab_T_of 518 (by decide +kernel) rfl, ab_T_of 54 (by decide +kernel) rfl, ⟨by decide, by decide⟩, by decide, ⟨ab_T_of 516 (by decide +kernel) rfl, ab_T_of 517 (by decide +kernel) rfl⟩⟩, by decide, rfl, fun q => absurd q (by decide), Or.inr (Or.inl rfl)⟩
abbrev jX4_fit : MI := (4, cX4_fit, 3, some .int, false, iX4_fit)
set_option maxRecDepth 100000 in
theorem oX4_fit : ab_ok2 jX4_fit 0 yX4_fit := ⟨by decide +kernel, ⟨ab_T_of 527 (by decide +kernel) rfl, ab_T_of 54 (by decide +kernel) rfl, ⟨by decide, by decide⟩, by decide, ⟨ab_T_of 525 (by decide +kernel) rfl, ab_T_of 526 (by decide +kernel) rfl⟩⟩, by decide, rfl, fun q => absurd q (by decide), Or.inr (Or.inl rfl)⟩
abbrev jX4_odds : MI := (4, cX4_odds, 6, some .int, false, iX4_odds)
set_option maxRecDepth 100000 in
theorem oX4_odds : ab_ok2 jX4_odds 0 yX4_odds := ⟨by decide +kernel, ⟨ab_T_of 541 (by decide +kernel) rfl, ab_T_of 54 (by decide +kernel) rfl, ⟨by decide, by decide⟩, by decide, ⟨ab_T_of 539 (by decide +kernel) rfl, ab_T_of 540 (by decide +kernel) rfl⟩⟩, by decide, rfl, fun q => absurd q (by decide), Or.inr (Or.inl rfl)⟩
abbrev jX4_twos : MI := (4, cX4_twos, 7, some .int, false, iX4_twos)
set_option maxRecDepth 100000 in
theorem oX4_twos : ab_ok2 jX4_twos 0 yX4_twos := ⟨by decide +kernel, ⟨ab_T_of 552 (by decide +kernel) rfl, ab_T_of 54 (by decide +kernel) rfl, ⟨by decide, by decide⟩, by decide, ⟨ab_T_of 550 (by decide +kernel) rfl, ab_T_of 551 (by decide +kernel) rfl⟩⟩, by decide, rfl, fun q => absurd q (by decide), Or.inr (Or.inl rfl)⟩
abbrev jX4_apart : MI := (4, cX4_apart, 6, some .int, false, iX4_apart)
set_option maxRecDepth 100000 in
theorem oX4_apart : ab_ok2 jX4_apart 0 yX4_apart := ⟨by decide +kernel, ⟨ab_T_of 556 (by decide +kernel) rfl, ab_T_of 54 (by decide +kernel) rfl, ⟨by decide, by decide⟩, by decide, ⟨ab_T_of 554 (by decide +kernel) rfl, ab_T_of 555 (by decide +kernel) rfl⟩⟩, by decide, rfl, fun q => absurd q (by decide), Or.inr (Or.inl rfl)⟩
abbrev jX4_tells : MI := (4, cX4_tells, 8, some .int, false, iX4_tells)
set_option maxRecDepth 100000 in
theorem oX4_tells : ab_ok2 jX4_tells 0 yX4_tells := ⟨by decide +kernel, ⟨ab_T_of 564 (by decide +kernel) rfl, ab_T_of 54 (by decide +kernel) rfl, ⟨by decide, by decide⟩, by decide, ⟨ab_T_of 562 (by decide +kernel) rfl, ab_T_of 563 (by decide +kernel) rfl⟩⟩, by decide, rfl, fun q => absurd q (by decide), Or.inr (Or.inl rfl)⟩
abbrev jX4_length : MI := (4, cX4_length, 7, some .int, false, iX4_length)
set_option maxRecDepth 100000 in
theorem oX4_length : ab_ok2 jX4_length 0 yX4_length := ⟨by decide +kernel, ⟨ab_T_of 572 (by decide +kernel) rfl, ab_T_of 54 (by decide +kernel) rfl, ⟨by decide, by decide⟩, by decide, ⟨ab_T_of 570 (by decide +kernel) rfl, ab_T_of 571 (by decide +kernel) rfl⟩⟩, by decide, rfl, fun q => absurd q (by decide), Or.inr (Or.inl rfl)⟩
abbrev jX4_beat : MI := (4, cX4_beat, 5, some .int, false, iX4_beat)
set_option maxRecDepth 100000 in
theorem oX4_beat : ab_ok2 jX4_beat 0 yX4_beat := ⟨by decide +kernel, ⟨ab_T_of 576 (by decide +kernel) rfl, ab_T_of 54 (by decide +kernel) rfl, ⟨by decide, by decide⟩, by decide, ⟨ab_T_of 574 (by decide +kernel) rfl, ab_T_of 575 (by decide +kernel) rfl⟩⟩, by decide, rfl, fun q => absurd q (by decide), Or.inr (Or.inl rfl)⟩
abbrev jX4_away : MI := (4, cX4_away, 4, some .int, false, iX4_away)
set_option maxRecDepth 100000 in
theorem oX4_away : ab_ok2 jX4_away 0 yX4_away := ⟨by decide +kernel, ⟨ab_T_of 586 (by decide +kernel) rfl, ab_T_of 54 (by decide +kernel) rfl, ⟨by decide, by decide⟩, by decide, ⟨ab_T_of 584 (by decide +kernel) rfl, ab_T_of 585 (by decide +kernel) rfl⟩⟩, by decide, rfl, fun q => absurd q (by decide), Or.inr (Or.inl rfl)⟩
abbrev jX4_danger : MI := (4, cX4_danger, 3, some .int, false, iX4_danger)
set_option maxRecDepth 100000 in
theorem oX4_danger : ab_ok2 jX4_danger 0 yX4_danger := ⟨by decide +kernel, ⟨ab_T_of 590 (by decide +kernel) rfl, ab_T_of 54 (by decide +kernel) rfl, ⟨by decide, by decide⟩, by decide, ⟨ab_T_of 588 (by decide +kernel) rfl, ab_T_of 589 (by decide +kernel) rfl⟩⟩, by decide, rfl, fun q => absurd q (by decide), Or.inr (Or.inl rfl)⟩
abbrev jX4_least : MI := (4, cX4_least, 2, some .int, false, iX4_least)
set_option maxRecDepth 100000 in
theorem oX4_least : ab_ok2 jX4_least 0 yX4_least := ⟨by decide +kernel, ⟨ab_T_of 597 (by decide +kernel) rfl, ab_T_of 54 (by decide +kernel) rfl, ⟨by decide, by decide⟩, by decide, ⟨ab_T_of 595 (by decide +kernel) rfl, ab_T_of 596 (by decide +kernel) rfl⟩⟩, by decide, rfl, fun q => absurd q (by decide), Or.inr (Or.inl rfl)⟩
abbrev jX4_row : MI := (4, cX4_row, 2, some .int, false, iX4_row)
set_option maxRecDepth 100000 in
theorem oX4_row : ab_ok2 jX4_row 0 yX4_row := ⟨by decide +kernel, ⟨ab_T_of 613 (by decide +kernel) rfl, ab_T_of 54 (by decide +kernel) rfl, ⟨by decide, by decide⟩, by decide, ⟨ab_T_of 611 (by decide +kernel) rfl, ab_T_of 612 (by decide +kernel) rfl⟩⟩, by decide, rfl, fun q => absurd q (by decide), Or.inr (Or.inl rfl)⟩
abbrev jX4_judge : MI := (4, cX4_judge, 4, some .int, false, iX4_judge)
set_option maxRecDepth 100000 in
theorem oX4_judge : ab_ok2 jX4_judge 0 yX4_judge := ⟨by decide +kernel, ⟨ab_T_of 617 (by decide +kernel) rfl, ab_T_of 54 (by decide +kernel) rfl, ⟨by decide, by decide⟩, by decide, ⟨ab_T_of 615 (by decide +kernel) rfl, ab_T_of 616 (by decide +kernel) rfl⟩⟩, by decide, rfl, fun q => absurd q (by decide), Or.inr (Or.inl rfl)⟩
abbrev jX4_held : MI := (4, cX4_held, 1, some .int, false, iX4_held)
set_option maxRecDepth 100000 in
theorem oX4_held : ab_ok2 jX4_held 0 yX4_held := ⟨by decide +kernel, ⟨ab_T_of 624 (by decide +kernel) rfl, ab_T_of 54 (by decide +kernel) rfl, ⟨by decide, by decide⟩, by decide, ⟨ab_T_of 622 (by decide +kernel) rfl, ab_T_of 623 (by decide +kernel) rfl⟩⟩, by decide, rfl, fun q => absurd q (by decide), Or.inr (Or.inl rfl)⟩
abbrev jX4_image : MI := (4, cX4_image, 1, some .int, false, iX4_image)
set_option maxRecDepth 100000 in
theorem oX4_image : ab_ok2 jX4_image 0 yX4_image := ⟨by decide +kernel, ⟨ab_T_of 632 (by decide +kernel) rfl, ab_T_of 54 (by decide +kernel) rfl, ⟨by decide, by decide⟩, by decide, ⟨ab_T_of 630 (by decide +kernel) rfl, ab_T_of 631 (by decide +kernel) rfl⟩⟩, by decide, rfl, fun q => absurd q (by decide), Or.inr (Or.inl rfl)⟩
abbrev jX4_on : MI := (4, cX4_on, 1, some .int, false, iX4_on)
set_option maxRecDepth 100000 in
theorem oX4_on : ab_ok2 jX4_on 0 yX4_on := ⟨by decide +kernel, ⟨ab_T_of 636 (by decide +kernel) rfl, ab_T_of 54 (by decide +kernel) rfl, ⟨by decide, by decide⟩, by decide, ⟨ab_T_of 634 (by decide +kernel) rfl, ab_T_of 635 (by decide +kernel) rfl⟩⟩, by decide, rfl, fun q => absurd q (by decide), Or.inr (Or.inl rfl)⟩
abbrev jX4_count : MI := (4, cX4_count, 2, some .int, false, iX4_count)
set_option maxRecDepth 100000 in
theorem oX4_count : ab_ok2 jX4_count 0 yX4_count := ⟨by decide +kernel, ⟨ab_T_of 640 (by decide +kernel) rfl, ab_T_of 54 (by decide +kernel) rfl, ⟨by decide, by decide⟩, by decide, ⟨ab_T_of 638 (by decide +kernel) rfl, ab_T_of 639 (by decide +kernel) rfl⟩⟩, by decide, rfl, fun q => absurd q (by decide), Or.inr (Or.inl rfl)⟩
abbrev jX4_refuse : MI := (4, cX4_refuse, 3, some .int, false, iX4_refuse)
set_option maxRecDepth 100000 in
theorem oX4_refuse : ab_ok2 jX4_refuse 0 yX4_refuse := ⟨by decide +kernel, ⟨ab_T_of 293 (by decide +kernel) rfl, ab_T_of 54 (by decide +kernel) rfl, ⟨by decide, by decide⟩, by decide, ⟨ab_T_of 292 (by decide +kernel) rfl, ab_T_of 0 (by decide +kernel) rfl⟩⟩, by decide, rfl, fun q => absurd q (by decide), Or.inr (Or.inl rfl)⟩
abbrev jX4_isFault : MI := (4, cX4_isFault, 2, some .boolean, false, iX4_isFault)
set_option maxRecDepth 100000 in
theorem oX4_isFault : ab_ok2 jX4_isFault 0 yX4_isFault := ⟨by decide +kernel, ⟨ab_T_of 380 (by decide +kernel) rfl, ab_T_of 54 (by decide +kernel) rfl, ⟨by decide, by decide⟩, by decide, ⟨ab_T_of 379 (by decide +kernel) rfl, ab_T_of 10 (by decide +kernel) rfl⟩⟩, by decide, rfl, fun q => absurd q (by decide), Or.inr (Or.inr rfl)⟩
abbrev jX4_areTwoFaults : MI := (4, cX4_areTwoFaults, 3, some .boolean, false, iX4_areTwoFaults)
set_option maxRecDepth 100000 in
theorem oX4_areTwoFaults : ab_ok2 jX4_areTwoFaults 0 yX4_areTwoFaults := ⟨by decide +kernel, ⟨ab_T_of 560 (by decide +kernel) rfl, ab_T_of 54 (by decide +kernel) rfl, ⟨by decide, by decide⟩, by decide, ⟨ab_T_of 559 (by decide +kernel) rfl, ab_T_of 16 (by decide +kernel) rfl⟩⟩, by decide, rfl, fun q => absurd q (by decide), Or.inr (Or.inr rfl)⟩
abbrev jX4_isGear : MI := (4, cX4_isGear, 2, some .boolean, false, iX4_isGear)
set_option maxRecDepth 100000 in
theorem oX4_isGear : ab_ok2 jX4_isGear 0 yX4_isGear := ⟨by decide +kernel, ⟨ab_T_of 372 (by decide +kernel) rfl, ab_T_of 54 (by decide +kernel) rfl, ⟨by decide, by decide⟩, by decide, ⟨ab_T_of 371 (by decide +kernel) rfl, ab_T_of 9 (by decide +kernel) rfl⟩⟩, by decide, rfl, fun q => absurd q (by decide), Or.inr (Or.inr rfl)⟩
abbrev jX4_isAct : MI := (4, cX4_isAct, 1, some .boolean, false, iX4_isAct)
set_option maxRecDepth 100000 in
theorem oX4_isAct : ab_ok2 jX4_isAct 1 yX4_isAct := ⟨by decide +kernel, ⟨ab_T_of 403 (by decide +kernel) rfl, ab_T_of 54 (by decide +kernel) rfl, ⟨by decide, by decide⟩, by decide, ab_T_of 402 (by decide +kernel) rfl⟩, by decide, rfl, fun q => absurd q (by decide), Or.inr (Or.inr rfl)⟩
abbrev jX4_isWithin : MI := (4, cX4_isWithin, 3, some .boolean, false, iX4_isWithin)
set_option maxRecDepth 100000 in
theorem oX4_isWithin : ab_ok2 jX4_isWithin 1 yX4_isWithin := ⟨by decide +kernel, ⟨ab_T_of 534 (by decide +kernel) rfl, ab_T_of 54 (by decide +kernel) rfl, ⟨by decide, by decide⟩, by decide, ab_T_of 533 (by decide +kernel) rfl⟩, by decide, rfl, fun q => absurd q (by decide), Or.inr (Or.inr rfl)⟩
abbrev jX4_takeStatements : MI := (4, cX4_takeStatements, 4, some .int, false, iX4_takeStatements)
set_option maxRecDepth 100000 in
theorem oX4_takeStatements : ab_ok2 jX4_takeStatements 0 yX4_takeStatements := ⟨by decide +kernel, ⟨ab_T_of 336 (by decide +kernel) rfl, ab_T_of 54 (by decide +kernel) rfl, ⟨by decide, by decide⟩, by decide, ⟨ab_T_of 335 (by decide +kernel) rfl, ab_T_of 6 (by decide +kernel) rfl⟩⟩, by decide, rfl, fun q => absurd q (by decide), Or.inr (Or.inl rfl)⟩
abbrev jX4_clicksInStage : MI := (4, cX4_clicksInStage, 5, some .int, false, iX4_clicksInStage)
set_option maxRecDepth 100000 in
theorem oX4_clicksInStage : ab_ok2 jX4_clicksInStage 0 yX4_clicksInStage := ⟨by decide +kernel, ⟨ab_T_of 497 (by decide +kernel) rfl, ab_T_of 54 (by decide +kernel) rfl, ⟨by decide, by decide⟩, by decide, ⟨ab_T_of 496 (by decide +kernel) rfl, ab_T_of 13 (by decide +kernel) rfl⟩⟩, by decide, rfl, fun q => absurd q (by decide), Or.inr (Or.inl rfl)⟩
abbrev jX4_listenToRide : MI := (4, cX4_listenToRide, 2, none, false, iX4_listenToRide)
set_option maxRecDepth 100000 in
theorem oX4_listenToRide : ab_ok2 jX4_listenToRide 0 yX4_listenToRide := ⟨by decide +kernel, ⟨ab_T_of 511 (by decide +kernel) rfl, ab_T_of 54 (by decide +kernel) rfl, ⟨by decide, by decide⟩, by decide, ⟨ab_T_of 510 (by decide +kernel) rfl, ab_T_of 14 (by decide +kernel) rfl⟩⟩, by decide, rfl, fun q => absurd q (by decide), Or.inl rfl⟩
abbrev jX4_fittingBits : MI := (4, cX4_fittingBits, 5, some .int, false, iX4_fittingBits)
set_option maxRecDepth 100000 in
theorem oX4_fittingBits : ab_ok2 jX4_fittingBits 0 yX4_fittingBits := ⟨by decide +kernel, ⟨ab_T_of 531 (by decide +kernel) rfl, ab_T_of 54 (by decide +kernel) rfl, ⟨by decide, by decide⟩, by decide, ⟨ab_T_of 530 (by decide +kernel) rfl, ab_T_of 15 (by decide +kernel) rfl⟩⟩, by decide, rfl, fun q => absurd q (by decide), Or.inr (Or.inl rfl)⟩
abbrev jX4_unlikeCounts : MI := (4, cX4_unlikeCounts, 8, some .int, false, iX4_unlikeCounts)
set_option maxRecDepth 100000 in
theorem oX4_unlikeCounts : ab_ok2 jX4_unlikeCounts 0 yX4_unlikeCounts := ⟨by decide +kernel, ⟨ab_T_of 568 (by decide +kernel) rfl, ab_T_of 54 (by decide +kernel) rfl, ⟨by decide, by decide⟩, by decide, ⟨ab_T_of 567 (by decide +kernel) rfl, ab_T_of 17 (by decide +kernel) rfl⟩⟩, by decide, rfl, fun q => absurd q (by decide), Or.inr (Or.inl rfl)⟩
abbrev jX4_leastTerm : MI := (4, cX4_leastTerm, 5, some .int, false, iX4_leastTerm)
set_option maxRecDepth 100000 in
theorem oX4_leastTerm : ab_ok2 jX4_leastTerm 1 yX4_leastTerm := ⟨by decide +kernel, ⟨ab_T_of 548 (by decide +kernel) rfl, ab_T_of 54 (by decide +kernel) rfl, ⟨by decide, by decide⟩, by decide, ab_T_of 547 (by decide +kernel) rfl⟩, by decide, rfl, fun q => absurd q (by decide), Or.inr (Or.inl rfl)⟩
abbrev jX4_wrap : MI := (4, cX4_wrap, 3, some .int, false, iX4_wrap)
set_option maxRecDepth 100000 in
theorem oX4_wrap : ab_ok2 jX4_wrap 1 yX4_wrap := ⟨by decide +kernel, ⟨ab_T_of 477 (by decide +kernel) rfl, ab_T_of 54 (by decide +kernel) rfl, ⟨by decide, by decide⟩, by decide, ab_T_of 476 (by decide +kernel) rfl⟩, by decide, rfl, fun q => absurd q (by decide), Or.inr (Or.inl rfl)⟩
abbrev jX4_findLeastOrder : MI := (4, cX4_findLeastOrder, 3, none, false, iX4_findLeastOrder)
set_option maxRecDepth 100000 in
theorem oX4_findLeastOrder : ab_ok2 jX4_findLeastOrder 0 yX4_findLeastOrder := ⟨by decide +kernel, ⟨ab_T_of 601 (by decide +kernel) rfl, ab_T_of 54 (by decide +kernel) rfl, ⟨by decide, by decide⟩, by decide, ⟨ab_T_of 600 (by decide +kernel) rfl, ab_T_of 18 (by decide +kernel) rfl⟩⟩, by decide, rfl, fun q => absurd q (by decide), Or.inl rfl⟩
abbrev jX4_sumOf : MI := (4, cX4_sumOf, 6, some .int, false, iX4_sumOf)
set_option maxRecDepth 100000 in
theorem oX4_sumOf : ab_ok2 jX4_sumOf 0 yX4_sumOf := ⟨by decide +kernel, ⟨ab_T_of 609 (by decide +kernel) rfl, ab_T_of 54 (by decide +kernel) rfl, ⟨by decide, by decide⟩, by decide, ⟨ab_T_of 608 (by decide +kernel) rfl, ab_T_of 19 (by decide +kernel) rfl⟩⟩, by decide, rfl, fun q => absurd q (by decide), Or.inr (Or.inl rfl)⟩
abbrev jX4_isToldEachFaultOnce : MI := (4, cX4_isToldEachFaultOnce, 3, some .boolean, false, iX4_isToldEachFaultOnce)
set_option maxRecDepth 100000 in
theorem oX4_isToldEachFaultOnce : ab_ok2 jX4_isToldEachFaultOnce 0 yX4_isToldEachFaultOnce := ⟨by decide +kernel, ⟨ab_T_of 628 (by decide +kernel) rfl, ab_T_of 54 (by decide +kernel) rfl, ⟨by decide, by decide⟩, by decide, ⟨ab_T_of 627 (by decide +kernel) rfl, ab_T_of 20 (by decide +kernel) rfl⟩⟩, by decide, rfl, fun q => absurd q (by decide), Or.inr (Or.inr rfl)⟩
abbrev jX5_init : MI := (5, cX5_init, 1, none, true, iX5_init)
set_option maxRecDepth 100000 in
theorem oX5_init : ab_ok2 jX5_init 2 yX5_init := ⟨by decide +kernel, ⟨ab_T_of 649 (by decide +kernel) rfl, ab_T_of 59 (by decide +kernel) rfl, ⟨by decide, by decide⟩, by decide, ⟨ab_T_of 648 (by decide +kernel) rfl, rfl, rfl⟩⟩, by decide, rfl, fun q => rfl, Or.inl rfl⟩
abbrev jX5_refuse : MI := (5, cX5_refuse, 2, some .int, false, iX5_refuse)
set_option maxRecDepth 100000 in
theorem oX5_refuse : ab_ok2 jX5_refuse 0 yX5_refuse := ⟨by decide +kernel, ⟨ab_T_of 734 (by decide +kernel) rfl, ab_T_of 59 (by decide +kernel) rfl, ⟨by decide, by decide⟩, by decide, ⟨ab_T_of 733 (by decide +kernel) rfl, ab_T_of 21 (by decide +kernel) rfl⟩⟩, by decide, rfl, fun q => absurd q (by decide), Or.inr (Or.inl rfl)⟩
abbrev jX5_isIn : MI := (5, cX5_isIn, 2, some .boolean, false, iX5_isIn)
set_option maxRecDepth 100000 in
theorem oX5_isIn : ab_ok2 jX5_isIn 1 yX5_isIn := ⟨by decide +kernel, ⟨ab_T_of 780 (by decide +kernel) rfl, ab_T_of 59 (by decide +kernel) rfl, ⟨by decide, by decide⟩, by decide, ab_T_of 779 (by decide +kernel) rfl⟩, by decide, rfl, fun q => absurd q (by decide), Or.inr (Or.inr rfl)⟩
abbrev jX5_within : MI := (5, cX5_within, 3, some .int, false, iX5_within)
set_option maxRecDepth 100000 in
theorem oX5_within : ab_ok2 jX5_within 1 yX5_within := ⟨by decide +kernel, ⟨ab_T_of 818 (by decide +kernel) rfl, ab_T_of 59 (by decide +kernel) rfl, ⟨by decide, by decide⟩, by decide, ab_T_of 817 (by decide +kernel) rfl⟩, by decide, rfl, fun q => absurd q (by decide), Or.inr (Or.inl rfl)⟩
abbrev jX5_isFault : MI := (5, cX5_isFault, 2, some .boolean, false, iX5_isFault)
set_option maxRecDepth 100000 in
theorem oX5_isFault : ab_ok2 jX5_isFault 0 yX5_isFault := ⟨by decide +kernel, ⟨ab_T_of 788 (by decide +kernel) rfl, ab_T_of 59 (by decide +kernel) rfl, ⟨by decide, by decide⟩, by decide, ⟨ab_T_of 787 (by decide +kernel) rfl, ab_T_of 29 (by decide +kernel) rfl⟩⟩, by decide, rfl, fun q => absurd q (by decide), Or.inr (Or.inr rfl)⟩
abbrev jX5_isGear : MI := (5, cX5_isGear, 2, some .boolean, false, iX5_isGear)
set_option maxRecDepth 100000 in
theorem oX5_isGear : ab_ok2 jX5_isGear 0 yX5_isGear := ⟨by decide +kernel, ⟨ab_T_of 777 (by decide +kernel) rfl, ab_T_of 59 (by decide +kernel) rfl, ⟨by decide, by decide⟩, by decide, ⟨ab_T_of 776 (by decide +kernel) rfl, ab_T_of 28 (by decide +kernel) rfl⟩⟩, by decide, rfl, fun q => absurd q (by decide), Or.inr (Or.inr rfl)⟩
abbrev jX5_isAct : MI := (5, cX5_isAct, 1, some .boolean, false, iX5_isAct)
set_option maxRecDepth 100000 in
theorem oX5_isAct : ab_ok2 jX5_isAct 1 yX5_isAct := ⟨by decide +kernel, ⟨ab_T_of 815 (by decide +kernel) rfl, ab_T_of 59 (by decide +kernel) rfl, ⟨by decide, by decide⟩, by decide, ab_T_of 814 (by decide +kernel) rfl⟩, by decide, rfl, fun q => absurd q (by decide), Or.inr (Or.inr rfl)⟩
abbrev jX5_get : MI := (5, cX5_get, 3, some .int, false, iX5_get)
set_option maxRecDepth 100000 in
theorem oX5_get : ab_ok2 jX5_get 0 yX5_get := ⟨by decide +kernel, ⟨ab_T_of 792 (by decide +kernel) rfl, ab_T_of 59 (by decide +kernel) rfl, ⟨by decide, by decide⟩, by decide, ⟨ab_T_of 791 (by decide +kernel) rfl, ab_T_of 30 (by decide +kernel) rfl⟩⟩, by decide, rfl, fun q => absurd q (by decide), Or.inr (Or.inl rfl)⟩
abbrev jX5_feed : MI := (5, cX5_feed, 5, some .int, false, iX5_feed)
set_option maxRecDepth 100000 in
theorem oX5_feed : ab_ok2 jX5_feed 0 yX5_feed := ⟨by decide +kernel, ⟨ab_T_of 730 (by decide +kernel) rfl, ab_T_of 59 (by decide +kernel) rfl, ⟨by decide, by decide⟩, by decide, ⟨ab_T_of 728 (by decide +kernel) rfl, ab_T_of 729 (by decide +kernel) rfl⟩⟩, by decide, rfl, fun q => absurd q (by decide), Or.inr (Or.inl rfl)⟩
abbrev jX5_sign : MI := (5, cX5_sign, 1, some .int, false, iX5_sign)
set_option maxRecDepth 100000 in
theorem oX5_sign : ab_ok2 jX5_sign 0 yX5_sign := ⟨by decide +kernel, ⟨ab_T_of 751 (by decide +kernel) rfl, ab_T_of 59 (by decide +kernel) rfl, ⟨by decide, by decide⟩, by decide, ⟨ab_T_of 750 (by decide +kernel) rfl, ab_T_of 24 (by decide +kernel) rfl⟩⟩, by decide, rfl, fun q => absurd q (by decide), Or.inr (Or.inl rfl)⟩
abbrev jX5_takes : MI := (5, cX5_takes, 2, some .boolean, false, iX5_takes)
set_option maxRecDepth 100000 in
theorem oX5_takes : ab_ok2 jX5_takes 0 yX5_takes := ⟨by decide +kernel, ⟨ab_T_of 759 (by decide +kernel) rfl, ab_T_of 59 (by decide +kernel) rfl, ⟨by decide, by decide⟩, by decide, ⟨ab_T_of 758 (by decide +kernel) rfl, ab_T_of 26 (by decide +kernel) rfl⟩⟩, by decide, rfl, fun q => absurd q (by decide), Or.inr (Or.inr rfl)⟩
abbrev jX5_readsNumber : MI := (5, cX5_readsNumber, 5, some .boolean, false, iX5_readsNumber)
set_option maxRecDepth 100000 in
theorem oX5_readsNumber : ab_ok2 jX5_readsNumber 0 yX5_readsNumber := ⟨by decide +kernel, ⟨ab_T_of 755 (by decide +kernel) rfl, ab_T_of 59 (by decide +kernel) rfl, ⟨by decide, by decide⟩, by decide, ⟨ab_T_of 754 (by decide +kernel) rfl, ab_T_of 25 (by decide +kernel) rfl⟩⟩, by decide, rfl, fun q => absurd q (by decide), Or.inr (Or.inr rfl)⟩
abbrev jX5_kindOf : MI := (5, cX5_kindOf, 1, some .int, false, iX5_kindOf)
set_option maxRecDepth 100000 in
theorem oX5_kindOf : ab_ok2 jX5_kindOf 1 yX5_kindOf := ⟨by decide +kernel, ⟨ab_T_of 762 (by decide +kernel) rfl, ab_T_of 59 (by decide +kernel) rfl, ⟨by decide, by decide⟩, by decide, ab_T_of 761 (by decide +kernel) rfl⟩, by decide, rfl, fun q => absurd q (by decide), Or.inr (Or.inl rfl)⟩
abbrev jX5_readsStatement : MI := (5, cX5_readsStatement, 2, some .boolean, false, iX5_readsStatement)
set_option maxRecDepth 100000 in
theorem oX5_readsStatement : ab_ok2 jX5_readsStatement 0 yX5_readsStatement := ⟨by decide +kernel, ⟨ab_T_of 747 (by decide +kernel) rfl, ab_T_of 59 (by decide +kernel) rfl, ⟨by decide, by decide⟩, by decide, ⟨ab_T_of 746 (by decide +kernel) rfl, ab_T_of 23 (by decide +kernel) rfl⟩⟩, by decide, rfl, fun q => absurd q (by decide), Or.inr (Or.inr rfl)⟩
abbrev jX5_between : MI := (5, cX5_between, 3, some .boolean, false, iX5_between)
set_option maxRecDepth 100000 in
theorem oX5_between : ab_ok2 jX5_between 1 yX5_between := ⟨by decide +kernel, ⟨ab_T_of 769 (by decide +kernel) rfl, ab_T_of 59 (by decide +kernel) rfl, ⟨by decide, by decide⟩, by decide, ab_T_of 768 (by decide +kernel) rfl⟩, by decide, rfl, fun q => absurd q (by decide), Or.inr (Or.inr rfl)⟩
abbrev jX5_comes : MI := (5, cX5_comes, 5, some .boolean, false, iX5_comes)
set_option maxRecDepth 100000 in
theorem oX5_comes : ab_ok2 jX5_comes 0 yX5_comes := ⟨by decide +kernel, ⟨ab_T_of 766 (by decide +kernel) rfl, ab_T_of 59 (by decide +kernel) rfl, ⟨by decide, by decide⟩, by decide, ⟨ab_T_of 765 (by decide +kernel) rfl, ab_T_of 27 (by decide +kernel) rfl⟩⟩, by decide, rfl, fun q => absurd q (by decide), Or.inr (Or.inr rfl)⟩
abbrev jX5_reads : MI := (5, cX5_reads, 5, some .int, false, iX5_reads)
set_option maxRecDepth 100000 in
theorem oX5_reads : ab_ok2 jX5_reads 0 yX5_reads := ⟨by decide +kernel, ⟨ab_T_of 743 (by decide +kernel) rfl, ab_T_of 59 (by decide +kernel) rfl, ⟨by decide, by decide⟩, by decide, ⟨ab_T_of 742 (by decide +kernel) rfl, ab_T_of 22 (by decide +kernel) rfl⟩⟩, by decide, rfl, fun q => absurd q (by decide), Or.inr (Or.inl rfl)⟩
abbrev jX5_bicycle : MI := (5, cX5_bicycle, 2, some .int, false, iX5_bicycle)
set_option maxRecDepth 100000 in
theorem oX5_bicycle : ab_ok2 jX5_bicycle 0 yX5_bicycle := ⟨by decide +kernel, ⟨ab_T_of 739 (by decide +kernel) rfl, ab_T_of 59 (by decide +kernel) rfl, ⟨by decide, by decide⟩, by decide, ⟨ab_T_of 737 (by decide +kernel) rfl, ab_T_of 738 (by decide +kernel) rfl⟩⟩, by decide, rfl, fun q => absurd q (by decide), Or.inr (Or.inl rfl)⟩
abbrev jX5_part : MI := (5, cX5_part, 2, some .int, false, iX5_part)
set_option maxRecDepth 100000 in
theorem oX5_part : ab_ok2 jX5_part 0 yX5_part := ⟨by decide +kernel, ⟨ab_T_of 773 (by decide +kernel) rfl, ab_T_of 59 (by decide +kernel) rfl, ⟨by decide, by decide⟩, by decide, ⟨ab_T_of 771 (by decide +kernel) rfl, ab_T_of 772 (by decide +kernel) rfl⟩⟩, by decide, rfl, fun q => absurd q (by decide), Or.inr (Or.inl rfl)⟩
abbrev jX5_limitOf : MI := (5, cX5_limitOf, 4, some .int, false, iX5_limitOf)
set_option maxRecDepth 100000 in
theorem oX5_limitOf : ab_ok2 jX5_limitOf 0 yX5_limitOf := ⟨by decide +kernel, ⟨ab_T_of 796 (by decide +kernel) rfl, ab_T_of 59 (by decide +kernel) rfl, ⟨by decide, by decide⟩, by decide, ⟨ab_T_of 795 (by decide +kernel) rfl, ab_T_of 31 (by decide +kernel) rfl⟩⟩, by decide, rfl, fun q => absurd q (by decide), Or.inr (Or.inl rfl)⟩
abbrev jX5_fault : MI := (5, cX5_fault, 3, some .int, false, iX5_fault)
set_option maxRecDepth 100000 in
theorem oX5_fault : ab_ok2 jX5_fault 0 yX5_fault := ⟨by decide +kernel, ⟨ab_T_of 784 (by decide +kernel) rfl, ab_T_of 59 (by decide +kernel) rfl, ⟨by decide, by decide⟩, by decide, ⟨ab_T_of 782 (by decide +kernel) rfl, ab_T_of 783 (by decide +kernel) rfl⟩⟩, by decide, rfl, fun q => absurd q (by decide), Or.inr (Or.inl rfl)⟩
abbrev jX5_upOf : MI := (5, cX5_upOf, 2, some .int, false, iX5_upOf)
set_option maxRecDepth 100000 in
theorem oX5_upOf : ab_ok2 jX5_upOf 0 yX5_upOf := ⟨by decide +kernel, ⟨ab_T_of 804 (by decide +kernel) rfl, ab_T_of 59 (by decide +kernel) rfl, ⟨by decide, by decide⟩, by decide, ⟨ab_T_of 803 (by decide +kernel) rfl, ab_T_of 32 (by decide +kernel) rfl⟩⟩, by decide, rfl, fun q => absurd q (by decide), Or.inr (Or.inl rfl)⟩
abbrev jX5_downOf : MI := (5, cX5_downOf, 3, some .int, false, iX5_downOf)
set_option maxRecDepth 100000 in
theorem oX5_downOf : ab_ok2 jX5_downOf 0 yX5_downOf := ⟨by decide +kernel, ⟨ab_T_of 808 (by decide +kernel) rfl, ab_T_of 59 (by decide +kernel) rfl, ⟨by decide, by decide⟩, by decide, ⟨ab_T_of 807 (by decide +kernel) rfl, ab_T_of 33 (by decide +kernel) rfl⟩⟩, by decide, rfl, fun q => absurd q (by decide), Or.inr (Or.inl rfl)⟩
abbrev jX5_rounds : MI := (5, cX5_rounds, 4, some .int, false, iX5_rounds)
set_option maxRecDepth 100000 in
theorem oX5_rounds : ab_ok2 jX5_rounds 0 yX5_rounds := ⟨by decide +kernel, ⟨ab_T_of 800 (by decide +kernel) rfl, ab_T_of 59 (by decide +kernel) rfl, ⟨by decide, by decide⟩, by decide, ⟨ab_T_of 798 (by decide +kernel) rfl, ab_T_of 799 (by decide +kernel) rfl⟩⟩, by decide, rfl, fun q => absurd q (by decide), Or.inr (Or.inl rfl)⟩
abbrev jX5_loadOf : MI := (5, cX5_loadOf, 5, some .int, false, iX5_loadOf)
set_option maxRecDepth 100000 in
theorem oX5_loadOf : ab_ok2 jX5_loadOf 0 yX5_loadOf := ⟨by decide +kernel, ⟨ab_T_of 822 (by decide +kernel) rfl, ab_T_of 59 (by decide +kernel) rfl, ⟨by decide, by decide⟩, by decide, ⟨ab_T_of 821 (by decide +kernel) rfl, ab_T_of 34 (by decide +kernel) rfl⟩⟩, by decide, rfl, fun q => absurd q (by decide), Or.inr (Or.inl rfl)⟩
abbrev jX5_load : MI := (5, cX5_load, 4, some .int, false, iX5_load)
set_option maxRecDepth 100000 in
theorem oX5_load : ab_ok2 jX5_load 0 yX5_load := ⟨by decide +kernel, ⟨ab_T_of 812 (by decide +kernel) rfl, ab_T_of 59 (by decide +kernel) rfl, ⟨by decide, by decide⟩, by decide, ⟨ab_T_of 810 (by decide +kernel) rfl, ab_T_of 811 (by decide +kernel) rfl⟩⟩, by decide, rfl, fun q => absurd q (by decide), Or.inr (Or.inl rfl)⟩
abbrev jX5_most : MI := (5, cX5_most, 1, some .int, false, iX5_most)
set_option maxRecDepth 100000 in
theorem oX5_most : ab_ok2 jX5_most 1 yX5_most := ⟨by decide +kernel, ⟨ab_T_of 829 (by decide +kernel) rfl, ab_T_of 59 (by decide +kernel) rfl, ⟨by decide, by decide⟩, by decide, ab_T_of 828 (by decide +kernel) rfl⟩, by decide, rfl, fun q => absurd q (by decide), Or.inr (Or.inl rfl)⟩
abbrev jX5_set : MI := (5, cX5_set, 5, some .int, false, iX5_set)
set_option maxRecDepth 100000 in
theorem oX5_set : ab_ok2 jX5_set 0 yX5_set := ⟨by decide +kernel, ⟨ab_T_of 826 (by decide +kernel) rfl, ab_T_of 59 (by decide +kernel) rfl, ⟨by decide, by decide⟩, by decide, ⟨ab_T_of 824 (by decide +kernel) rfl, ab_T_of 825 (by decide +kernel) rfl⟩⟩, by decide, rfl, fun q => absurd q (by decide), Or.inr (Or.inl rfl)⟩
abbrev jX5_oil : MI := (5, cX5_oil, 3, some .int, false, iX5_oil)
set_option maxRecDepth 100000 in
theorem oX5_oil : ab_ok2 jX5_oil 0 yX5_oil := ⟨by decide +kernel, ⟨ab_T_of 833 (by decide +kernel) rfl, ab_T_of 59 (by decide +kernel) rfl, ⟨by decide, by decide⟩, by decide, ⟨ab_T_of 831 (by decide +kernel) rfl, ab_T_of 832 (by decide +kernel) rfl⟩⟩, by decide, rfl, fun q => absurd q (by decide), Or.inr (Or.inl rfl)⟩
abbrev jX5_stage : MI := (5, cX5_stage, 6, some .int, false, iX5_stage)
set_option maxRecDepth 100000 in
theorem oX5_stage : ab_ok2 jX5_stage 0 yX5_stage := ⟨by decide +kernel, ⟨ab_T_of 837 (by decide +kernel) rfl, ab_T_of 59 (by decide +kernel) rfl, ⟨by decide, by decide⟩, by decide, ⟨ab_T_of 835 (by decide +kernel) rfl, ab_T_of 836 (by decide +kernel) rfl⟩⟩, by decide, rfl, fun q => absurd q (by decide), Or.inr (Or.inl rfl)⟩
abbrev jX5_stageOf : MI := (5, cX5_stageOf, 3, some .int, false, iX5_stageOf)
set_option maxRecDepth 100000 in
theorem oX5_stageOf : ab_ok2 jX5_stageOf 0 yX5_stageOf := ⟨by decide +kernel, ⟨ab_T_of 841 (by decide +kernel) rfl, ab_T_of 59 (by decide +kernel) rfl, ⟨by decide, by decide⟩, by decide, ⟨ab_T_of 839 (by decide +kernel) rfl, ab_T_of 840 (by decide +kernel) rfl⟩⟩, by decide, rfl, fun q => absurd q (by decide), Or.inr (Or.inl rfl)⟩
abbrev jX5_drop : MI := (5, cX5_drop, 2, some .int, false, iX5_drop)
set_option maxRecDepth 100000 in
theorem oX5_drop : ab_ok2 jX5_drop 0 yX5_drop := ⟨by decide +kernel, ⟨ab_T_of 845 (by decide +kernel) rfl, ab_T_of 59 (by decide +kernel) rfl, ⟨by decide, by decide⟩, by decide, ⟨ab_T_of 843 (by decide +kernel) rfl, ab_T_of 844 (by decide +kernel) rfl⟩⟩, by decide, rfl, fun q => absurd q (by decide), Or.inr (Or.inl rfl)⟩
abbrev jX5_begins : MI := (5, cX5_begins, 2, none, false, iX5_begins)
set_option maxRecDepth 100000 in
theorem oX5_begins : ab_ok2 jX5_begins 0 yX5_begins := ⟨by decide +kernel, ⟨ab_T_of 857 (by decide +kernel) rfl, ab_T_of 59 (by decide +kernel) rfl, ⟨by decide, by decide⟩, by decide, ⟨ab_T_of 856 (by decide +kernel) rfl, ab_T_of 36 (by decide +kernel) rfl⟩⟩, by decide, rfl, fun q => absurd q (by decide), Or.inl rfl⟩
abbrev jX5_opensStage : MI := (5, cX5_opensStage, 4, none, false, iX5_opensStage)
set_option maxRecDepth 100000 in
theorem oX5_opensStage : ab_ok2 jX5_opensStage 0 yX5_opensStage := ⟨by decide +kernel, ⟨ab_T_of 869 (by decide +kernel) rfl, ab_T_of 59 (by decide +kernel) rfl, ⟨by decide, by decide⟩, by decide, ⟨ab_T_of 868 (by decide +kernel) rfl, ab_T_of 39 (by decide +kernel) rfl⟩⟩, by decide, rfl, fun q => absurd q (by decide), Or.inl rfl⟩
abbrev jX5_comesBy : MI := (5, cX5_comesBy, 6, some .boolean, false, iX5_comesBy)
set_option maxRecDepth 100000 in
theorem oX5_comesBy : ab_ok2 jX5_comesBy 0 yX5_comesBy := ⟨by decide +kernel, ⟨ab_T_of 877 (by decide +kernel) rfl, ab_T_of 59 (by decide +kernel) rfl, ⟨by decide, by decide⟩, by decide, ⟨ab_T_of 876 (by decide +kernel) rfl, ab_T_of 41 (by decide +kernel) rfl⟩⟩, by decide, rfl, fun q => absurd q (by decide), Or.inr (Or.inr rfl)⟩
abbrev jX5_isSilent : MI := (5, cX5_isSilent, 2, some .boolean, false, iX5_isSilent)
set_option maxRecDepth 100000 in
theorem oX5_isSilent : ab_ok2 jX5_isSilent 0 yX5_isSilent := ⟨by decide +kernel, ⟨ab_T_of 881 (by decide +kernel) rfl, ab_T_of 59 (by decide +kernel) rfl, ⟨by decide, by decide⟩, by decide, ⟨ab_T_of 880 (by decide +kernel) rfl, ab_T_of 42 (by decide +kernel) rfl⟩⟩, by decide, rfl, fun q => absurd q (by decide), Or.inr (Or.inr rfl)⟩
abbrev jX5_clicks : MI := (5, cX5_clicks, 2, none, false, iX5_clicks)
set_option maxRecDepth 100000 in
theorem oX5_clicks : ab_ok2 jX5_clicks 0 yX5_clicks := ⟨by decide +kernel, ⟨ab_T_of 885 (by decide +kernel) rfl, ab_T_of 59 (by decide +kernel) rfl, ⟨by decide, by decide⟩, by decide, ⟨ab_T_of 884 (by decide +kernel) rfl, ab_T_of 43 (by decide +kernel) rfl⟩⟩, by decide, rfl, fun q => absurd q (by decide), Or.inl rfl⟩
abbrev jX5_goesStep : MI := (5, cX5_goesStep, 7, none, false, iX5_goesStep)
set_option maxRecDepth 100000 in
theorem oX5_goesStep : ab_ok2 jX5_goesStep 0 yX5_goesStep := ⟨by decide +kernel, ⟨ab_T_of 873 (by decide +kernel) rfl, ab_T_of 59 (by decide +kernel) rfl, ⟨by decide, by decide⟩, by decide, ⟨ab_T_of 872 (by decide +kernel) rfl, ab_T_of 40 (by decide +kernel) rfl⟩⟩, by decide, rfl, fun q => absurd q (by decide), Or.inl rfl⟩
abbrev jX5_goesStage : MI := (5, cX5_goesStage, 6, none, false, iX5_goesStage)
set_option maxRecDepth 100000 in
theorem oX5_goesStage : ab_ok2 jX5_goesStage 0 yX5_goesStage := ⟨by decide +kernel, ⟨ab_T_of 865 (by decide +kernel) rfl, ab_T_of 59 (by decide +kernel) rfl, ⟨by decide, by decide⟩, by decide, ⟨ab_T_of 864 (by decide +kernel) rfl, ab_T_of 38 (by decide +kernel) rfl⟩⟩, by decide, rfl, fun q => absurd q (by decide), Or.inl rfl⟩
abbrev jX5_rides : MI := (5, cX5_rides, 2, none, false, iX5_rides)
set_option maxRecDepth 100000 in
theorem oX5_rides : ab_ok2 jX5_rides 0 yX5_rides := ⟨by decide +kernel, ⟨ab_T_of 861 (by decide +kernel) rfl, ab_T_of 59 (by decide +kernel) rfl, ⟨by decide, by decide⟩, by decide, ⟨ab_T_of 860 (by decide +kernel) rfl, ab_T_of 37 (by decide +kernel) rfl⟩⟩, by decide, rfl, fun q => absurd q (by decide), Or.inl rfl⟩
abbrev jX5_counted : MI := (5, cX5_counted, 1, none, false, iX5_counted)
set_option maxRecDepth 100000 in
theorem oX5_counted : ab_ok2 jX5_counted 0 yX5_counted := ⟨by decide +kernel, ⟨ab_T_of 853 (by decide +kernel) rfl, ab_T_of 59 (by decide +kernel) rfl, ⟨by decide, by decide⟩, by decide, ⟨ab_T_of 852 (by decide +kernel) rfl, ab_T_of 35 (by decide +kernel) rfl⟩⟩, by decide, rfl, fun q => absurd q (by decide), Or.inl rfl⟩
abbrev jX5_counts : MI := (5, cX5_counts, 2, some .int, false, iX5_counts)
set_option maxRecDepth 100000 in
theorem oX5_counts : ab_ok2 jX5_counts 0 yX5_counts := ⟨by decide +kernel, ⟨ab_T_of 849 (by decide +kernel) rfl, ab_T_of 59 (by decide +kernel) rfl, ⟨by decide, by decide⟩, by decide, ⟨ab_T_of 847 (by decide +kernel) rfl, ab_T_of 848 (by decide +kernel) rfl⟩⟩, by decide, rfl, fun q => absurd q (by decide), Or.inr (Or.inl rfl)⟩
abbrev jX5_stageAlone : MI := (5, cX5_stageAlone, 4, none, false, iX5_stageAlone)
set_option maxRecDepth 100000 in
theorem oX5_stageAlone : ab_ok2 jX5_stageAlone 0 yX5_stageAlone := ⟨by decide +kernel, ⟨ab_T_of 896 (by decide +kernel) rfl, ab_T_of 59 (by decide +kernel) rfl, ⟨by decide, by decide⟩, by decide, ⟨ab_T_of 895 (by decide +kernel) rfl, ab_T_of 44 (by decide +kernel) rfl⟩⟩, by decide, rfl, fun q => absurd q (by decide), Or.inl rfl⟩
abbrev jX5_stageCounts : MI := (5, cX5_stageCounts, 6, some .int, false, iX5_stageCounts)
set_option maxRecDepth 100000 in
theorem oX5_stageCounts : ab_ok2 jX5_stageCounts 0 yX5_stageCounts := ⟨by decide +kernel, ⟨ab_T_of 892 (by decide +kernel) rfl, ab_T_of 59 (by decide +kernel) rfl, ⟨by decide, by decide⟩, by decide, ⟨ab_T_of 890 (by decide +kernel) rfl, ab_T_of 891 (by decide +kernel) rfl⟩⟩, by decide, rfl, fun q => absurd q (by decide), Or.inr (Or.inl rfl)⟩
abbrev jX5_when : MI := (5, cX5_when, 3, some .int, false, iX5_when)
set_option maxRecDepth 100000 in
theorem oX5_when : ab_ok2 jX5_when 0 yX5_when := ⟨by decide +kernel, ⟨ab_T_of 900 (by decide +kernel) rfl, ab_T_of 59 (by decide +kernel) rfl, ⟨by decide, by decide⟩, by decide, ⟨ab_T_of 898 (by decide +kernel) rfl, ab_T_of 899 (by decide +kernel) rfl⟩⟩, by decide, rfl, fun q => absurd q (by decide), Or.inr (Or.inl rfl)⟩
abbrev jX5_heard : MI := (5, cX5_heard, 4, some .int, false, iX5_heard)
set_option maxRecDepth 100000 in
theorem oX5_heard : ab_ok2 jX5_heard 0 yX5_heard := ⟨by decide +kernel, ⟨ab_T_of 904 (by decide +kernel) rfl, ab_T_of 59 (by decide +kernel) rfl, ⟨by decide, by decide⟩, by decide, ⟨ab_T_of 902 (by decide +kernel) rfl, ab_T_of 903 (by decide +kernel) rfl⟩⟩, by decide, rfl, fun q => absurd q (by decide), Or.inr (Or.inl rfl)⟩
abbrev jX5_go : MI := (5, cX5_go, 4, some .int, false, iX5_go)
set_option maxRecDepth 100000 in
theorem oX5_go : ab_ok2 jX5_go 0 yX5_go := ⟨by decide +kernel, ⟨ab_T_of 908 (by decide +kernel) rfl, ab_T_of 59 (by decide +kernel) rfl, ⟨by decide, by decide⟩, by decide, ⟨ab_T_of 906 (by decide +kernel) rfl, ab_T_of 907 (by decide +kernel) rfl⟩⟩, by decide, rfl, fun q => absurd q (by decide), Or.inr (Or.inl rfl)⟩
abbrev jX5_wrongCount : MI := (5, cX5_wrongCount, 2, some .int, false, iX5_wrongCount)
set_option maxRecDepth 100000 in
theorem oX5_wrongCount : ab_ok2 jX5_wrongCount 1 yX5_wrongCount := ⟨by decide +kernel, ⟨ab_T_of 915 (by decide +kernel) rfl, ab_T_of 59 (by decide +kernel) rfl, ⟨by decide, by decide⟩, by decide, ab_T_of 914 (by decide +kernel) rfl⟩, by decide, rfl, fun q => absurd q (by decide), Or.inr (Or.inl rfl)⟩
abbrev jX5_amount : MI := (5, cX5_amount, 1, some .int, false, iX5_amount)
set_option maxRecDepth 100000 in
theorem oX5_amount : ab_ok2 jX5_amount 1 yX5_amount := ⟨by decide +kernel, ⟨ab_T_of 922 (by decide +kernel) rfl, ab_T_of 59 (by decide +kernel) rfl, ⟨by decide, by decide⟩, by decide, ab_T_of 921 (by decide +kernel) rfl⟩, by decide, rfl, fun q => absurd q (by decide), Or.inr (Or.inl rfl)⟩
abbrev jX5_fitOf : MI := (5, cX5_fitOf, 5, some .int, false, iX5_fitOf)
set_option maxRecDepth 100000 in
theorem oX5_fitOf : ab_ok2 jX5_fitOf 0 yX5_fitOf := ⟨by decide +kernel, ⟨ab_T_of 919 (by decide +kernel) rfl, ab_T_of 59 (by decide +kernel) rfl, ⟨by decide, by decide⟩, by decide, ⟨ab_T_of 918 (by decide +kernel) rfl, ab_T_of 45 (by decide +kernel) rfl⟩⟩, by decide, rfl, fun q => absurd q (by decide), Or.inr (Or.inl rfl)⟩
abbrev jX5_fit : MI := (5, cX5_fit, 4, some .int, false, iX5_fit)
set_option maxRecDepth 100000 in
theorem oX5_fit : ab_ok2 jX5_fit 0 yX5_fit := ⟨by decide +kernel, ⟨ab_T_of 912 (by decide +kernel) rfl, ab_T_of 59 (by decide +kernel) rfl, ⟨by decide, by decide⟩, by decide, ⟨ab_T_of 910 (by decide +kernel) rfl, ab_T_of 911 (by decide +kernel) rfl⟩⟩, by decide, rfl, fun q => absurd q (by decide), Or.inr (Or.inl rfl)⟩
abbrev jX5_common : MI := (5, cX5_common, 2, some .int, false, iX5_common)
set_option maxRecDepth 100000 in
theorem oX5_common : ab_ok2 jX5_common 1 yX5_common := ⟨by decide +kernel, ⟨ab_T_of 933 (by decide +kernel) rfl, ab_T_of 59 (by decide +kernel) rfl, ⟨by decide, by decide⟩, by decide, ab_T_of 932 (by decide +kernel) rfl⟩, by decide, rfl, fun q => absurd q (by decide), Or.inr (Or.inl rfl)⟩
abbrev jX5_partOf : MI := (5, cX5_partOf, 5, some .int, false, iX5_partOf)
set_option maxRecDepth 100000 in
theorem oX5_partOf : ab_ok2 jX5_partOf 0 yX5_partOf := ⟨by decide +kernel, ⟨ab_T_of 930 (by decide +kernel) rfl, ab_T_of 59 (by decide +kernel) rfl, ⟨by decide, by decide⟩, by decide, ⟨ab_T_of 929 (by decide +kernel) rfl, ab_T_of 46 (by decide +kernel) rfl⟩⟩, by decide, rfl, fun q => absurd q (by decide), Or.inr (Or.inl rfl)⟩
abbrev jX5_odds : MI := (5, cX5_odds, 9, some .int, false, iX5_odds)
set_option maxRecDepth 100000 in
theorem oX5_odds : ab_ok2 jX5_odds 0 yX5_odds := ⟨by decide +kernel, ⟨ab_T_of 926 (by decide +kernel) rfl, ab_T_of 59 (by decide +kernel) rfl, ⟨by decide, by decide⟩, by decide, ⟨ab_T_of 924 (by decide +kernel) rfl, ab_T_of 925 (by decide +kernel) rfl⟩⟩, by decide, rfl, fun q => absurd q (by decide), Or.inr (Or.inl rfl)⟩
abbrev jX5_twos : MI := (5, cX5_twos, 8, some .int, false, iX5_twos)
set_option maxRecDepth 100000 in
theorem oX5_twos : ab_ok2 jX5_twos 0 yX5_twos := ⟨by decide +kernel, ⟨ab_T_of 937 (by decide +kernel) rfl, ab_T_of 59 (by decide +kernel) rfl, ⟨by decide, by decide⟩, by decide, ⟨ab_T_of 935 (by decide +kernel) rfl, ab_T_of 936 (by decide +kernel) rfl⟩⟩, by decide, rfl, fun q => absurd q (by decide), Or.inr (Or.inl rfl)⟩
abbrev jX5_areTwo : MI := (5, cX5_areTwo, 3, some .boolean, false, iX5_areTwo)
set_option maxRecDepth 100000 in
theorem oX5_areTwo : ab_ok2 jX5_areTwo 0 yX5_areTwo := ⟨by decide +kernel, ⟨ab_T_of 945 (by decide +kernel) rfl, ab_T_of 59 (by decide +kernel) rfl, ⟨by decide, by decide⟩, by decide, ⟨ab_T_of 944 (by decide +kernel) rfl, ab_T_of 47 (by decide +kernel) rfl⟩⟩, by decide, rfl, fun q => absurd q (by decide), Or.inr (Or.inr rfl)⟩
abbrev jX5_apart : MI := (5, cX5_apart, 5, some .int, false, iX5_apart)
set_option maxRecDepth 100000 in
theorem oX5_apart : ab_ok2 jX5_apart 0 yX5_apart := ⟨by decide +kernel, ⟨ab_T_of 941 (by decide +kernel) rfl, ab_T_of 59 (by decide +kernel) rfl, ⟨by decide, by decide⟩, by decide, ⟨ab_T_of 939 (by decide +kernel) rfl, ab_T_of 940 (by decide +kernel) rfl⟩⟩, by decide, rfl, fun q => absurd q (by decide), Or.inr (Or.inl rfl)⟩
abbrev jX5_unlike : MI := (5, cX5_unlike, 5, some .int, false, iX5_unlike)
set_option maxRecDepth 100000 in
theorem oX5_unlike : ab_ok2 jX5_unlike 0 yX5_unlike := ⟨by decide +kernel, ⟨ab_T_of 953 (by decide +kernel) rfl, ab_T_of 59 (by decide +kernel) rfl, ⟨by decide, by decide⟩, by decide, ⟨ab_T_of 952 (by decide +kernel) rfl, ab_T_of 48 (by decide +kernel) rfl⟩⟩, by decide, rfl, fun q => absurd q (by decide), Or.inr (Or.inl rfl)⟩
abbrev jX5_tells : MI := (5, cX5_tells, 8, some .int, false, iX5_tells)
set_option maxRecDepth 100000 in
theorem oX5_tells : ab_ok2 jX5_tells 0 yX5_tells := ⟨by decide +kernel, ⟨ab_T_of 949 (by decide +kernel) rfl, ab_T_of 59 (by decide +kernel) rfl, ⟨by decide, by decide⟩, by decide, ⟨ab_T_of 947 (by decide +kernel) rfl, ab_T_of 948 (by decide +kernel) rfl⟩⟩, by decide, rfl, fun q => absurd q (by decide), Or.inr (Or.inl rfl)⟩
abbrev jX5_length : MI := (5, cX5_length, 9, some .int, false, iX5_length)
set_option maxRecDepth 100000 in
theorem oX5_length : ab_ok2 jX5_length 0 yX5_length := ⟨by decide +kernel, ⟨ab_T_of 957 (by decide +kernel) rfl, ab_T_of 59 (by decide +kernel) rfl, ⟨by decide, by decide⟩, by decide, ⟨ab_T_of 955 (by decide +kernel) rfl, ab_T_of 956 (by decide +kernel) rfl⟩⟩, by decide, rfl, fun q => absurd q (by decide), Or.inr (Or.inl rfl)⟩
abbrev jX5_beat : MI := (5, cX5_beat, 7, some .int, false, iX5_beat)
set_option maxRecDepth 100000 in
theorem oX5_beat : ab_ok2 jX5_beat 0 yX5_beat := ⟨by decide +kernel, ⟨ab_T_of 961 (by decide +kernel) rfl, ab_T_of 59 (by decide +kernel) rfl, ⟨by decide, by decide⟩, by decide, ⟨ab_T_of 959 (by decide +kernel) rfl, ab_T_of 960 (by decide +kernel) rfl⟩⟩, by decide, rfl, fun q => absurd q (by decide), Or.inr (Or.inl rfl)⟩
abbrev jX5_weights : MI := (5, cX5_weights, 3, some .int, false, iX5_weights)
set_option maxRecDepth 100000 in
theorem oX5_weights : ab_ok2 jX5_weights 0 yX5_weights := ⟨by decide +kernel, ⟨ab_T_of 969 (by decide +kernel) rfl, ab_T_of 59 (by decide +kernel) rfl, ⟨by decide, by decide⟩, by decide, ⟨ab_T_of 968 (by decide +kernel) rfl, ab_T_of 49 (by decide +kernel) rfl⟩⟩, by decide, rfl, fun q => absurd q (by decide), Or.inr (Or.inl rfl)⟩
abbrev jX5_away : MI := (5, cX5_away, 4, some .int, false, iX5_away)
set_option maxRecDepth 100000 in
theorem oX5_away : ab_ok2 jX5_away 0 yX5_away := ⟨by decide +kernel, ⟨ab_T_of 965 (by decide +kernel) rfl, ab_T_of 59 (by decide +kernel) rfl, ⟨by decide, by decide⟩, by decide, ⟨ab_T_of 963 (by decide +kernel) rfl, ab_T_of 964 (by decide +kernel) rfl⟩⟩, by decide, rfl, fun q => absurd q (by decide), Or.inr (Or.inl rfl)⟩
abbrev jX5_danger : MI := (5, cX5_danger, 3, some .int, false, iX5_danger)
set_option maxRecDepth 100000 in
theorem oX5_danger : ab_ok2 jX5_danger 0 yX5_danger := ⟨by decide +kernel, ⟨ab_T_of 973 (by decide +kernel) rfl, ab_T_of 59 (by decide +kernel) rfl, ⟨by decide, by decide⟩, by decide, ⟨ab_T_of 971 (by decide +kernel) rfl, ab_T_of 972 (by decide +kernel) rfl⟩⟩, by decide, rfl, fun q => absurd q (by decide), Or.inr (Or.inl rfl)⟩
abbrev jX5_sumOf : MI := (5, cX5_sumOf, 5, some .int, false, iX5_sumOf)
set_option maxRecDepth 100000 in
theorem oX5_sumOf : ab_ok2 jX5_sumOf 0 yX5_sumOf := ⟨by decide +kernel, ⟨ab_T_of 989 (by decide +kernel) rfl, ab_T_of 59 (by decide +kernel) rfl, ⟨by decide, by decide⟩, by decide, ⟨ab_T_of 988 (by decide +kernel) rfl, ab_T_of 52 (by decide +kernel) rfl⟩⟩, by decide, rfl, fun q => absurd q (by decide), Or.inr (Or.inl rfl)⟩
abbrev jX5_orders : MI := (5, cX5_orders, 5, none, false, iX5_orders)
set_option maxRecDepth 100000 in
theorem oX5_orders : ab_ok2 jX5_orders 0 yX5_orders := ⟨by decide +kernel, ⟨ab_T_of 985 (by decide +kernel) rfl, ab_T_of 59 (by decide +kernel) rfl, ⟨by decide, by decide⟩, by decide, ⟨ab_T_of 984 (by decide +kernel) rfl, ab_T_of 51 (by decide +kernel) rfl⟩⟩, by decide, rfl, fun q => absurd q (by decide), Or.inl rfl⟩
abbrev jX5_findLeast : MI := (5, cX5_findLeast, 1, none, false, iX5_findLeast)
set_option maxRecDepth 100000 in
theorem oX5_findLeast : ab_ok2 jX5_findLeast 0 yX5_findLeast := ⟨by decide +kernel, ⟨ab_T_of 981 (by decide +kernel) rfl, ab_T_of 59 (by decide +kernel) rfl, ⟨by decide, by decide⟩, by decide, ⟨ab_T_of 980 (by decide +kernel) rfl, ab_T_of 50 (by decide +kernel) rfl⟩⟩, by decide, rfl, fun q => absurd q (by decide), Or.inl rfl⟩
abbrev jX5_least : MI := (5, cX5_least, 3, some .int, false, iX5_least)
set_option maxRecDepth 100000 in
theorem oX5_least : ab_ok2 jX5_least 0 yX5_least := ⟨by decide +kernel, ⟨ab_T_of 977 (by decide +kernel) rfl, ab_T_of 59 (by decide +kernel) rfl, ⟨by decide, by decide⟩, by decide, ⟨ab_T_of 975 (by decide +kernel) rfl, ab_T_of 976 (by decide +kernel) rfl⟩⟩, by decide, rfl, fun q => absurd q (by decide), Or.inr (Or.inl rfl)⟩
abbrev jX5_row : MI := (5, cX5_row, 3, some .int, false, iX5_row)
set_option maxRecDepth 100000 in
theorem oX5_row : ab_ok2 jX5_row 0 yX5_row := ⟨by decide +kernel, ⟨ab_T_of 993 (by decide +kernel) rfl, ab_T_of 59 (by decide +kernel) rfl, ⟨by decide, by decide⟩, by decide, ⟨ab_T_of 991 (by decide +kernel) rfl, ab_T_of 992 (by decide +kernel) rfl⟩⟩, by decide, rfl, fun q => absurd q (by decide), Or.inr (Or.inl rfl)⟩
abbrev jX5_judge : MI := (5, cX5_judge, 3, some .int, false, iX5_judge)
set_option maxRecDepth 100000 in
theorem oX5_judge : ab_ok2 jX5_judge 0 yX5_judge := ⟨by decide +kernel, ⟨ab_T_of 997 (by decide +kernel) rfl, ab_T_of 59 (by decide +kernel) rfl, ⟨by decide, by decide⟩, by decide, ⟨ab_T_of 995 (by decide +kernel) rfl, ab_T_of 996 (by decide +kernel) rfl⟩⟩, by decide, rfl, fun q => absurd q (by decide), Or.inr (Or.inl rfl)⟩
abbrev jX5_held : MI := (5, cX5_held, 5, some .int, false, iX5_held)
set_option maxRecDepth 100000 in
theorem oX5_held : ab_ok2 jX5_held 0 yX5_held := ⟨by decide +kernel, ⟨ab_T_of 1001 (by decide +kernel) rfl, ab_T_of 59 (by decide +kernel) rfl, ⟨by decide, by decide⟩, by decide, ⟨ab_T_of 999 (by decide +kernel) rfl, ab_T_of 1000 (by decide +kernel) rfl⟩⟩, by decide, rfl, fun q => absurd q (by decide), Or.inr (Or.inl rfl)⟩
abbrev jX5_image : MI := (5, cX5_image, 2, some .int, false, iX5_image)
set_option maxRecDepth 100000 in
theorem oX5_image : ab_ok2 jX5_image 0 yX5_image := ⟨by decide +kernel, ⟨ab_T_of 1005 (by decide +kernel) rfl, ab_T_of 59 (by decide +kernel) rfl, ⟨by decide, by decide⟩, by decide, ⟨ab_T_of 1003 (by decide +kernel) rfl, ab_T_of 1004 (by decide +kernel) rfl⟩⟩, by decide, rfl, fun q => absurd q (by decide), Or.inr (Or.inl rfl)⟩
abbrev jX5_on : MI := (5, cX5_on, 2, some .int, false, iX5_on)
set_option maxRecDepth 100000 in
theorem oX5_on : ab_ok2 jX5_on 0 yX5_on := ⟨by decide +kernel, ⟨ab_T_of 1009 (by decide +kernel) rfl, ab_T_of 59 (by decide +kernel) rfl, ⟨by decide, by decide⟩, by decide, ⟨ab_T_of 1007 (by decide +kernel) rfl, ab_T_of 1008 (by decide +kernel) rfl⟩⟩, by decide, rfl, fun q => absurd q (by decide), Or.inr (Or.inl rfl)⟩
abbrev jX5_count : MI := (5, cX5_count, 2, some .int, false, iX5_count)
set_option maxRecDepth 100000 in
theorem oX5_count : ab_ok2 jX5_count 0 yX5_count := ⟨by decide +kernel, ⟨ab_T_of 1013 (by decide +kernel) rfl, ab_T_of 59 (by decide +kernel) rfl, ⟨by decide, by decide⟩, by decide, ⟨ab_T_of 1011 (by decide +kernel) rfl, ab_T_of 1012 (by decide +kernel) rfl⟩⟩, by decide, rfl, fun q => absurd q (by decide), Or.inr (Or.inl rfl)⟩
