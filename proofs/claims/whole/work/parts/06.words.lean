set_option maxRecDepth 20000 in
theorem q0 : Cond.selects RX0 yX0_refuse yX0_refuse ∈ lw_all := lw_in 0 rfl rfl
set_option maxRecDepth 20000 in
theorem q7 : Cond.selects RX0 yX0_isStopped yX0_isStopped ∈ lw_all := lw_in 7 rfl rfl
set_option maxRecDepth 20000 in
theorem q8 : Cond.selects RX0 yX0_pickChange yX0_pickChange ∈ lw_all := lw_in 8 rfl rfl
set_option maxRecDepth 20000 in
theorem q10 : Cond.selects RX4 yX4_addNumber yX4_addNumber ∈ lw_all := lw_in 10 rfl rfl
set_option maxRecDepth 20000 in
theorem q11 : Cond.selects RX4 yX4_addSign yX4_addSign ∈ lw_all := lw_in 11 rfl rfl
set_option maxRecDepth 20000 in
theorem q59 : Cond.initialized RX8 ∈ lw_all := lw_in 59 rfl rfl
set_option maxRecDepth 20000 in
theorem q60 : Cond.initialized RX1 ∈ lw_all := lw_in 60 rfl rfl
set_option maxRecDepth 20000 in
theorem q62 : Cond.initialized RX0 ∈ lw_all := lw_in 62 rfl rfl
set_option maxRecDepth 20000 in
theorem q63 : Cond.initialized RX5 ∈ lw_all := lw_in 63 rfl rfl
set_option maxRecDepth 20000 in
theorem q64 : Cond.initialized RX7 ∈ lw_all := lw_in 64 rfl rfl
set_option maxRecDepth 20000 in
theorem q67 : Cond.initialized RX4 ∈ lw_all := lw_in 67 rfl rfl
set_option maxRecDepth 20000 in
theorem q69 : Cond.initialized RJ10 ∈ lw_all := lw_in 69 rfl rfl
set_option maxRecDepth 20000 in
theorem q70 : Cond.initialized RJ9 ∈ lw_all := lw_in 70 rfl rfl
set_option maxRecDepth 20000 in
theorem q100 : Cond.fieldLink RX1 36 "RecipeForests$Forest" "commits" "I" ∈ lw_all := lw_in 100 rfl rfl
set_option maxRecDepth 20000 in
theorem q101 : Cond.fieldLink RX1 40 "RecipeForests$Forest" "branches" "I" ∈ lw_all := lw_in 101 rfl rfl
set_option maxRecDepth 20000 in
theorem q102 : Cond.fieldLink RX1 43 "RecipeForests$Forest" "purpose" "I" ∈ lw_all := lw_in 102 rfl rfl
set_option maxRecDepth 20000 in
theorem q103 : Cond.fieldLink RX1 9 "RecipeForests$Forest" "kinds" "[I" ∈ lw_all := lw_in 103 rfl rfl
set_option maxRecDepth 20000 in
theorem q104 : Cond.fieldLink RX1 15 "RecipeForests$Forest" "firsts" "[I" ∈ lw_all := lw_in 104 rfl rfl
set_option maxRecDepth 20000 in
theorem q105 : Cond.fieldLink RX1 18 "RecipeForests$Forest" "seconds" "[I" ∈ lw_all := lw_in 105 rfl rfl
set_option maxRecDepth 20000 in
theorem q106 : Cond.fieldLink RX1 21 "RecipeForests$Forest" "families" "[I" ∈ lw_all := lw_in 106 rfl rfl
set_option maxRecDepth 20000 in
theorem q107 : Cond.fieldLink RX1 24 "RecipeForests$Forest" "depths" "[I" ∈ lw_all := lw_in 107 rfl rfl
set_option maxRecDepth 20000 in
theorem q108 : Cond.fieldLink RX1 27 "RecipeForests$Forest" "amounts" "[I" ∈ lw_all := lw_in 108 rfl rfl
set_option maxRecDepth 20000 in
theorem q109 : Cond.fieldLink RX1 30 "RecipeForests$Forest" "tips" "[I" ∈ lw_all := lw_in 109 rfl rfl
set_option maxRecDepth 20000 in
theorem q110 : Cond.fieldLink RX1 33 "RecipeForests$Forest" "bundled" "[I" ∈ lw_all := lw_in 110 rfl rfl
set_option maxRecDepth 20000 in
theorem q166 : Cond.fieldLink RX5 9 "RecipeForests$Mix" "row" "[I" ∈ lw_all := lw_in 166 rfl rfl
set_option maxRecDepth 20000 in
theorem q167 : Cond.fieldLink RX5 15 "RecipeForests$Mix" "conflictCount" "I" ∈ lw_all := lw_in 167 rfl rfl
set_option maxRecDepth 20000 in
theorem q168 : Cond.fieldLink RX5 19 "RecipeForests$Mix" "lowest" "I" ∈ lw_all := lw_in 168 rfl rfl
set_option maxRecDepth 20000 in
theorem q176 : Cond.fieldLink RX0 9 "RecipeForests$Desk" "forest" "LRecipeForests$Forest;" ∈ lw_all := lw_in 176 rfl rfl
set_option maxRecDepth 20000 in
theorem q177 : Cond.fieldLink RX0 18 "RecipeForests$Desk" "mix" "LRecipeForests$Mix;" ∈ lw_all := lw_in 177 rfl rfl
set_option maxRecDepth 20000 in
theorem q178 : Cond.fieldLink RX0 22 "RecipeForests$Desk" "reason" "I" ∈ lw_all := lw_in 178 rfl rfl
set_option maxRecDepth 20000 in
theorem q179 : Cond.fieldLink RX0 26 "RecipeForests$Desk" "detail" "I" ∈ lw_all := lw_in 179 rfl rfl
set_option maxRecDepth 20000 in
theorem q195 : Cond.fieldLink RX7 9 "RecipeForests$Walk" "commits" "[I" ∈ lw_all := lw_in 195 rfl rfl
set_option maxRecDepth 20000 in
theorem q196 : Cond.fieldLink RX7 15 "RecipeForests$Walk" "length" "I" ∈ lw_all := lw_in 196 rfl rfl
set_option maxRecDepth 20000 in
theorem q197 : Cond.fieldLink RX7 19 "RecipeForests$Walk" "looks" "I" ∈ lw_all := lw_in 197 rfl rfl
set_option maxRecDepth 20000 in
theorem q211 : Cond.fieldLink RX3 9 "RecipeForests$Input" "signs" "[C" ∈ lw_all := lw_in 211 rfl rfl
set_option maxRecDepth 20000 in
theorem q212 : Cond.fieldLink RX3 15 "RecipeForests$Input" "length" "I" ∈ lw_all := lw_in 212 rfl rfl
set_option maxRecDepth 20000 in
theorem q244 : Cond.fieldLink RX4 9 "RecipeForests$Line" "signs" "[C" ∈ lw_all := lw_in 244 rfl rfl
set_option maxRecDepth 20000 in
theorem q245 : Cond.fieldLink RX4 15 "RecipeForests$Line" "length" "I" ∈ lw_all := lw_in 245 rfl rfl
set_option maxRecDepth 20000 in
theorem q301 : Cond.methodLink RX1 52 yX1_firstOf ∈ lw_all := lw_in 301 rfl rfl
set_option maxRecDepth 20000 in
theorem q302 : Cond.instanceMethod yX1_firstOf ∈ lw_all := lw_in 302 rfl rfl
set_option maxRecDepth 20000 in
theorem q303 : Cond.selects RX1 yX1_firstOf yX1_firstOf ∈ lw_all := lw_in 303 rfl rfl
set_option maxRecDepth 20000 in
theorem q304 : Cond.code yX1_firstOf cX1_firstOf 2 (some .int) ∈ lw_all := lw_in 304 rfl rfl
set_option maxRecDepth 20000 in
theorem q305 : Cond.methodLink RX1 85 yX1_secondOf ∈ lw_all := lw_in 305 rfl rfl
set_option maxRecDepth 20000 in
theorem q306 : Cond.instanceMethod yX1_secondOf ∈ lw_all := lw_in 306 rfl rfl
set_option maxRecDepth 20000 in
theorem q307 : Cond.selects RX1 yX1_secondOf yX1_secondOf ∈ lw_all := lw_in 307 rfl rfl
set_option maxRecDepth 20000 in
theorem q308 : Cond.code yX1_secondOf cX1_secondOf 2 (some .int) ∈ lw_all := lw_in 308 rfl rfl
set_option maxRecDepth 20000 in
theorem q309 : Cond.methodLink RX1 88 yX1_kindOf ∈ lw_all := lw_in 309 rfl rfl
set_option maxRecDepth 20000 in
theorem q310 : Cond.instanceMethod yX1_kindOf ∈ lw_all := lw_in 310 rfl rfl
set_option maxRecDepth 20000 in
theorem q311 : Cond.selects RX1 yX1_kindOf yX1_kindOf ∈ lw_all := lw_in 311 rfl rfl
set_option maxRecDepth 20000 in
theorem q312 : Cond.code yX1_kindOf cX1_kindOf 2 (some .int) ∈ lw_all := lw_in 312 rfl rfl
set_option maxRecDepth 20000 in
theorem q313 : Cond.methodLink RX1 91 yX1_changedIn ∈ lw_all := lw_in 313 rfl rfl
set_option maxRecDepth 20000 in
theorem q314 : Cond.instanceMethod yX1_changedIn ∈ lw_all := lw_in 314 rfl rfl
set_option maxRecDepth 20000 in
theorem q315 : Cond.selects RX1 yX1_changedIn yX1_changedIn ∈ lw_all := lw_in 315 rfl rfl
set_option maxRecDepth 20000 in
theorem q316 : Cond.code yX1_changedIn cX1_changedIn 5 (some .int) ∈ lw_all := lw_in 316 rfl rfl
set_option maxRecDepth 20000 in
theorem q317 : Cond.methodLink RX1 56 yX1_amountIn ∈ lw_all := lw_in 317 rfl rfl
set_option maxRecDepth 20000 in
theorem q318 : Cond.instanceMethod yX1_amountIn ∈ lw_all := lw_in 318 rfl rfl
set_option maxRecDepth 20000 in
theorem q319 : Cond.selects RX1 yX1_amountIn yX1_amountIn ∈ lw_all := lw_in 319 rfl rfl
set_option maxRecDepth 20000 in
theorem q320 : Cond.code yX1_amountIn cX1_amountIn 3 (some .int) ∈ lw_all := lw_in 320 rfl rfl
set_option maxRecDepth 20000 in
theorem q325 : Cond.methodLink RX1 94 yX1_commonGround ∈ lw_all := lw_in 325 rfl rfl
set_option maxRecDepth 20000 in
theorem q326 : Cond.instanceMethod yX1_commonGround ∈ lw_all := lw_in 326 rfl rfl
set_option maxRecDepth 20000 in
theorem q327 : Cond.selects RX1 yX1_commonGround yX1_commonGround ∈ lw_all := lw_in 327 rfl rfl
set_option maxRecDepth 20000 in
theorem q328 : Cond.code yX1_commonGround cX1_commonGround 5 (some .int) ∈ lw_all := lw_in 328 rfl rfl
set_option maxRecDepth 20000 in
theorem q329 : Cond.methodLink RX1 67 yX1_familyOf ∈ lw_all := lw_in 329 rfl rfl
set_option maxRecDepth 20000 in
theorem q330 : Cond.instanceMethod yX1_familyOf ∈ lw_all := lw_in 330 rfl rfl
set_option maxRecDepth 20000 in
theorem q331 : Cond.selects RX1 yX1_familyOf yX1_familyOf ∈ lw_all := lw_in 331 rfl rfl
set_option maxRecDepth 20000 in
theorem q332 : Cond.code yX1_familyOf cX1_familyOf 2 (some .int) ∈ lw_all := lw_in 332 rfl rfl
set_option maxRecDepth 20000 in
theorem q333 : Cond.methodLink RX1 82 Lib.Math.min.name ∈ lw_all := lw_in 333 rfl rfl
set_option maxRecDepth 20000 in
theorem q334 : Cond.static Lib.Math.min.name ∈ lw_all := lw_in 334 rfl rfl
set_option maxRecDepth 20000 in
theorem q335 : Cond.code Lib.Math.min.name Lib.Math.min.code 2 (some .int) ∈ lw_all := lw_in 335 rfl rfl
set_option maxRecDepth 20000 in
theorem q337 : Cond.static yX8_isInSet ∈ lw_all := lw_in 337 rfl rfl
set_option maxRecDepth 20000 in
theorem q338 : Cond.code yX8_isInSet cX8_isInSet 2 (some .boolean) ∈ lw_all := lw_in 338 rfl rfl
set_option maxRecDepth 20000 in
theorem q339 : Cond.methodLink RX1 97 yX1_meetingPoint ∈ lw_all := lw_in 339 rfl rfl
set_option maxRecDepth 20000 in
theorem q340 : Cond.instanceMethod yX1_meetingPoint ∈ lw_all := lw_in 340 rfl rfl
set_option maxRecDepth 20000 in
theorem q341 : Cond.selects RX1 yX1_meetingPoint yX1_meetingPoint ∈ lw_all := lw_in 341 rfl rfl
set_option maxRecDepth 20000 in
theorem q342 : Cond.code yX1_meetingPoint cX1_meetingPoint 9 (some .int) ∈ lw_all := lw_in 342 rfl rfl
set_option maxRecDepth 20000 in
theorem q344 : Cond.static yX8_setOf ∈ lw_all := lw_in 344 rfl rfl
set_option maxRecDepth 20000 in
theorem q345 : Cond.code yX8_setOf cX8_setOf 1 (some .int) ∈ lw_all := lw_in 345 rfl rfl
set_option maxRecDepth 20000 in
theorem q346 : Cond.methodLink RX1 73 Lib.Math.max.name ∈ lw_all := lw_in 346 rfl rfl
set_option maxRecDepth 20000 in
theorem q347 : Cond.static Lib.Math.max.name ∈ lw_all := lw_in 347 rfl rfl
set_option maxRecDepth 20000 in
theorem q348 : Cond.code Lib.Math.max.name Lib.Math.max.code 2 (some .int) ∈ lw_all := lw_in 348 rfl rfl
set_option maxRecDepth 20000 in
theorem q354 : Cond.instanceMethod yX1_branchCount ∈ lw_all := lw_in 354 rfl rfl
set_option maxRecDepth 20000 in
theorem q355 : Cond.selects RX1 yX1_branchCount yX1_branchCount ∈ lw_all := lw_in 355 rfl rfl
set_option maxRecDepth 20000 in
theorem q356 : Cond.code yX1_branchCount cX1_branchCount 1 (some .int) ∈ lw_all := lw_in 356 rfl rfl
set_option maxRecDepth 20000 in
theorem q358 : Cond.instanceMethod yX1_tipOf ∈ lw_all := lw_in 358 rfl rfl
set_option maxRecDepth 20000 in
theorem q359 : Cond.selects RX1 yX1_tipOf yX1_tipOf ∈ lw_all := lw_in 359 rfl rfl
set_option maxRecDepth 20000 in
theorem q360 : Cond.code yX1_tipOf cX1_tipOf 2 (some .int) ∈ lw_all := lw_in 360 rfl rfl
set_option maxRecDepth 20000 in
theorem q362 : Cond.instanceMethod yX1_tasteOf ∈ lw_all := lw_in 362 rfl rfl
set_option maxRecDepth 20000 in
theorem q363 : Cond.selects RX1 yX1_tasteOf yX1_tasteOf ∈ lw_all := lw_in 363 rfl rfl
set_option maxRecDepth 20000 in
theorem q364 : Cond.code yX1_tasteOf cX1_tasteOf 6 (some .float) ∈ lw_all := lw_in 364 rfl rfl
set_option maxRecDepth 20000 in
theorem q365 : Cond.constantFloat RX1 100 1090519040 ∈ lw_all := lw_in 365 rfl rfl
set_option maxRecDepth 20000 in
theorem q382 : Cond.methodLink RX1 46 arraycopyName ∈ lw_all := lw_in 382 rfl rfl
set_option maxRecDepth 20000 in
theorem q383 : Cond.static arraycopyName ∈ lw_all := lw_in 383 rfl rfl
set_option maxRecDepth 20000 in
theorem q384 : Cond.native arraycopyName ∈ lw_all := lw_in 384 rfl rfl
set_option maxRecDepth 20000 in
theorem q399 : Cond.methodLink RX0 29 yX1_isBranch ∈ lw_all := lw_in 399 rfl rfl
set_option maxRecDepth 20000 in
theorem q400 : Cond.instanceMethod yX1_isBranch ∈ lw_all := lw_in 400 rfl rfl
set_option maxRecDepth 20000 in
theorem q401 : Cond.selects RX1 yX1_isBranch yX1_isBranch ∈ lw_all := lw_in 401 rfl rfl
set_option maxRecDepth 20000 in
theorem q402 : Cond.code yX1_isBranch cX1_isBranch 2 (some .boolean) ∈ lw_all := lw_in 402 rfl rfl
set_option maxRecDepth 20000 in
theorem q404 : Cond.static yX8_isIngredient ∈ lw_all := lw_in 404 rfl rfl
set_option maxRecDepth 20000 in
theorem q405 : Cond.code yX8_isIngredient cX8_isIngredient 1 (some .boolean) ∈ lw_all := lw_in 405 rfl rfl
set_option maxRecDepth 20000 in
theorem q407 : Cond.static yX8_isAmount ∈ lw_all := lw_in 407 rfl rfl
set_option maxRecDepth 20000 in
theorem q408 : Cond.code yX8_isAmount cX8_isAmount 1 (some .boolean) ∈ lw_all := lw_in 408 rfl rfl
set_option maxRecDepth 20000 in
theorem q409 : Cond.methodLink RX0 41 yX1_tipOf ∈ lw_all := lw_in 409 rfl rfl
set_option maxRecDepth 20000 in
theorem q410 : Cond.methodLink RX0 45 yX1_amountIn ∈ lw_all := lw_in 410 rfl rfl
set_option maxRecDepth 20000 in
theorem q411 : Cond.methodLink RX0 49 yX0_refuse ∈ lw_all := lw_in 411 rfl rfl
set_option maxRecDepth 20000 in
theorem q413 : Cond.instanceMethod yX0_refuse ∈ lw_all := lw_in 413 rfl rfl
set_option maxRecDepth 20000 in
theorem q414 : Cond.code yX0_refuse cX0_refuse 3 (some .int) ∈ lw_all := lw_in 414 rfl rfl
set_option maxRecDepth 20000 in
theorem q415 : Cond.methodLink RX0 52 yX1_isFull ∈ lw_all := lw_in 415 rfl rfl
set_option maxRecDepth 20000 in
theorem q416 : Cond.instanceMethod yX1_isFull ∈ lw_all := lw_in 416 rfl rfl
set_option maxRecDepth 20000 in
theorem q417 : Cond.selects RX1 yX1_isFull yX1_isFull ∈ lw_all := lw_in 417 rfl rfl
set_option maxRecDepth 20000 in
theorem q418 : Cond.code yX1_isFull cX1_isFull 1 (some .boolean) ∈ lw_all := lw_in 418 rfl rfl
set_option maxRecDepth 20000 in
theorem q419 : Cond.methodLink RX0 56 yX5_change ∈ lw_all := lw_in 419 rfl rfl
set_option maxRecDepth 20000 in
theorem q420 : Cond.instanceMethod yX5_change ∈ lw_all := lw_in 420 rfl rfl
set_option maxRecDepth 20000 in
theorem q421 : Cond.selects RX5 yX5_change yX5_change ∈ lw_all := lw_in 421 rfl rfl
set_option maxRecDepth 20000 in
theorem q422 : Cond.code yX5_change cX5_change 6 none ∈ lw_all := lw_in 422 rfl rfl
set_option maxRecDepth 20000 in
theorem q423 : Cond.methodLink RX5 22 yX1_amountIn ∈ lw_all := lw_in 423 rfl rfl
set_option maxRecDepth 20000 in
theorem q424 : Cond.methodLink RX0 60 yX5_amounts ∈ lw_all := lw_in 424 rfl rfl
set_option maxRecDepth 20000 in
theorem q425 : Cond.instanceMethod yX5_amounts ∈ lw_all := lw_in 425 rfl rfl
set_option maxRecDepth 20000 in
theorem q426 : Cond.selects RX5 yX5_amounts yX5_amounts ∈ lw_all := lw_in 426 rfl rfl
set_option maxRecDepth 20000 in
theorem q427 : Cond.code yX5_amounts cX5_amounts 1 (some (.array .int)) ∈ lw_all := lw_in 427 rfl rfl
set_option maxRecDepth 20000 in
theorem q428 : Cond.methodLink RX0 64 yX1_addCommit ∈ lw_all := lw_in 428 rfl rfl
set_option maxRecDepth 20000 in
theorem q429 : Cond.instanceMethod yX1_addCommit ∈ lw_all := lw_in 429 rfl rfl
set_option maxRecDepth 20000 in
theorem q430 : Cond.selects RX1 yX1_addCommit yX1_addCommit ∈ lw_all := lw_in 430 rfl rfl
set_option maxRecDepth 20000 in
theorem q431 : Cond.code yX1_addCommit cX1_addCommit 8 (some .int) ∈ lw_all := lw_in 431 rfl rfl
set_option maxRecDepth 20000 in
theorem q432 : Cond.methodLink RX1 60 yX1_isBranch ∈ lw_all := lw_in 432 rfl rfl
set_option maxRecDepth 20000 in
theorem q433 : Cond.methodLink RX1 70 yX1_depthOf ∈ lw_all := lw_in 433 rfl rfl
set_option maxRecDepth 20000 in
theorem q434 : Cond.instanceMethod yX1_depthOf ∈ lw_all := lw_in 434 rfl rfl
set_option maxRecDepth 20000 in
theorem q435 : Cond.selects RX1 yX1_depthOf yX1_depthOf ∈ lw_all := lw_in 435 rfl rfl
set_option maxRecDepth 20000 in
theorem q436 : Cond.code yX1_depthOf cX1_depthOf 2 (some .int) ∈ lw_all := lw_in 436 rfl rfl
set_option maxRecDepth 20000 in
theorem q564 : Cond.methodLink RX0 68 yX1_branchCount ∈ lw_all := lw_in 564 rfl rfl
set_option maxRecDepth 20000 in
theorem q565 : Cond.methodLink RX0 72 yX1_addBranch ∈ lw_all := lw_in 565 rfl rfl
set_option maxRecDepth 20000 in
theorem q566 : Cond.instanceMethod yX1_addBranch ∈ lw_all := lw_in 566 rfl rfl
set_option maxRecDepth 20000 in
theorem q567 : Cond.selects RX1 yX1_addBranch yX1_addBranch ∈ lw_all := lw_in 567 rfl rfl
set_option maxRecDepth 20000 in
theorem q568 : Cond.code yX1_addBranch cX1_addBranch 3 (some .int) ∈ lw_all := lw_in 568 rfl rfl
set_option maxRecDepth 20000 in
theorem q580 : Cond.methodLink RX0 75 yX1_isCommit ∈ lw_all := lw_in 580 rfl rfl
set_option maxRecDepth 20000 in
theorem q581 : Cond.instanceMethod yX1_isCommit ∈ lw_all := lw_in 581 rfl rfl
set_option maxRecDepth 20000 in
theorem q582 : Cond.selects RX1 yX1_isCommit yX1_isCommit ∈ lw_all := lw_in 582 rfl rfl
set_option maxRecDepth 20000 in
theorem q583 : Cond.code yX1_isCommit cX1_isCommit 2 (some .boolean) ∈ lw_all := lw_in 583 rfl rfl
set_option maxRecDepth 20000 in
theorem q584 : Cond.methodLink RX0 78 yX1_moveTip ∈ lw_all := lw_in 584 rfl rfl
set_option maxRecDepth 20000 in
theorem q585 : Cond.instanceMethod yX1_moveTip ∈ lw_all := lw_in 585 rfl rfl
set_option maxRecDepth 20000 in
theorem q586 : Cond.selects RX1 yX1_moveTip yX1_moveTip ∈ lw_all := lw_in 586 rfl rfl
set_option maxRecDepth 20000 in
theorem q587 : Cond.code yX1_moveTip cX1_moveTip 3 none ∈ lw_all := lw_in 587 rfl rfl
set_option maxRecDepth 20000 in
theorem q653 : Cond.static yX8_isRule ∈ lw_all := lw_in 653 rfl rfl
set_option maxRecDepth 20000 in
theorem q654 : Cond.code yX8_isRule cX8_isRule 1 (some .boolean) ∈ lw_all := lw_in 654 rfl rfl
set_option maxRecDepth 20000 in
theorem q655 : Cond.methodLink RX0 85 yX1_hasInFamily ∈ lw_all := lw_in 655 rfl rfl
set_option maxRecDepth 20000 in
theorem q656 : Cond.instanceMethod yX1_hasInFamily ∈ lw_all := lw_in 656 rfl rfl
set_option maxRecDepth 20000 in
theorem q657 : Cond.selects RX1 yX1_hasInFamily yX1_hasInFamily ∈ lw_all := lw_in 657 rfl rfl
set_option maxRecDepth 20000 in
theorem q658 : Cond.code yX1_hasInFamily cX1_hasInFamily 3 (some .boolean) ∈ lw_all := lw_in 658 rfl rfl
set_option maxRecDepth 20000 in
theorem q659 : Cond.methodLink RX0 89 yX1_commonGround ∈ lw_all := lw_in 659 rfl rfl
set_option maxRecDepth 20000 in
theorem q660 : Cond.methodLink RX0 92 yX5_putTogether ∈ lw_all := lw_in 660 rfl rfl
set_option maxRecDepth 20000 in
theorem q661 : Cond.instanceMethod yX5_putTogether ∈ lw_all := lw_in 661 rfl rfl
set_option maxRecDepth 20000 in
theorem q662 : Cond.selects RX5 yX5_putTogether yX5_putTogether ∈ lw_all := lw_in 662 rfl rfl
set_option maxRecDepth 20000 in
theorem q663 : Cond.code yX5_putTogether cX5_putTogether 10 none ∈ lw_all := lw_in 663 rfl rfl
set_option maxRecDepth 20000 in
theorem q664 : Cond.methodLink RX5 28 yX5_byRule ∈ lw_all := lw_in 664 rfl rfl
set_option maxRecDepth 20000 in
theorem q665 : Cond.static yX5_byRule ∈ lw_all := lw_in 665 rfl rfl
set_option maxRecDepth 20000 in
theorem q666 : Cond.code yX5_byRule cX5_byRule 3 (some .int) ∈ lw_all := lw_in 666 rfl rfl
set_option maxRecDepth 20000 in
theorem q667 : Cond.methodLink RX0 96 yX0_isStopped ∈ lw_all := lw_in 667 rfl rfl
set_option maxRecDepth 20000 in
theorem q669 : Cond.instanceMethod yX0_isStopped ∈ lw_all := lw_in 669 rfl rfl
set_option maxRecDepth 20000 in
theorem q670 : Cond.code yX0_isStopped cX0_isStopped 2 (some .boolean) ∈ lw_all := lw_in 670 rfl rfl
set_option maxRecDepth 20000 in
theorem q671 : Cond.methodLink RX0 138 yX5_conflictsFound ∈ lw_all := lw_in 671 rfl rfl
set_option maxRecDepth 20000 in
theorem q672 : Cond.instanceMethod yX5_conflictsFound ∈ lw_all := lw_in 672 rfl rfl
set_option maxRecDepth 20000 in
theorem q673 : Cond.selects RX5 yX5_conflictsFound yX5_conflictsFound ∈ lw_all := lw_in 673 rfl rfl
set_option maxRecDepth 20000 in
theorem q674 : Cond.code yX5_conflictsFound cX5_conflictsFound 1 (some .int) ∈ lw_all := lw_in 674 rfl rfl
set_option maxRecDepth 20000 in
theorem q675 : Cond.methodLink RX0 99 yX5_lowestConflict ∈ lw_all := lw_in 675 rfl rfl
set_option maxRecDepth 20000 in
theorem q676 : Cond.instanceMethod yX5_lowestConflict ∈ lw_all := lw_in 676 rfl rfl
set_option maxRecDepth 20000 in
theorem q677 : Cond.selects RX5 yX5_lowestConflict yX5_lowestConflict ∈ lw_all := lw_in 677 rfl rfl
set_option maxRecDepth 20000 in
theorem q678 : Cond.code yX5_lowestConflict cX5_lowestConflict 1 (some .int) ∈ lw_all := lw_in 678 rfl rfl
set_option maxRecDepth 20000 in
theorem q687 : Cond.instanceMethod yX0_tryPick ∈ lw_all := lw_in 687 rfl rfl
set_option maxRecDepth 20000 in
theorem q688 : Cond.selects RX0 yX0_tryPick yX0_tryPick ∈ lw_all := lw_in 688 rfl rfl
set_option maxRecDepth 20000 in
theorem q689 : Cond.code yX0_tryPick cX0_tryPick 4 (some .int) ∈ lw_all := lw_in 689 rfl rfl
set_option maxRecDepth 20000 in
theorem q690 : Cond.methodLink RX0 102 yX1_firstOf ∈ lw_all := lw_in 690 rfl rfl
set_option maxRecDepth 20000 in
theorem q691 : Cond.methodLink RX0 105 yX0_pickChange ∈ lw_all := lw_in 691 rfl rfl
set_option maxRecDepth 20000 in
theorem q693 : Cond.instanceMethod yX0_pickChange ∈ lw_all := lw_in 693 rfl rfl
set_option maxRecDepth 20000 in
theorem q694 : Cond.code yX0_pickChange cX0_pickChange 6 (some .int) ∈ lw_all := lw_in 694 rfl rfl
set_option maxRecDepth 20000 in
theorem q695 : Cond.methodLink RX0 141 yX5_isRowOf ∈ lw_all := lw_in 695 rfl rfl
set_option maxRecDepth 20000 in
theorem q696 : Cond.instanceMethod yX5_isRowOf ∈ lw_all := lw_in 696 rfl rfl
set_option maxRecDepth 20000 in
theorem q697 : Cond.selects RX5 yX5_isRowOf yX5_isRowOf ∈ lw_all := lw_in 697 rfl rfl
set_option maxRecDepth 20000 in
theorem q698 : Cond.code yX5_isRowOf cX5_isRowOf 4 (some .boolean) ∈ lw_all := lw_in 698 rfl rfl
set_option maxRecDepth 20000 in
theorem q767 : Cond.methodLink RX7 22 yX1_firstOf ∈ lw_all := lw_in 767 rfl rfl
set_option maxRecDepth 20000 in
theorem q769 : Cond.instanceMethod yX7_at ∈ lw_all := lw_in 769 rfl rfl
set_option maxRecDepth 20000 in
theorem q770 : Cond.selects RX7 yX7_at yX7_at ∈ lw_all := lw_in 770 rfl rfl
set_option maxRecDepth 20000 in
theorem q771 : Cond.code yX7_at cX7_at 2 (some .int) ∈ lw_all := lw_in 771 rfl rfl
set_option maxRecDepth 20000 in
theorem q806 : Cond.methodLink RX7 28 yX7_at ∈ lw_all := lw_in 806 rfl rfl
set_option maxRecDepth 20000 in
theorem q807 : Cond.methodLink RX7 31 yX1_amountIn ∈ lw_all := lw_in 807 rfl rfl
set_option maxRecDepth 20000 in
theorem q864 : Cond.methodLink RX7 35 yX1_tasteOf ∈ lw_all := lw_in 864 rfl rfl
set_option maxRecDepth 20000 in
theorem q876 : Cond.methodLink RX0 109 yX1_bundledCount ∈ lw_all := lw_in 876 rfl rfl
set_option maxRecDepth 20000 in
theorem q877 : Cond.instanceMethod yX1_bundledCount ∈ lw_all := lw_in 877 rfl rfl
set_option maxRecDepth 20000 in
theorem q878 : Cond.selects RX1 yX1_bundledCount yX1_bundledCount ∈ lw_all := lw_in 878 rfl rfl
set_option maxRecDepth 20000 in
theorem q879 : Cond.code yX1_bundledCount cX1_bundledCount 3 (some .int) ∈ lw_all := lw_in 879 rfl rfl
set_option maxRecDepth 20000 in
theorem q880 : Cond.methodLink RX0 112 yX1_takeBundle ∈ lw_all := lw_in 880 rfl rfl
set_option maxRecDepth 20000 in
theorem q881 : Cond.instanceMethod yX1_takeBundle ∈ lw_all := lw_in 881 rfl rfl
set_option maxRecDepth 20000 in
theorem q882 : Cond.selects RX1 yX1_takeBundle yX1_takeBundle ∈ lw_all := lw_in 882 rfl rfl
set_option maxRecDepth 20000 in
theorem q883 : Cond.code yX1_takeBundle cX1_takeBundle 3 none ∈ lw_all := lw_in 883 rfl rfl
set_option maxRecDepth 20000 in
theorem q896 : Cond.static yX8_isPlace ∈ lw_all := lw_in 896 rfl rfl
set_option maxRecDepth 20000 in
theorem q897 : Cond.code yX8_isPlace cX8_isPlace 1 (some .boolean) ∈ lw_all := lw_in 897 rfl rfl
set_option maxRecDepth 20000 in
theorem q898 : Cond.methodLink RX0 119 yX1_bundleKind ∈ lw_all := lw_in 898 rfl rfl
set_option maxRecDepth 20000 in
theorem q899 : Cond.instanceMethod yX1_bundleKind ∈ lw_all := lw_in 899 rfl rfl
set_option maxRecDepth 20000 in
theorem q900 : Cond.selects RX1 yX1_bundleKind yX1_bundleKind ∈ lw_all := lw_in 900 rfl rfl
set_option maxRecDepth 20000 in
theorem q901 : Cond.code yX1_bundleKind cX1_bundleKind 1 (some .int) ∈ lw_all := lw_in 901 rfl rfl
set_option maxRecDepth 20000 in
theorem q902 : Cond.methodLink RX0 122 yX1_kindOf ∈ lw_all := lw_in 902 rfl rfl
set_option maxRecDepth 20000 in
theorem q903 : Cond.methodLink RX0 125 yX1_placeOf ∈ lw_all := lw_in 903 rfl rfl
set_option maxRecDepth 20000 in
theorem q904 : Cond.instanceMethod yX1_placeOf ∈ lw_all := lw_in 904 rfl rfl
set_option maxRecDepth 20000 in
theorem q905 : Cond.selects RX1 yX1_placeOf yX1_placeOf ∈ lw_all := lw_in 905 rfl rfl
set_option maxRecDepth 20000 in
theorem q906 : Cond.code yX1_placeOf cX1_placeOf 3 (some .int) ∈ lw_all := lw_in 906 rfl rfl
set_option maxRecDepth 20000 in
theorem q907 : Cond.methodLink RX0 128 yX1_fillPlace ∈ lw_all := lw_in 907 rfl rfl
set_option maxRecDepth 20000 in
theorem q908 : Cond.instanceMethod yX1_fillPlace ∈ lw_all := lw_in 908 rfl rfl
set_option maxRecDepth 20000 in
theorem q909 : Cond.selects RX1 yX1_fillPlace yX1_fillPlace ∈ lw_all := lw_in 909 rfl rfl
set_option maxRecDepth 20000 in
theorem q910 : Cond.code yX1_fillPlace cX1_fillPlace 3 none ∈ lw_all := lw_in 910 rfl rfl
set_option maxRecDepth 20000 in
theorem q920 : Cond.instanceMethod yX1_bundledAt ∈ lw_all := lw_in 920 rfl rfl
set_option maxRecDepth 20000 in
theorem q921 : Cond.selects RX1 yX1_bundledAt yX1_bundledAt ∈ lw_all := lw_in 921 rfl rfl
set_option maxRecDepth 20000 in
theorem q922 : Cond.code yX1_bundledAt cX1_bundledAt 2 (some .int) ∈ lw_all := lw_in 922 rfl rfl
set_option maxRecDepth 20000 in
theorem q935 : Cond.methodLink RX0 131 yX1_bundledAt ∈ lw_all := lw_in 935 rfl rfl
set_option maxRecDepth 20000 in
theorem q936 : Cond.methodLink RX0 134 yX0_tryPick ∈ lw_all := lw_in 936 rfl rfl
set_option maxRecDepth 20000 in
theorem q948 : Cond.methodLink RX4 23 yX4_addNumber ∈ lw_all := lw_in 948 rfl rfl
set_option maxRecDepth 20000 in
theorem q950 : Cond.instanceMethod yX4_addNumber ∈ lw_all := lw_in 950 rfl rfl
set_option maxRecDepth 20000 in
theorem q951 : Cond.code yX4_addNumber cX4_addNumber 2 none ∈ lw_all := lw_in 951 rfl rfl
set_option maxRecDepth 20000 in
theorem q952 : Cond.methodLink RX4 27 yX4_addSign ∈ lw_all := lw_in 952 rfl rfl
set_option maxRecDepth 20000 in
theorem q954 : Cond.instanceMethod yX4_addSign ∈ lw_all := lw_in 954 rfl rfl
set_option maxRecDepth 20000 in
theorem q955 : Cond.code yX4_addSign cX4_addSign 2 none ∈ lw_all := lw_in 955 rfl rfl
set_option maxRecDepth 20000 in
theorem q956 : Cond.methodLink RX4 31 yX1_kindOf ∈ lw_all := lw_in 956 rfl rfl
set_option maxRecDepth 20000 in
theorem q957 : Cond.methodLink RX4 37 yX4_letterOf ∈ lw_all := lw_in 957 rfl rfl
set_option maxRecDepth 20000 in
theorem q958 : Cond.static yX4_letterOf ∈ lw_all := lw_in 958 rfl rfl
set_option maxRecDepth 20000 in
theorem q959 : Cond.code yX4_letterOf cX4_letterOf 1 (some .char) ∈ lw_all := lw_in 959 rfl rfl
set_option maxRecDepth 20000 in
theorem q960 : Cond.methodLink RX4 41 yX1_amountIn ∈ lw_all := lw_in 960 rfl rfl
set_option maxRecDepth 20000 in
theorem q969 : Cond.instanceMethod yX4_has ∈ lw_all := lw_in 969 rfl rfl
set_option maxRecDepth 20000 in
theorem q970 : Cond.selects RX4 yX4_has yX4_has ∈ lw_all := lw_in 970 rfl rfl
set_option maxRecDepth 20000 in
theorem q971 : Cond.code yX4_has cX4_has 2 (some .boolean) ∈ lw_all := lw_in 971 rfl rfl
set_option maxRecDepth 20000 in
theorem q977 : Cond.methodLink RX4 19 yX4_has ∈ lw_all := lw_in 977 rfl rfl
set_option maxRecDepth 20000 in
theorem q1151 : Cond.methodLink RX1 101 yX1_tipOf ∈ lw_all := lw_in 1151 rfl rfl
theorem hdV_X0_isStopped : yX0_isStopped.cls = RX0 ∧ yX0_isStopped.cls ≠ "java/lang/invoke/MethodHandle" ∧ yX0_isStopped.cls ≠ "java/lang/invoke/VarHandle" ∧ (parseMethodDescriptor yX0_isStopped.desc).map (fun d => d.parameters.length) = some 1 := by decide +kernel
theorem hdV_X0_pickChange : yX0_pickChange.cls = RX0 ∧ yX0_pickChange.cls ≠ "java/lang/invoke/MethodHandle" ∧ yX0_pickChange.cls ≠ "java/lang/invoke/VarHandle" ∧ (parseMethodDescriptor yX0_pickChange.desc).map (fun d => d.parameters.length) = some 4 := by decide +kernel
theorem hdV_X0_refuse : yX0_refuse.cls = RX0 ∧ yX0_refuse.cls ≠ "java/lang/invoke/MethodHandle" ∧ yX0_refuse.cls ≠ "java/lang/invoke/VarHandle" ∧ (parseMethodDescriptor yX0_refuse.desc).map (fun d => d.parameters.length) = some 2 := by decide +kernel
theorem hdV_X0_tryPick : yX0_tryPick.cls = RX0 ∧ yX0_tryPick.cls ≠ "java/lang/invoke/MethodHandle" ∧ yX0_tryPick.cls ≠ "java/lang/invoke/VarHandle" ∧ (parseMethodDescriptor yX0_tryPick.desc).map (fun d => d.parameters.length) = some 3 := by decide +kernel
theorem hdV_X1_addBranch : yX1_addBranch.cls = RX1 ∧ yX1_addBranch.cls ≠ "java/lang/invoke/MethodHandle" ∧ yX1_addBranch.cls ≠ "java/lang/invoke/VarHandle" ∧ (parseMethodDescriptor yX1_addBranch.desc).map (fun d => d.parameters.length) = some 1 := by decide +kernel
theorem hdV_X1_addCommit : yX1_addCommit.cls = RX1 ∧ yX1_addCommit.cls ≠ "java/lang/invoke/MethodHandle" ∧ yX1_addCommit.cls ≠ "java/lang/invoke/VarHandle" ∧ (parseMethodDescriptor yX1_addCommit.desc).map (fun d => d.parameters.length) = some 4 := by decide +kernel
theorem hdV_X1_amountIn : yX1_amountIn.cls = RX1 ∧ yX1_amountIn.cls ≠ "java/lang/invoke/MethodHandle" ∧ yX1_amountIn.cls ≠ "java/lang/invoke/VarHandle" ∧ (parseMethodDescriptor yX1_amountIn.desc).map (fun d => d.parameters.length) = some 2 := by decide +kernel
theorem hdV_X1_branchCount : yX1_branchCount.cls = RX1 ∧ yX1_branchCount.cls ≠ "java/lang/invoke/MethodHandle" ∧ yX1_branchCount.cls ≠ "java/lang/invoke/VarHandle" ∧ (parseMethodDescriptor yX1_branchCount.desc).map (fun d => d.parameters.length) = some 0 := by decide +kernel
theorem hdV_X1_bundleKind : yX1_bundleKind.cls = RX1 ∧ yX1_bundleKind.cls ≠ "java/lang/invoke/MethodHandle" ∧ yX1_bundleKind.cls ≠ "java/lang/invoke/VarHandle" ∧ (parseMethodDescriptor yX1_bundleKind.desc).map (fun d => d.parameters.length) = some 0 := by decide +kernel
theorem hdV_X1_bundledAt : yX1_bundledAt.cls = RX1 ∧ yX1_bundledAt.cls ≠ "java/lang/invoke/MethodHandle" ∧ yX1_bundledAt.cls ≠ "java/lang/invoke/VarHandle" ∧ (parseMethodDescriptor yX1_bundledAt.desc).map (fun d => d.parameters.length) = some 1 := by decide +kernel
theorem hdV_X1_bundledCount : yX1_bundledCount.cls = RX1 ∧ yX1_bundledCount.cls ≠ "java/lang/invoke/MethodHandle" ∧ yX1_bundledCount.cls ≠ "java/lang/invoke/VarHandle" ∧ (parseMethodDescriptor yX1_bundledCount.desc).map (fun d => d.parameters.length) = some 0 := by decide +kernel
theorem hdV_X1_changedIn : yX1_changedIn.cls = RX1 ∧ yX1_changedIn.cls ≠ "java/lang/invoke/MethodHandle" ∧ yX1_changedIn.cls ≠ "java/lang/invoke/VarHandle" ∧ (parseMethodDescriptor yX1_changedIn.desc).map (fun d => d.parameters.length) = some 1 := by decide +kernel
theorem hdV_X1_commonGround : yX1_commonGround.cls = RX1 ∧ yX1_commonGround.cls ≠ "java/lang/invoke/MethodHandle" ∧ yX1_commonGround.cls ≠ "java/lang/invoke/VarHandle" ∧ (parseMethodDescriptor yX1_commonGround.desc).map (fun d => d.parameters.length) = some 2 := by decide +kernel
theorem hdV_X1_depthOf : yX1_depthOf.cls = RX1 ∧ yX1_depthOf.cls ≠ "java/lang/invoke/MethodHandle" ∧ yX1_depthOf.cls ≠ "java/lang/invoke/VarHandle" ∧ (parseMethodDescriptor yX1_depthOf.desc).map (fun d => d.parameters.length) = some 1 := by decide +kernel
theorem hdV_X1_familyOf : yX1_familyOf.cls = RX1 ∧ yX1_familyOf.cls ≠ "java/lang/invoke/MethodHandle" ∧ yX1_familyOf.cls ≠ "java/lang/invoke/VarHandle" ∧ (parseMethodDescriptor yX1_familyOf.desc).map (fun d => d.parameters.length) = some 1 := by decide +kernel
theorem hdV_X1_fillPlace : yX1_fillPlace.cls = RX1 ∧ yX1_fillPlace.cls ≠ "java/lang/invoke/MethodHandle" ∧ yX1_fillPlace.cls ≠ "java/lang/invoke/VarHandle" ∧ (parseMethodDescriptor yX1_fillPlace.desc).map (fun d => d.parameters.length) = some 2 := by decide +kernel
theorem hdV_X1_firstOf : yX1_firstOf.cls = RX1 ∧ yX1_firstOf.cls ≠ "java/lang/invoke/MethodHandle" ∧ yX1_firstOf.cls ≠ "java/lang/invoke/VarHandle" ∧ (parseMethodDescriptor yX1_firstOf.desc).map (fun d => d.parameters.length) = some 1 := by decide +kernel
theorem hdV_X1_hasInFamily : yX1_hasInFamily.cls = RX1 ∧ yX1_hasInFamily.cls ≠ "java/lang/invoke/MethodHandle" ∧ yX1_hasInFamily.cls ≠ "java/lang/invoke/VarHandle" ∧ (parseMethodDescriptor yX1_hasInFamily.desc).map (fun d => d.parameters.length) = some 2 := by decide +kernel
theorem hdV_X1_isBranch : yX1_isBranch.cls = RX1 ∧ yX1_isBranch.cls ≠ "java/lang/invoke/MethodHandle" ∧ yX1_isBranch.cls ≠ "java/lang/invoke/VarHandle" ∧ (parseMethodDescriptor yX1_isBranch.desc).map (fun d => d.parameters.length) = some 1 := by decide +kernel
theorem hdV_X1_isCommit : yX1_isCommit.cls = RX1 ∧ yX1_isCommit.cls ≠ "java/lang/invoke/MethodHandle" ∧ yX1_isCommit.cls ≠ "java/lang/invoke/VarHandle" ∧ (parseMethodDescriptor yX1_isCommit.desc).map (fun d => d.parameters.length) = some 1 := by decide +kernel
theorem hdV_X1_isFull : yX1_isFull.cls = RX1 ∧ yX1_isFull.cls ≠ "java/lang/invoke/MethodHandle" ∧ yX1_isFull.cls ≠ "java/lang/invoke/VarHandle" ∧ (parseMethodDescriptor yX1_isFull.desc).map (fun d => d.parameters.length) = some 0 := by decide +kernel
theorem hdV_X1_kindOf : yX1_kindOf.cls = RX1 ∧ yX1_kindOf.cls ≠ "java/lang/invoke/MethodHandle" ∧ yX1_kindOf.cls ≠ "java/lang/invoke/VarHandle" ∧ (parseMethodDescriptor yX1_kindOf.desc).map (fun d => d.parameters.length) = some 1 := by decide +kernel
theorem hdV_X1_meetingPoint : yX1_meetingPoint.cls = RX1 ∧ yX1_meetingPoint.cls ≠ "java/lang/invoke/MethodHandle" ∧ yX1_meetingPoint.cls ≠ "java/lang/invoke/VarHandle" ∧ (parseMethodDescriptor yX1_meetingPoint.desc).map (fun d => d.parameters.length) = some 2 := by decide +kernel
theorem hdV_X1_moveTip : yX1_moveTip.cls = RX1 ∧ yX1_moveTip.cls ≠ "java/lang/invoke/MethodHandle" ∧ yX1_moveTip.cls ≠ "java/lang/invoke/VarHandle" ∧ (parseMethodDescriptor yX1_moveTip.desc).map (fun d => d.parameters.length) = some 2 := by decide +kernel
theorem hdV_X1_placeOf : yX1_placeOf.cls = RX1 ∧ yX1_placeOf.cls ≠ "java/lang/invoke/MethodHandle" ∧ yX1_placeOf.cls ≠ "java/lang/invoke/VarHandle" ∧ (parseMethodDescriptor yX1_placeOf.desc).map (fun d => d.parameters.length) = some 1 := by decide +kernel
theorem hdV_X1_secondOf : yX1_secondOf.cls = RX1 ∧ yX1_secondOf.cls ≠ "java/lang/invoke/MethodHandle" ∧ yX1_secondOf.cls ≠ "java/lang/invoke/VarHandle" ∧ (parseMethodDescriptor yX1_secondOf.desc).map (fun d => d.parameters.length) = some 1 := by decide +kernel
theorem hdV_X1_takeBundle : yX1_takeBundle.cls = RX1 ∧ yX1_takeBundle.cls ≠ "java/lang/invoke/MethodHandle" ∧ yX1_takeBundle.cls ≠ "java/lang/invoke/VarHandle" ∧ (parseMethodDescriptor yX1_takeBundle.desc).map (fun d => d.parameters.length) = some 1 := by decide +kernel
theorem hdV_X1_tasteOf : yX1_tasteOf.cls = RX1 ∧ yX1_tasteOf.cls ≠ "java/lang/invoke/MethodHandle" ∧ yX1_tasteOf.cls ≠ "java/lang/invoke/VarHandle" ∧ (parseMethodDescriptor yX1_tasteOf.desc).map (fun d => d.parameters.length) = some 1 := by decide +kernel
theorem hdV_X1_tipOf : yX1_tipOf.cls = RX1 ∧ yX1_tipOf.cls ≠ "java/lang/invoke/MethodHandle" ∧ yX1_tipOf.cls ≠ "java/lang/invoke/VarHandle" ∧ (parseMethodDescriptor yX1_tipOf.desc).map (fun d => d.parameters.length) = some 1 := by decide +kernel
theorem hdV_X4_addNumber : yX4_addNumber.cls = RX4 ∧ yX4_addNumber.cls ≠ "java/lang/invoke/MethodHandle" ∧ yX4_addNumber.cls ≠ "java/lang/invoke/VarHandle" ∧ (parseMethodDescriptor yX4_addNumber.desc).map (fun d => d.parameters.length) = some 1 := by decide +kernel
theorem hdV_X4_addSign : yX4_addSign.cls = RX4 ∧ yX4_addSign.cls ≠ "java/lang/invoke/MethodHandle" ∧ yX4_addSign.cls ≠ "java/lang/invoke/VarHandle" ∧ (parseMethodDescriptor yX4_addSign.desc).map (fun d => d.parameters.length) = some 1 := by decide +kernel
theorem hdV_X4_has : yX4_has.cls = RX4 ∧ yX4_has.cls ≠ "java/lang/invoke/MethodHandle" ∧ yX4_has.cls ≠ "java/lang/invoke/VarHandle" ∧ (parseMethodDescriptor yX4_has.desc).map (fun d => d.parameters.length) = some 1 := by decide +kernel
theorem hdS_X4_letterOf : yX4_letterOf.cls ≠ "java/lang/invoke/MethodHandle" ∧ yX4_letterOf.cls ≠ "java/lang/invoke/VarHandle" ∧ (parseMethodDescriptor yX4_letterOf.desc).map (fun d => d.parameters.length) = some 1 := by decide +kernel
theorem hdV_X5_amounts : yX5_amounts.cls = RX5 ∧ yX5_amounts.cls ≠ "java/lang/invoke/MethodHandle" ∧ yX5_amounts.cls ≠ "java/lang/invoke/VarHandle" ∧ (parseMethodDescriptor yX5_amounts.desc).map (fun d => d.parameters.length) = some 0 := by decide +kernel
theorem hdS_X5_byRule : yX5_byRule.cls ≠ "java/lang/invoke/MethodHandle" ∧ yX5_byRule.cls ≠ "java/lang/invoke/VarHandle" ∧ (parseMethodDescriptor yX5_byRule.desc).map (fun d => d.parameters.length) = some 3 := by decide +kernel
theorem hdV_X5_change : yX5_change.cls = RX5 ∧ yX5_change.cls ≠ "java/lang/invoke/MethodHandle" ∧ yX5_change.cls ≠ "java/lang/invoke/VarHandle" ∧ (parseMethodDescriptor yX5_change.desc).map (fun d => d.parameters.length) = some 4 := by decide +kernel
theorem hdV_X5_conflictsFound : yX5_conflictsFound.cls = RX5 ∧ yX5_conflictsFound.cls ≠ "java/lang/invoke/MethodHandle" ∧ yX5_conflictsFound.cls ≠ "java/lang/invoke/VarHandle" ∧ (parseMethodDescriptor yX5_conflictsFound.desc).map (fun d => d.parameters.length) = some 0 := by decide +kernel
theorem hdV_X5_isRowOf : yX5_isRowOf.cls = RX5 ∧ yX5_isRowOf.cls ≠ "java/lang/invoke/MethodHandle" ∧ yX5_isRowOf.cls ≠ "java/lang/invoke/VarHandle" ∧ (parseMethodDescriptor yX5_isRowOf.desc).map (fun d => d.parameters.length) = some 2 := by decide +kernel
theorem hdV_X5_lowestConflict : yX5_lowestConflict.cls = RX5 ∧ yX5_lowestConflict.cls ≠ "java/lang/invoke/MethodHandle" ∧ yX5_lowestConflict.cls ≠ "java/lang/invoke/VarHandle" ∧ (parseMethodDescriptor yX5_lowestConflict.desc).map (fun d => d.parameters.length) = some 0 := by decide +kernel
theorem hdV_X5_putTogether : yX5_putTogether.cls = RX5 ∧ yX5_putTogether.cls ≠ "java/lang/invoke/MethodHandle" ∧ yX5_putTogether.cls ≠ "java/lang/invoke/VarHandle" ∧ (parseMethodDescriptor yX5_putTogether.desc).map (fun d => d.parameters.length) = some 5 := by decide +kernel
theorem hdV_X7_at : yX7_at.cls = RX7 ∧ yX7_at.cls ≠ "java/lang/invoke/MethodHandle" ∧ yX7_at.cls ≠ "java/lang/invoke/VarHandle" ∧ (parseMethodDescriptor yX7_at.desc).map (fun d => d.parameters.length) = some 1 := by decide +kernel
theorem hdS_X8_isAmount : yX8_isAmount.cls ≠ "java/lang/invoke/MethodHandle" ∧ yX8_isAmount.cls ≠ "java/lang/invoke/VarHandle" ∧ (parseMethodDescriptor yX8_isAmount.desc).map (fun d => d.parameters.length) = some 1 := by decide +kernel
theorem hdS_X8_isInSet : yX8_isInSet.cls ≠ "java/lang/invoke/MethodHandle" ∧ yX8_isInSet.cls ≠ "java/lang/invoke/VarHandle" ∧ (parseMethodDescriptor yX8_isInSet.desc).map (fun d => d.parameters.length) = some 2 := by decide +kernel
theorem hdS_X8_isIngredient : yX8_isIngredient.cls ≠ "java/lang/invoke/MethodHandle" ∧ yX8_isIngredient.cls ≠ "java/lang/invoke/VarHandle" ∧ (parseMethodDescriptor yX8_isIngredient.desc).map (fun d => d.parameters.length) = some 1 := by decide +kernel
theorem hdS_X8_isPlace : yX8_isPlace.cls ≠ "java/lang/invoke/MethodHandle" ∧ yX8_isPlace.cls ≠ "java/lang/invoke/VarHandle" ∧ (parseMethodDescriptor yX8_isPlace.desc).map (fun d => d.parameters.length) = some 1 := by decide +kernel
theorem hdS_X8_isRule : yX8_isRule.cls ≠ "java/lang/invoke/MethodHandle" ∧ yX8_isRule.cls ≠ "java/lang/invoke/VarHandle" ∧ (parseMethodDescriptor yX8_isRule.desc).map (fun d => d.parameters.length) = some 1 := by decide +kernel
theorem hdS_X8_setOf : yX8_setOf.cls ≠ "java/lang/invoke/MethodHandle" ∧ yX8_setOf.cls ≠ "java/lang/invoke/VarHandle" ∧ (parseMethodDescriptor yX8_setOf.desc).map (fun d => d.parameters.length) = some 1 := by decide +kernel
abbrev Fo : Type := Int32 × Int32 × Int32 × AI × AI × AI × AI × AI × AI × AI × AI
def fo_commits (φ : Fo) : Int32 := φ.1
def fo_branches (φ : Fo) : Int32 := φ.2.1
def fo_purpose (φ : Fo) : Int32 := φ.2.2.1
def fo_kinds (φ : Fo) : AI := φ.2.2.2.1
def fo_firsts (φ : Fo) : AI := φ.2.2.2.2.1
def fo_seconds (φ : Fo) : AI := φ.2.2.2.2.2.1
def fo_families (φ : Fo) : AI := φ.2.2.2.2.2.2.1
def fo_depths (φ : Fo) : AI := φ.2.2.2.2.2.2.2.1
def fo_amounts (φ : Fo) : AI := φ.2.2.2.2.2.2.2.2.1
def fo_tips (φ : Fo) : AI := φ.2.2.2.2.2.2.2.2.2.1
def fo_bundled (φ : Fo) : AI := φ.2.2.2.2.2.2.2.2.2.2
def fo_s_commits (φ : Fo) (v : Int32) : Fo := (v, φ.2.1, φ.2.2.1, φ.2.2.2.1, φ.2.2.2.2.1, φ.2.2.2.2.2.1, φ.2.2.2.2.2.2.1, φ.2.2.2.2.2.2.2.1, φ.2.2.2.2.2.2.2.2.1, φ.2.2.2.2.2.2.2.2.2.1, φ.2.2.2.2.2.2.2.2.2.2)
def fo_s_branches (φ : Fo) (v : Int32) : Fo := (φ.1, v, φ.2.2.1, φ.2.2.2.1, φ.2.2.2.2.1, φ.2.2.2.2.2.1, φ.2.2.2.2.2.2.1, φ.2.2.2.2.2.2.2.1, φ.2.2.2.2.2.2.2.2.1, φ.2.2.2.2.2.2.2.2.2.1, φ.2.2.2.2.2.2.2.2.2.2)
def fo_s_purpose (φ : Fo) (v : Int32) : Fo := (φ.1, φ.2.1, v, φ.2.2.2.1, φ.2.2.2.2.1, φ.2.2.2.2.2.1, φ.2.2.2.2.2.2.1, φ.2.2.2.2.2.2.2.1, φ.2.2.2.2.2.2.2.2.1, φ.2.2.2.2.2.2.2.2.2.1, φ.2.2.2.2.2.2.2.2.2.2)
def fo_s_kinds (φ : Fo) (v : AI) : Fo := (φ.1, φ.2.1, φ.2.2.1, v, φ.2.2.2.2.1, φ.2.2.2.2.2.1, φ.2.2.2.2.2.2.1, φ.2.2.2.2.2.2.2.1, φ.2.2.2.2.2.2.2.2.1, φ.2.2.2.2.2.2.2.2.2.1, φ.2.2.2.2.2.2.2.2.2.2)
def fo_s_firsts (φ : Fo) (v : AI) : Fo := (φ.1, φ.2.1, φ.2.2.1, φ.2.2.2.1, v, φ.2.2.2.2.2.1, φ.2.2.2.2.2.2.1, φ.2.2.2.2.2.2.2.1, φ.2.2.2.2.2.2.2.2.1, φ.2.2.2.2.2.2.2.2.2.1, φ.2.2.2.2.2.2.2.2.2.2)
def fo_s_seconds (φ : Fo) (v : AI) : Fo := (φ.1, φ.2.1, φ.2.2.1, φ.2.2.2.1, φ.2.2.2.2.1, v, φ.2.2.2.2.2.2.1, φ.2.2.2.2.2.2.2.1, φ.2.2.2.2.2.2.2.2.1, φ.2.2.2.2.2.2.2.2.2.1, φ.2.2.2.2.2.2.2.2.2.2)
def fo_s_families (φ : Fo) (v : AI) : Fo := (φ.1, φ.2.1, φ.2.2.1, φ.2.2.2.1, φ.2.2.2.2.1, φ.2.2.2.2.2.1, v, φ.2.2.2.2.2.2.2.1, φ.2.2.2.2.2.2.2.2.1, φ.2.2.2.2.2.2.2.2.2.1, φ.2.2.2.2.2.2.2.2.2.2)
def fo_s_depths (φ : Fo) (v : AI) : Fo := (φ.1, φ.2.1, φ.2.2.1, φ.2.2.2.1, φ.2.2.2.2.1, φ.2.2.2.2.2.1, φ.2.2.2.2.2.2.1, v, φ.2.2.2.2.2.2.2.2.1, φ.2.2.2.2.2.2.2.2.2.1, φ.2.2.2.2.2.2.2.2.2.2)
def fo_s_amounts (φ : Fo) (v : AI) : Fo := (φ.1, φ.2.1, φ.2.2.1, φ.2.2.2.1, φ.2.2.2.2.1, φ.2.2.2.2.2.1, φ.2.2.2.2.2.2.1, φ.2.2.2.2.2.2.2.1, v, φ.2.2.2.2.2.2.2.2.2.1, φ.2.2.2.2.2.2.2.2.2.2)
def fo_s_tips (φ : Fo) (v : AI) : Fo := (φ.1, φ.2.1, φ.2.2.1, φ.2.2.2.1, φ.2.2.2.2.1, φ.2.2.2.2.2.1, φ.2.2.2.2.2.2.1, φ.2.2.2.2.2.2.2.1, φ.2.2.2.2.2.2.2.2.1, v, φ.2.2.2.2.2.2.2.2.2.2)
def fo_s_bundled (φ : Fo) (v : AI) : Fo := (φ.1, φ.2.1, φ.2.2.1, φ.2.2.2.1, φ.2.2.2.2.1, φ.2.2.2.2.2.1, φ.2.2.2.2.2.2.1, φ.2.2.2.2.2.2.2.1, φ.2.2.2.2.2.2.2.2.1, φ.2.2.2.2.2.2.2.2.2.1, v)
def gX0 (E : PE) (a : Nat → Nat) (r_forest : Nat) (r_mix : Nat) (v_reason : Int32) (v_detail : Int32) : va_W := [(a 0, .inr (0, [.ref r_forest, .ref r_mix, .int v_reason, .int v_detail]))]
def gX1 (E : PE) (a : Nat → Nat) (φ : Fo) : va_W := [(a 0, .inr (1, [.int (fo_commits φ), .int (fo_branches φ), .int (fo_purpose φ), .ref (a 1), .ref (a 2), .ref (a 3), .ref (a 4), .ref (a 5), .ref (a 6), .ref (a 7), .ref (a 8)])), (a 1, .inl (E.2.1, 24, .inl (fo_kinds φ))), (a 2, .inl (E.2.1, 24, .inl (fo_firsts φ))), (a 3, .inl (E.2.1, 24, .inl (fo_seconds φ))), (a 4, .inl (E.2.1, 24, .inl (fo_families φ))), (a 5, .inl (E.2.1, 24, .inl (fo_depths φ))), (a 6, .inl (E.2.1, 144, .inl (fo_amounts φ))), (a 7, .inl (E.2.1, 5, .inl (fo_tips φ))), (a 8, .inl (E.2.1, 4, .inl (fo_bundled φ)))]
def gX3 (E : PE) (a : Nat → Nat) (v_signs : AI) (v_length : Int32) : va_W := [(a 0, .inr (3, [.ref (a 1), .int v_length])), (a 1, .inl (E.2.2.1, 60, .inl (fun j => ch (v_signs j))))]
def gX4 (E : PE) (a : Nat → Nat) (v_signs : AI) (v_length : Int32) : va_W := [(a 0, .inr (4, [.ref (a 1), .int v_length])), (a 1, .inl (E.2.2.1, 24, .inl (fun j => ch (v_signs j))))]
def gX5 (E : PE) (a : Nat → Nat) (v_row : AI) (v_conflictCount : Int32) (v_lowest : Int32) : va_W := [(a 0, .inr (5, [.ref (a 1), .int v_conflictCount, .int v_lowest])), (a 1, .inl (E.2.1, 6, .inl (v_row)))]
def gX6 (E : PE) (a : Nat → Nat) (v_rows : AI) (v_count : Int32) (v_position : Int32) (v_column : Int32) : va_W := [(a 0, .inr (6, [.ref (a 1), .int v_count, .int v_position, .int v_column])), (a 1, .inl (E.2.1, 84, .inl (v_rows)))]
def gX7 (E : PE) (a : Nat → Nat) (v_commits : AI) (v_length : Int32) (v_looks : Int32) : va_W := [(a 0, .inr (7, [.ref (a 1), .int v_length, .int v_looks])), (a 1, .inl (E.2.1, 24, .inl (v_commits)))]
def gX9 (E : PE) (a : Nat → Nat) (v_now : AI) (v_tried : AI) (v_kept : AI) (v_undos : Int32) (v_saved : AI) (v_isSaved : Int32) (v_line : AI) (v_lined : Int32) (v_text : AI) (v_length : Int32) (v_at : Int32) (v_order : Int32) (v_told : AI) (v_error : Int32) (v_reason : Int32) (v_detail : Int32) (v_answer : Int32) (v_thrown : Int32) (v_mixed : AI) (v_conflicts : Int32) (v_firstConflict : Int32) : va_W := [(a 0, .inr (9, [.ref (a 1), .ref (a 2), .ref (a 3), .int v_undos, .ref (a 4), .int v_isSaved, .ref (a 5), .int v_lined, .ref (a 6), .int v_length, .int v_at, .int (ch v_order), .ref (a 7), .int v_error, .int v_reason, .int v_detail, .int v_answer, .int v_thrown, .ref (a 8), .int v_conflicts, .int v_firstConflict])), (a 1, .inl (E.2.1, 228, .inl (v_now))), (a 2, .inl (E.2.1, 228, .inl (v_tried))), (a 3, .inl (E.2.1, 1824, .inl (v_kept))), (a 4, .inl (E.2.1, 228, .inl (v_saved))), (a 5, .inl (E.2.2.1, 40, .inl (fun j => ch (v_line j)))), (a 6, .inl (E.2.2.1, 60, .inl (fun j => ch (v_text j)))), (a 7, .inl (E.2.1, 3, .inl (v_told))), (a 8, .inl (E.2.1, 6, .inl (v_mixed)))]
set_option maxRecDepth 20000 in
theorem iX0 : ∀ w ∈ u_ws RX0 TX0 4, w ∈ lw_all := show ∀ w ∈ [u_lay RX0 TX0 0, u_lay RX0 TX0 1, u_lay RX0 TX0 2, u_lay RX0 TX0 3], w ∈ lw_all from (List.forall_mem_cons.mpr ⟨lw_in 180 rfl rfl, (List.forall_mem_cons.mpr ⟨lw_in 182 rfl rfl, (List.forall_mem_cons.mpr ⟨lw_in 184 rfl rfl, (List.forall_mem_cons.mpr ⟨lw_in 186 rfl rfl, (fun _ h => absurd h List.not_mem_nil)⟩)⟩)⟩)⟩)
set_option maxRecDepth 20000 in
theorem iX1 : ∀ w ∈ u_ws RX1 TX1 11, w ∈ lw_all := show ∀ w ∈ [u_lay RX1 TX1 0, u_lay RX1 TX1 1, u_lay RX1 TX1 2, u_lay RX1 TX1 3, u_lay RX1 TX1 4, u_lay RX1 TX1 5, u_lay RX1 TX1 6, u_lay RX1 TX1 7, u_lay RX1 TX1 8, u_lay RX1 TX1 9, u_lay RX1 TX1 10], w ∈ lw_all from (List.forall_mem_cons.mpr ⟨lw_in 111 rfl rfl, (List.forall_mem_cons.mpr ⟨lw_in 113 rfl rfl, (List.forall_mem_cons.mpr ⟨lw_in 115 rfl rfl, (List.forall_mem_cons.mpr ⟨lw_in 117 rfl rfl, (List.forall_mem_cons.mpr ⟨lw_in 119 rfl rfl, (List.forall_mem_cons.mpr ⟨lw_in 121 rfl rfl, (List.forall_mem_cons.mpr ⟨lw_in 123 rfl rfl, (List.forall_mem_cons.mpr ⟨lw_in 125 rfl rfl, (List.forall_mem_cons.mpr ⟨lw_in 127 rfl rfl, (List.forall_mem_cons.mpr ⟨lw_in 129 rfl rfl, (List.forall_mem_cons.mpr ⟨lw_in 131 rfl rfl, (fun _ h => absurd h List.not_mem_nil)⟩)⟩)⟩)⟩)⟩)⟩)⟩)⟩)⟩)⟩)⟩)
set_option maxRecDepth 20000 in
theorem iX2 : ∀ w ∈ u_ws RX2 TX2 3, w ∈ lw_all := show ∀ w ∈ [u_lay RX2 TX2 0, u_lay RX2 TX2 1, u_lay RX2 TX2 2], w ∈ lw_all from (List.forall_mem_cons.mpr ⟨lw_in 147 rfl rfl, (List.forall_mem_cons.mpr ⟨lw_in 149 rfl rfl, (List.forall_mem_cons.mpr ⟨lw_in 151 rfl rfl, (fun _ h => absurd h List.not_mem_nil)⟩)⟩)⟩)
set_option maxRecDepth 20000 in
theorem iX3 : ∀ w ∈ u_ws RX3 TX3 2, w ∈ lw_all := show ∀ w ∈ [u_lay RX3 TX3 0, u_lay RX3 TX3 1], w ∈ lw_all from (List.forall_mem_cons.mpr ⟨lw_in 213 rfl rfl, (List.forall_mem_cons.mpr ⟨lw_in 215 rfl rfl, (fun _ h => absurd h List.not_mem_nil)⟩)⟩)
set_option maxRecDepth 20000 in
theorem iX4 : ∀ w ∈ u_ws RX4 TX4 2, w ∈ lw_all := show ∀ w ∈ [u_lay RX4 TX4 0, u_lay RX4 TX4 1], w ∈ lw_all from (List.forall_mem_cons.mpr ⟨lw_in 246 rfl rfl, (List.forall_mem_cons.mpr ⟨lw_in 248 rfl rfl, (fun _ h => absurd h List.not_mem_nil)⟩)⟩)
set_option maxRecDepth 20000 in
theorem iX5 : ∀ w ∈ u_ws RX5 TX5 3, w ∈ lw_all := show ∀ w ∈ [u_lay RX5 TX5 0, u_lay RX5 TX5 1, u_lay RX5 TX5 2], w ∈ lw_all from (List.forall_mem_cons.mpr ⟨lw_in 169 rfl rfl, (List.forall_mem_cons.mpr ⟨lw_in 171 rfl rfl, (List.forall_mem_cons.mpr ⟨lw_in 173 rfl rfl, (fun _ h => absurd h List.not_mem_nil)⟩)⟩)⟩)
set_option maxRecDepth 20000 in
theorem iX6 : ∀ w ∈ u_ws RX6 TX6 4, w ∈ lw_all := show ∀ w ∈ [u_lay RX6 TX6 0, u_lay RX6 TX6 1, u_lay RX6 TX6 2, u_lay RX6 TX6 3], w ∈ lw_all from (List.forall_mem_cons.mpr ⟨lw_in 229 rfl rfl, (List.forall_mem_cons.mpr ⟨lw_in 231 rfl rfl, (List.forall_mem_cons.mpr ⟨lw_in 233 rfl rfl, (List.forall_mem_cons.mpr ⟨lw_in 235 rfl rfl, (fun _ h => absurd h List.not_mem_nil)⟩)⟩)⟩)⟩)
set_option maxRecDepth 20000 in
theorem iX7 : ∀ w ∈ u_ws RX7 TX7 3, w ∈ lw_all := show ∀ w ∈ [u_lay RX7 TX7 0, u_lay RX7 TX7 1, u_lay RX7 TX7 2], w ∈ lw_all from (List.forall_mem_cons.mpr ⟨lw_in 198 rfl rfl, (List.forall_mem_cons.mpr ⟨lw_in 200 rfl rfl, (List.forall_mem_cons.mpr ⟨lw_in 202 rfl rfl, (fun _ h => absurd h List.not_mem_nil)⟩)⟩)⟩)
set_option maxRecDepth 20000 in
theorem iX8 : ∀ w ∈ u_ws RX8 TX8 11, w ∈ lw_all := show ∀ w ∈ [u_lay RX8 TX8 0, u_lay RX8 TX8 1, u_lay RX8 TX8 2, u_lay RX8 TX8 3, u_lay RX8 TX8 4, u_lay RX8 TX8 5, u_lay RX8 TX8 6, u_lay RX8 TX8 7, u_lay RX8 TX8 8, u_lay RX8 TX8 9, u_lay RX8 TX8 10], w ∈ lw_all from (List.forall_mem_cons.mpr ⟨lw_in 262 rfl rfl, (List.forall_mem_cons.mpr ⟨lw_in 264 rfl rfl, (List.forall_mem_cons.mpr ⟨lw_in 266 rfl rfl, (List.forall_mem_cons.mpr ⟨lw_in 268 rfl rfl, (List.forall_mem_cons.mpr ⟨lw_in 270 rfl rfl, (List.forall_mem_cons.mpr ⟨lw_in 272 rfl rfl, (List.forall_mem_cons.mpr ⟨lw_in 274 rfl rfl, (List.forall_mem_cons.mpr ⟨lw_in 276 rfl rfl, (List.forall_mem_cons.mpr ⟨lw_in 278 rfl rfl, (List.forall_mem_cons.mpr ⟨lw_in 280 rfl rfl, (List.forall_mem_cons.mpr ⟨lw_in 282 rfl rfl, (fun _ h => absurd h List.not_mem_nil)⟩)⟩)⟩)⟩)⟩)⟩)⟩)⟩)⟩)⟩)⟩)
set_option maxRecDepth 20000 in
theorem iX9 : ∀ w ∈ u_ws RX9 TX9 21, w ∈ lw_all := show ∀ w ∈ [u_lay RX9 TX9 0, u_lay RX9 TX9 1, u_lay RX9 TX9 2, u_lay RX9 TX9 3, u_lay RX9 TX9 4, u_lay RX9 TX9 5, u_lay RX9 TX9 6, u_lay RX9 TX9 7, u_lay RX9 TX9 8, u_lay RX9 TX9 9, u_lay RX9 TX9 10, u_lay RX9 TX9 11, u_lay RX9 TX9 12, u_lay RX9 TX9 13, u_lay RX9 TX9 14, u_lay RX9 TX9 15, u_lay RX9 TX9 16, u_lay RX9 TX9 17, u_lay RX9 TX9 18, u_lay RX9 TX9 19, u_lay RX9 TX9 20], w ∈ lw_all from (List.forall_mem_cons.mpr ⟨lw_in 1219 rfl rfl, (List.forall_mem_cons.mpr ⟨lw_in 1221 rfl rfl, (List.forall_mem_cons.mpr ⟨lw_in 1223 rfl rfl, (List.forall_mem_cons.mpr ⟨lw_in 1225 rfl rfl, (List.forall_mem_cons.mpr ⟨lw_in 1227 rfl rfl, (List.forall_mem_cons.mpr ⟨lw_in 1229 rfl rfl, (List.forall_mem_cons.mpr ⟨lw_in 1231 rfl rfl, (List.forall_mem_cons.mpr ⟨lw_in 1233 rfl rfl, (List.forall_mem_cons.mpr ⟨lw_in 1235 rfl rfl, (List.forall_mem_cons.mpr ⟨lw_in 1237 rfl rfl, (List.forall_mem_cons.mpr ⟨lw_in 1239 rfl rfl, (List.forall_mem_cons.mpr ⟨lw_in 1241 rfl rfl, (List.forall_mem_cons.mpr ⟨lw_in 1243 rfl rfl, (List.forall_mem_cons.mpr ⟨lw_in 1245 rfl rfl, (List.forall_mem_cons.mpr ⟨lw_in 1247 rfl rfl, (List.forall_mem_cons.mpr ⟨lw_in 1249 rfl rfl, (List.forall_mem_cons.mpr ⟨lw_in 1251 rfl rfl, (List.forall_mem_cons.mpr ⟨lw_in 1253 rfl rfl, (List.forall_mem_cons.mpr ⟨lw_in 1255 rfl rfl, (List.forall_mem_cons.mpr ⟨lw_in 1257 rfl rfl, (List.forall_mem_cons.mpr ⟨lw_in 1259 rfl rfl, (fun _ h => absurd h List.not_mem_nil)⟩)⟩)⟩)⟩)⟩)⟩)⟩)⟩)⟩)⟩)⟩)⟩)⟩)⟩)⟩)⟩)⟩)⟩)⟩)⟩)⟩)
