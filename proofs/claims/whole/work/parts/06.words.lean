set_option maxRecDepth 20000 in
theorem q0 : Cond.selects RX0 yX0_refuse yX0_refuse ∈ lw_all := lw_in 0 rfl rfl
set_option maxRecDepth 20000 in
theorem q1 : Cond.selects RX8 yX8_finished yX8_finished ∈ lw_all := lw_in 1 rfl rfl
set_option maxRecDepth 20000 in
theorem q2 : Cond.selects RX2 yX2_rowAt yX2_rowAt ∈ lw_all := lw_in 2 rfl rfl
set_option maxRecDepth 20000 in
theorem q4 : Cond.selects RX8 yX8_needBranch yX8_needBranch ∈ lw_all := lw_in 4 rfl rfl
set_option maxRecDepth 20000 in
theorem q5 : Cond.selects RX8 yX8_needCommit yX8_needCommit ∈ lw_all := lw_in 5 rfl rfl
set_option maxRecDepth 20000 in
theorem q6 : Cond.selects RX8 yX8_needIngredient yX8_needIngredient ∈ lw_all := lw_in 6 rfl rfl
set_option maxRecDepth 20000 in
theorem q7 : Cond.selects RX0 yX0_isStopped yX0_isStopped ∈ lw_all := lw_in 7 rfl rfl
set_option maxRecDepth 20000 in
theorem q8 : Cond.selects RX0 yX0_pickChange yX0_pickChange ∈ lw_all := lw_in 8 rfl rfl
set_option maxRecDepth 20000 in
theorem q9 : Cond.selects RX8 yX8_needAmount yX8_needAmount ∈ lw_all := lw_in 9 rfl rfl
set_option maxRecDepth 20000 in
theorem q10 : Cond.selects RX4 yX4_addNumber yX4_addNumber ∈ lw_all := lw_in 10 rfl rfl
set_option maxRecDepth 20000 in
theorem q11 : Cond.selects RX4 yX4_addSign yX4_addSign ∈ lw_all := lw_in 11 rfl rfl
set_option maxRecDepth 20000 in
theorem q12 : Cond.selects RX6 yX6_parseOrder yX6_parseOrder ∈ lw_all := lw_in 12 rfl rfl
set_option maxRecDepth 20000 in
theorem q13 : Cond.selects RX6 yX6_store yX6_store ∈ lw_all := lw_in 13 rfl rfl
set_option maxRecDepth 20000 in
theorem q14 : Cond.selects RX6 yX6_parseSign yX6_parseSign ∈ lw_all := lw_in 14 rfl rfl
set_option maxRecDepth 20000 in
theorem q15 : Cond.selects RX6 yX6_carryOutOrder yX6_carryOutOrder ∈ lw_all := lw_in 15 rfl rfl
set_option maxRecDepth 20000 in
theorem q16 : Cond.selects RX6 yX6_numberAt yX6_numberAt ∈ lw_all := lw_in 16 rfl rfl
set_option maxRecDepth 20000 in
theorem q17 : Cond.selects RX9 yX9_tries yX9_tries ∈ lw_all := lw_in 17 rfl rfl
set_option maxRecDepth 20000 in
theorem q18 : Cond.selects RX9 yX9_edits yX9_edits ∈ lw_all := lw_in 18 rfl rfl
set_option maxRecDepth 20000 in
theorem q19 : Cond.selects RX9 yX9_isBranch yX9_isBranch ∈ lw_all := lw_in 19 rfl rfl
set_option maxRecDepth 20000 in
theorem q20 : Cond.selects RX9 yX9_top yX9_top ∈ lw_all := lw_in 20 rfl rfl
set_option maxRecDepth 20000 in
theorem q21 : Cond.selects RX9 yX9_has yX9_has ∈ lw_all := lw_in 21 rfl rfl
set_option maxRecDepth 20000 in
theorem q22 : Cond.selects RX9 yX9_of yX9_of ∈ lw_all := lw_in 22 rfl rfl
set_option maxRecDepth 20000 in
theorem q23 : Cond.selects RX9 yX9_refuses yX9_refuses ∈ lw_all := lw_in 23 rfl rfl
set_option maxRecDepth 20000 in
theorem q24 : Cond.selects RX9 yX9_comes yX9_comes ∈ lw_all := lw_in 24 rfl rfl
set_option maxRecDepth 20000 in
theorem q25 : Cond.selects RX9 yX9_does yX9_does ∈ lw_all := lw_in 25 rfl rfl
set_option maxRecDepth 20000 in
theorem q26 : Cond.selects RX9 yX9_ends yX9_ends ∈ lw_all := lw_in 26 rfl rfl
set_option maxRecDepth 20000 in
theorem q27 : Cond.selects RX9 yX9_keeps yX9_keeps ∈ lw_all := lw_in 27 rfl rfl
set_option maxRecDepth 20000 in
theorem q28 : Cond.selects RX9 yX9_raises yX9_raises ∈ lw_all := lw_in 28 rfl rfl
set_option maxRecDepth 20000 in
theorem q29 : Cond.selects RX9 yX9_forks yX9_forks ∈ lw_all := lw_in 29 rfl rfl
set_option maxRecDepth 20000 in
theorem q30 : Cond.selects RX9 yX9_endsAt yX9_endsAt ∈ lw_all := lw_in 30 rfl rfl
set_option maxRecDepth 20000 in
theorem q31 : Cond.selects RX9 yX9_resets yX9_resets ∈ lw_all := lw_in 31 rfl rfl
set_option maxRecDepth 20000 in
theorem q32 : Cond.selects RX9 yX9_isCommit yX9_isCommit ∈ lw_all := lw_in 32 rfl rfl
set_option maxRecDepth 20000 in
theorem q33 : Cond.selects RX9 yX9_unlike yX9_unlike ∈ lw_all := lw_in 33 rfl rfl
set_option maxRecDepth 20000 in
theorem q34 : Cond.selects RX9 yX9_family yX9_family ∈ lw_all := lw_in 34 rfl rfl
set_option maxRecDepth 20000 in
theorem q35 : Cond.selects RX9 yX9_deep yX9_deep ∈ lw_all := lw_in 35 rfl rfl
set_option maxRecDepth 20000 in
theorem q36 : Cond.selects RX9 yX9_merges yX9_merges ∈ lw_all := lw_in 36 rfl rfl
set_option maxRecDepth 20000 in
theorem q37 : Cond.selects RX9 yX9_isWithin yX9_isWithin ∈ lw_all := lw_in 37 rfl rfl
set_option maxRecDepth 20000 in
theorem q38 : Cond.selects RX9 yX9_common yX9_common ∈ lw_all := lw_in 38 rfl rfl
set_option maxRecDepth 20000 in
theorem q39 : Cond.selects RX9 yX9_mixes yX9_mixes ∈ lw_all := lw_in 39 rfl rfl
set_option maxRecDepth 20000 in
theorem q40 : Cond.selects RX9 yX9_lays yX9_lays ∈ lw_all := lw_in 40 rfl rfl
set_option maxRecDepth 20000 in
theorem q41 : Cond.selects RX9 yX9_picks yX9_picks ∈ lw_all := lw_in 41 rfl rfl
set_option maxRecDepth 20000 in
theorem q42 : Cond.selects RX9 yX9_picked yX9_picked ∈ lw_all := lw_in 42 rfl rfl
set_option maxRecDepth 20000 in
theorem q43 : Cond.selects RX9 yX9_reverts yX9_reverts ∈ lw_all := lw_in 43 rfl rfl
set_option maxRecDepth 20000 in
theorem q44 : Cond.selects RX9 yX9_far yX9_far ∈ lw_all := lw_in 44 rfl rfl
set_option maxRecDepth 20000 in
theorem q45 : Cond.selects RX9 yX9_onLineOf yX9_onLineOf ∈ lw_all := lw_in 45 rfl rfl
set_option maxRecDepth 20000 in
theorem q46 : Cond.selects RX9 yX9_isBad yX9_isBad ∈ lw_all := lw_in 46 rfl rfl
set_option maxRecDepth 20000 in
theorem q47 : Cond.selects RX9 yX9_tasteOf yX9_tasteOf ∈ lw_all := lw_in 47 rfl rfl
set_option maxRecDepth 20000 in
theorem q48 : Cond.selects RX9 yX9_inBundle yX9_inBundle ∈ lw_all := lw_in 48 rfl rfl
set_option maxRecDepth 20000 in
theorem q49 : Cond.selects RX9 yX9_puts yX9_puts ∈ lw_all := lw_in 49 rfl rfl
set_option maxRecDepth 20000 in
theorem q50 : Cond.selects RX9 yX9_plays yX9_plays ∈ lw_all := lw_in 50 rfl rfl
set_option maxRecDepth 20000 in
theorem q51 : Cond.selects RX9 yX9_comesBack yX9_comesBack ∈ lw_all := lw_in 51 rfl rfl
set_option maxRecDepth 20000 in
theorem q52 : Cond.selects RX9 yX9_writesNumber yX9_writesNumber ∈ lw_all := lw_in 52 rfl rfl
set_option maxRecDepth 20000 in
theorem q53 : Cond.selects RX9 yX9_isOrder yX9_isOrder ∈ lw_all := lw_in 53 rfl rfl
set_option maxRecDepth 20000 in
theorem q54 : Cond.selects RX9 yX9_digits yX9_digits ∈ lw_all := lw_in 54 rfl rfl
set_option maxRecDepth 20000 in
theorem q55 : Cond.selects RX9 yX9_sign yX9_sign ∈ lw_all := lw_in 55 rfl rfl
set_option maxRecDepth 20000 in
theorem q56 : Cond.selects RX9 yX9_carries yX9_carries ∈ lw_all := lw_in 56 rfl rfl
set_option maxRecDepth 20000 in
theorem q57 : Cond.selects RX9 yX9_those yX9_those ∈ lw_all := lw_in 57 rfl rfl
set_option maxRecDepth 20000 in
theorem q58 : Cond.initialized RL ∈ lw_all := lw_in 58 rfl rfl
set_option maxRecDepth 20000 in
theorem q59 : Cond.initialized RX8 ∈ lw_all := lw_in 59 rfl rfl
set_option maxRecDepth 20000 in
theorem q60 : Cond.initialized RX1 ∈ lw_all := lw_in 60 rfl rfl
set_option maxRecDepth 20000 in
theorem q61 : Cond.initialized RX2 ∈ lw_all := lw_in 61 rfl rfl
set_option maxRecDepth 20000 in
theorem q62 : Cond.initialized RX0 ∈ lw_all := lw_in 62 rfl rfl
set_option maxRecDepth 20000 in
theorem q63 : Cond.initialized RX5 ∈ lw_all := lw_in 63 rfl rfl
set_option maxRecDepth 20000 in
theorem q64 : Cond.initialized RX7 ∈ lw_all := lw_in 64 rfl rfl
set_option maxRecDepth 20000 in
theorem q65 : Cond.initialized RX3 ∈ lw_all := lw_in 65 rfl rfl
set_option maxRecDepth 20000 in
theorem q66 : Cond.initialized RX6 ∈ lw_all := lw_in 66 rfl rfl
set_option maxRecDepth 20000 in
theorem q67 : Cond.initialized RX4 ∈ lw_all := lw_in 67 rfl rfl
set_option maxRecDepth 20000 in
theorem q68 : Cond.initialized RX9 ∈ lw_all := lw_in 68 rfl rfl
set_option maxRecDepth 20000 in
theorem q69 : Cond.initialized RJ10 ∈ lw_all := lw_in 69 rfl rfl
set_option maxRecDepth 20000 in
theorem q70 : Cond.initialized RJ9 ∈ lw_all := lw_in 70 rfl rfl
set_option maxRecDepth 20000 in
theorem q71 : Cond.initialized "java/lang/Throwable" ∈ lw_all := lw_in 71 rfl rfl
set_option maxRecDepth 20000 in
theorem q72 : Cond.initialized "java/lang/Exception" ∈ lw_all := lw_in 72 rfl rfl
set_option maxRecDepth 20000 in
theorem q73 : Cond.initialized "java/lang/RuntimeException" ∈ lw_all := lw_in 73 rfl rfl
set_option maxRecDepth 20000 in
theorem q74 : Cond.initialized "java/lang/IndexOutOfBoundsException" ∈ lw_all := lw_in 74 rfl rfl
set_option maxRecDepth 20000 in
theorem q75 : Cond.initialized "java/lang/IllegalArgumentException" ∈ lw_all := lw_in 75 rfl rfl
set_option maxRecDepth 20000 in
theorem q76 : Cond.initialized "java/lang/UnsupportedOperationException" ∈ lw_all := lw_in 76 rfl rfl
set_option maxRecDepth 20000 in
theorem q77 : Cond.initialized RJxd2413 ∈ lw_all := lw_in 77 rfl rfl
set_option maxRecDepth 20000 in
theorem q78 : Cond.initialized RJ6 ∈ lw_all := lw_in 78 rfl rfl
set_option maxRecDepth 20000 in
theorem q79 : Cond.initialized "java/util/NoSuchElementException" ∈ lw_all := lw_in 79 rfl rfl
set_option maxRecDepth 20000 in
theorem q80 : Cond.initialized RJxf58ca ∈ lw_all := lw_in 80 rfl rfl
set_option maxRecDepth 20000 in
theorem q81 : Cond.initialized RJ0 ∈ lw_all := lw_in 81 rfl rfl
set_option maxRecDepth 20000 in
theorem q82 : Cond.initialized RJ1 ∈ lw_all := lw_in 82 rfl rfl
set_option maxRecDepth 20000 in
theorem q83 : Cond.initialized RJ3 ∈ lw_all := lw_in 83 rfl rfl
set_option maxRecDepth 20000 in
theorem q84 : Cond.initialized RJ2 ∈ lw_all := lw_in 84 rfl rfl
set_option maxRecDepth 20000 in
theorem q85 : Cond.initialized "java/lang/IllegalStateException" ∈ lw_all := lw_in 85 rfl rfl
set_option maxRecDepth 20000 in
theorem q86 : Cond.classLink RL 8 RX8 ∈ lw_all := lw_in 86 rfl rfl
set_option maxRecDepth 20000 in
theorem q87 : Cond.instantiable RX8 11 ∈ lw_all := lw_in 87 rfl rfl
set_option maxRecDepth 20000 in
theorem q88 : Cond.methodLink RL 128 yX8_init ∈ lw_all := lw_in 88 rfl rfl
set_option maxRecDepth 20000 in
theorem q89 : Cond.instanceMethod yX8_init ∈ lw_all := lw_in 89 rfl rfl
set_option maxRecDepth 20000 in
theorem q90 : Cond.code yX8_init cX8_init 2 none ∈ lw_all := lw_in 90 rfl rfl
set_option maxRecDepth 20000 in
theorem q91 : Cond.methodLink RX8 1 Lib.objectInit ∈ lw_all := lw_in 91 rfl rfl
set_option maxRecDepth 20000 in
theorem q92 : Cond.instanceMethod Lib.objectInit ∈ lw_all := lw_in 92 rfl rfl
set_option maxRecDepth 20000 in
theorem q93 : Cond.code Lib.objectInit ⟨#[0xb1]⟩ 1 none ∈ lw_all := lw_in 93 rfl rfl
set_option maxRecDepth 20000 in
theorem q94 : Cond.classLink RX8 7 RX1 ∈ lw_all := lw_in 94 rfl rfl
set_option maxRecDepth 20000 in
theorem q95 : Cond.instantiable RX1 11 ∈ lw_all := lw_in 95 rfl rfl
set_option maxRecDepth 20000 in
theorem q96 : Cond.methodLink RX8 9 yX1_init ∈ lw_all := lw_in 96 rfl rfl
set_option maxRecDepth 20000 in
theorem q97 : Cond.instanceMethod yX1_init ∈ lw_all := lw_in 97 rfl rfl
set_option maxRecDepth 20000 in
theorem q98 : Cond.code yX1_init cX1_init 2 none ∈ lw_all := lw_in 98 rfl rfl
set_option maxRecDepth 20000 in
theorem q99 : Cond.methodLink RX1 3 Lib.objectInit ∈ lw_all := lw_in 99 rfl rfl
set_option maxRecDepth 20000 in
theorem q100 : Cond.fieldLink RX1 36 "RecipeForests$Forest" "commits" "I" ∈ lw_all := lw_in 100 rfl rfl
set_option maxRecDepth 20000 in
theorem q101 : Cond.fieldLink RX1 40 "RecipeForests$Forest" "branches" "I" ∈ lw_all := lw_in 101 rfl rfl
set_option maxRecDepth 20000 in
theorem q102 : Cond.fieldLink RX1 43 "RecipeForests$Forest" "purpose" "I" ∈ lw_all := lw_in 102 rfl rfl
set_option maxRecDepth 20000 in
theorem q103 : Cond.fieldLink RX1 9 "RecipeForests$Forest" "kinds" "[I" ∈ lw_all := lw_in 103 rfl rfl
set_option maxRecDepth 20000 in
theorem q104 : Cond.fieldLink RX1 15 "RecipeForests$Forest" "firsts" "[I" ∈ lw_all := lw_in 104 rfl rfl
set_option maxRecDepth 20000 in
theorem q105 : Cond.fieldLink RX1 18 "RecipeForests$Forest" "seconds" "[I" ∈ lw_all := lw_in 105 rfl rfl
set_option maxRecDepth 20000 in
theorem q106 : Cond.fieldLink RX1 21 "RecipeForests$Forest" "families" "[I" ∈ lw_all := lw_in 106 rfl rfl
set_option maxRecDepth 20000 in
theorem q107 : Cond.fieldLink RX1 24 "RecipeForests$Forest" "depths" "[I" ∈ lw_all := lw_in 107 rfl rfl
set_option maxRecDepth 20000 in
theorem q108 : Cond.fieldLink RX1 27 "RecipeForests$Forest" "amounts" "[I" ∈ lw_all := lw_in 108 rfl rfl
set_option maxRecDepth 20000 in
theorem q109 : Cond.fieldLink RX1 30 "RecipeForests$Forest" "tips" "[I" ∈ lw_all := lw_in 109 rfl rfl
set_option maxRecDepth 20000 in
theorem q110 : Cond.fieldLink RX1 33 "RecipeForests$Forest" "bundled" "[I" ∈ lw_all := lw_in 110 rfl rfl
set_option maxRecDepth 20000 in
theorem q134 : Cond.arrayClass .int ∈ lw_all := lw_in 134 rfl rfl
set_option maxRecDepth 20000 in
theorem q135 : Cond.classLink RX8 26 RX2 ∈ lw_all := lw_in 135 rfl rfl
set_option maxRecDepth 20000 in
theorem q136 : Cond.instantiable RX2 3 ∈ lw_all := lw_in 136 rfl rfl
set_option maxRecDepth 20000 in
theorem q137 : Cond.methodLink RX8 28 yX2_init ∈ lw_all := lw_in 137 rfl rfl
set_option maxRecDepth 20000 in
theorem q138 : Cond.instanceMethod yX2_init ∈ lw_all := lw_in 138 rfl rfl
set_option maxRecDepth 20000 in
theorem q139 : Cond.code yX2_init cX2_init 2 none ∈ lw_all := lw_in 139 rfl rfl
set_option maxRecDepth 20000 in
theorem q140 : Cond.methodLink RX2 3 Lib.objectInit ∈ lw_all := lw_in 140 rfl rfl
set_option maxRecDepth 20000 in
theorem q141 : Cond.classLink RX2 9 RX1 ∈ lw_all := lw_in 141 rfl rfl
set_option maxRecDepth 20000 in
theorem q143 : Cond.methodLink RX2 17 yX1_init ∈ lw_all := lw_in 143 rfl rfl
set_option maxRecDepth 20000 in
theorem q144 : Cond.fieldLink RX2 11 "RecipeForests$History" "states" "[LRecipeForests$Forest;" ∈ lw_all := lw_in 144 rfl rfl
set_option maxRecDepth 20000 in
theorem q145 : Cond.fieldLink RX2 18 "RecipeForests$History" "next" "I" ∈ lw_all := lw_in 145 rfl rfl
set_option maxRecDepth 20000 in
theorem q146 : Cond.fieldLink RX2 22 "RecipeForests$History" "count" "I" ∈ lw_all := lw_in 146 rfl rfl
set_option maxRecDepth 20000 in
theorem q154 : Cond.classLink RX8 33 RX0 ∈ lw_all := lw_in 154 rfl rfl
set_option maxRecDepth 20000 in
theorem q155 : Cond.instantiable RX0 4 ∈ lw_all := lw_in 155 rfl rfl
set_option maxRecDepth 20000 in
theorem q156 : Cond.methodLink RX8 35 yX0_init ∈ lw_all := lw_in 156 rfl rfl
set_option maxRecDepth 20000 in
theorem q157 : Cond.instanceMethod yX0_init ∈ lw_all := lw_in 157 rfl rfl
set_option maxRecDepth 20000 in
theorem q158 : Cond.code yX0_init cX0_init 2 none ∈ lw_all := lw_in 158 rfl rfl
set_option maxRecDepth 20000 in
theorem q159 : Cond.methodLink RX0 3 Lib.objectInit ∈ lw_all := lw_in 159 rfl rfl
set_option maxRecDepth 20000 in
theorem q160 : Cond.classLink RX0 15 RX5 ∈ lw_all := lw_in 160 rfl rfl
set_option maxRecDepth 20000 in
theorem q161 : Cond.instantiable RX5 3 ∈ lw_all := lw_in 161 rfl rfl
set_option maxRecDepth 20000 in
theorem q162 : Cond.methodLink RX0 17 yX5_init ∈ lw_all := lw_in 162 rfl rfl
set_option maxRecDepth 20000 in
theorem q163 : Cond.instanceMethod yX5_init ∈ lw_all := lw_in 163 rfl rfl
set_option maxRecDepth 20000 in
theorem q164 : Cond.code yX5_init cX5_init 1 none ∈ lw_all := lw_in 164 rfl rfl
set_option maxRecDepth 20000 in
theorem q165 : Cond.methodLink RX5 3 Lib.objectInit ∈ lw_all := lw_in 165 rfl rfl
set_option maxRecDepth 20000 in
theorem q166 : Cond.fieldLink RX5 9 "RecipeForests$Mix" "row" "[I" ∈ lw_all := lw_in 166 rfl rfl
set_option maxRecDepth 20000 in
theorem q167 : Cond.fieldLink RX5 15 "RecipeForests$Mix" "conflictCount" "I" ∈ lw_all := lw_in 167 rfl rfl
set_option maxRecDepth 20000 in
theorem q168 : Cond.fieldLink RX5 19 "RecipeForests$Mix" "lowest" "I" ∈ lw_all := lw_in 168 rfl rfl
set_option maxRecDepth 20000 in
theorem q176 : Cond.fieldLink RX0 9 "RecipeForests$Desk" "forest" "LRecipeForests$Forest;" ∈ lw_all := lw_in 176 rfl rfl
set_option maxRecDepth 20000 in
theorem q177 : Cond.fieldLink RX0 18 "RecipeForests$Desk" "mix" "LRecipeForests$Mix;" ∈ lw_all := lw_in 177 rfl rfl
set_option maxRecDepth 20000 in
theorem q178 : Cond.fieldLink RX0 22 "RecipeForests$Desk" "reason" "I" ∈ lw_all := lw_in 178 rfl rfl
set_option maxRecDepth 20000 in
theorem q179 : Cond.fieldLink RX0 26 "RecipeForests$Desk" "detail" "I" ∈ lw_all := lw_in 179 rfl rfl
set_option maxRecDepth 20000 in
theorem q189 : Cond.classLink RX8 42 RX7 ∈ lw_all := lw_in 189 rfl rfl
set_option maxRecDepth 20000 in
theorem q190 : Cond.instantiable RX7 3 ∈ lw_all := lw_in 190 rfl rfl
set_option maxRecDepth 20000 in
theorem q191 : Cond.methodLink RX8 44 yX7_init ∈ lw_all := lw_in 191 rfl rfl
set_option maxRecDepth 20000 in
theorem q192 : Cond.instanceMethod yX7_init ∈ lw_all := lw_in 192 rfl rfl
set_option maxRecDepth 20000 in
theorem q193 : Cond.code yX7_init cX7_init 1 none ∈ lw_all := lw_in 193 rfl rfl
set_option maxRecDepth 20000 in
theorem q194 : Cond.methodLink RX7 3 Lib.objectInit ∈ lw_all := lw_in 194 rfl rfl
set_option maxRecDepth 20000 in
theorem q195 : Cond.fieldLink RX7 9 "RecipeForests$Walk" "commits" "[I" ∈ lw_all := lw_in 195 rfl rfl
set_option maxRecDepth 20000 in
theorem q196 : Cond.fieldLink RX7 15 "RecipeForests$Walk" "length" "I" ∈ lw_all := lw_in 196 rfl rfl
set_option maxRecDepth 20000 in
theorem q197 : Cond.fieldLink RX7 19 "RecipeForests$Walk" "looks" "I" ∈ lw_all := lw_in 197 rfl rfl
set_option maxRecDepth 20000 in
theorem q205 : Cond.classLink RX8 49 RX3 ∈ lw_all := lw_in 205 rfl rfl
set_option maxRecDepth 20000 in
theorem q206 : Cond.instantiable RX3 2 ∈ lw_all := lw_in 206 rfl rfl
set_option maxRecDepth 20000 in
theorem q207 : Cond.methodLink RX8 51 yX3_init ∈ lw_all := lw_in 207 rfl rfl
set_option maxRecDepth 20000 in
theorem q208 : Cond.instanceMethod yX3_init ∈ lw_all := lw_in 208 rfl rfl
set_option maxRecDepth 20000 in
theorem q209 : Cond.code yX3_init cX3_init 1 none ∈ lw_all := lw_in 209 rfl rfl
set_option maxRecDepth 20000 in
theorem q210 : Cond.methodLink RX3 3 Lib.objectInit ∈ lw_all := lw_in 210 rfl rfl
set_option maxRecDepth 20000 in
theorem q211 : Cond.fieldLink RX3 9 "RecipeForests$Input" "signs" "[C" ∈ lw_all := lw_in 211 rfl rfl
set_option maxRecDepth 20000 in
theorem q212 : Cond.fieldLink RX3 15 "RecipeForests$Input" "length" "I" ∈ lw_all := lw_in 212 rfl rfl
set_option maxRecDepth 20000 in
theorem q218 : Cond.arrayClass .char ∈ lw_all := lw_in 218 rfl rfl
set_option maxRecDepth 20000 in
theorem q219 : Cond.classLink RX8 56 RX6 ∈ lw_all := lw_in 219 rfl rfl
set_option maxRecDepth 20000 in
theorem q220 : Cond.instantiable RX6 4 ∈ lw_all := lw_in 220 rfl rfl
set_option maxRecDepth 20000 in
theorem q221 : Cond.methodLink RX8 58 yX6_init ∈ lw_all := lw_in 221 rfl rfl
set_option maxRecDepth 20000 in
theorem q222 : Cond.instanceMethod yX6_init ∈ lw_all := lw_in 222 rfl rfl
set_option maxRecDepth 20000 in
theorem q223 : Cond.code yX6_init cX6_init 1 none ∈ lw_all := lw_in 223 rfl rfl
set_option maxRecDepth 20000 in
theorem q224 : Cond.methodLink RX6 3 Lib.objectInit ∈ lw_all := lw_in 224 rfl rfl
set_option maxRecDepth 20000 in
theorem q225 : Cond.fieldLink RX6 9 "RecipeForests$Orders" "rows" "[I" ∈ lw_all := lw_in 225 rfl rfl
set_option maxRecDepth 20000 in
theorem q226 : Cond.fieldLink RX6 15 "RecipeForests$Orders" "count" "I" ∈ lw_all := lw_in 226 rfl rfl
set_option maxRecDepth 20000 in
theorem q227 : Cond.fieldLink RX6 19 "RecipeForests$Orders" "position" "I" ∈ lw_all := lw_in 227 rfl rfl
set_option maxRecDepth 20000 in
theorem q228 : Cond.fieldLink RX6 22 "RecipeForests$Orders" "column" "I" ∈ lw_all := lw_in 228 rfl rfl
set_option maxRecDepth 20000 in
theorem q238 : Cond.classLink RX8 63 RX4 ∈ lw_all := lw_in 238 rfl rfl
set_option maxRecDepth 20000 in
theorem q239 : Cond.instantiable RX4 2 ∈ lw_all := lw_in 239 rfl rfl
set_option maxRecDepth 20000 in
theorem q240 : Cond.methodLink RX8 65 yX4_init ∈ lw_all := lw_in 240 rfl rfl
set_option maxRecDepth 20000 in
theorem q241 : Cond.instanceMethod yX4_init ∈ lw_all := lw_in 241 rfl rfl
set_option maxRecDepth 20000 in
theorem q242 : Cond.code yX4_init cX4_init 1 none ∈ lw_all := lw_in 242 rfl rfl
set_option maxRecDepth 20000 in
theorem q243 : Cond.methodLink RX4 3 Lib.objectInit ∈ lw_all := lw_in 243 rfl rfl
set_option maxRecDepth 20000 in
theorem q244 : Cond.fieldLink RX4 9 "RecipeForests$Line" "signs" "[C" ∈ lw_all := lw_in 244 rfl rfl
set_option maxRecDepth 20000 in
theorem q245 : Cond.fieldLink RX4 15 "RecipeForests$Line" "length" "I" ∈ lw_all := lw_in 245 rfl rfl
set_option maxRecDepth 20000 in
theorem q251 : Cond.fieldLink RX8 10 "RecipeForests" "forest" "LRecipeForests$Forest;" ∈ lw_all := lw_in 251 rfl rfl
set_option maxRecDepth 20000 in
theorem q252 : Cond.fieldLink RX8 16 "RecipeForests" "before" "LRecipeForests$Forest;" ∈ lw_all := lw_in 252 rfl rfl
set_option maxRecDepth 20000 in
theorem q253 : Cond.fieldLink RX8 19 "RecipeForests" "saved" "LRecipeForests$Forest;" ∈ lw_all := lw_in 253 rfl rfl
set_option maxRecDepth 20000 in
theorem q254 : Cond.fieldLink RX8 22 "RecipeForests" "isSaved" "Z" ∈ lw_all := lw_in 254 rfl rfl
set_option maxRecDepth 20000 in
theorem q255 : Cond.fieldLink RX8 29 "RecipeForests" "history" "LRecipeForests$History;" ∈ lw_all := lw_in 255 rfl rfl
set_option maxRecDepth 20000 in
theorem q256 : Cond.fieldLink RX8 38 "RecipeForests" "desk" "LRecipeForests$Desk;" ∈ lw_all := lw_in 256 rfl rfl
set_option maxRecDepth 20000 in
theorem q257 : Cond.fieldLink RX8 45 "RecipeForests" "walk" "LRecipeForests$Walk;" ∈ lw_all := lw_in 257 rfl rfl
set_option maxRecDepth 20000 in
theorem q258 : Cond.fieldLink RX8 52 "RecipeForests" "input" "LRecipeForests$Input;" ∈ lw_all := lw_in 258 rfl rfl
set_option maxRecDepth 20000 in
theorem q259 : Cond.fieldLink RX8 59 "RecipeForests" "orders" "LRecipeForests$Orders;" ∈ lw_all := lw_in 259 rfl rfl
set_option maxRecDepth 20000 in
theorem q260 : Cond.fieldLink RX8 66 "RecipeForests" "written" "LRecipeForests$Line;" ∈ lw_all := lw_in 260 rfl rfl
set_option maxRecDepth 20000 in
theorem q261 : Cond.fieldLink RX8 70 "RecipeForests" "wrongPosition" "I" ∈ lw_all := lw_in 261 rfl rfl
set_option maxRecDepth 20000 in
theorem q285 : Cond.methodLink RL 231 yX8_errorPosition ∈ lw_all := lw_in 285 rfl rfl
set_option maxRecDepth 20000 in
theorem q286 : Cond.instanceMethod yX8_errorPosition ∈ lw_all := lw_in 286 rfl rfl
set_option maxRecDepth 20000 in
theorem q287 : Cond.selects RX8 yX8_errorPosition yX8_errorPosition ∈ lw_all := lw_in 287 rfl rfl
set_option maxRecDepth 20000 in
theorem q288 : Cond.code yX8_errorPosition cX8_errorPosition 1 (some .int) ∈ lw_all := lw_in 288 rfl rfl
set_option maxRecDepth 20000 in
theorem q289 : Cond.methodLink RL 242 yX8_isWell ∈ lw_all := lw_in 289 rfl rfl
set_option maxRecDepth 20000 in
theorem q290 : Cond.instanceMethod yX8_isWell ∈ lw_all := lw_in 290 rfl rfl
set_option maxRecDepth 20000 in
theorem q291 : Cond.selects RX8 yX8_isWell yX8_isWell ∈ lw_all := lw_in 291 rfl rfl
set_option maxRecDepth 20000 in
theorem q292 : Cond.code yX8_isWell cX8_isWell 2 (some .boolean) ∈ lw_all := lw_in 292 rfl rfl
set_option maxRecDepth 20000 in
theorem q293 : Cond.methodLink RX8 278 yX1_commitCount ∈ lw_all := lw_in 293 rfl rfl
set_option maxRecDepth 20000 in
theorem q294 : Cond.instanceMethod yX1_commitCount ∈ lw_all := lw_in 294 rfl rfl
set_option maxRecDepth 20000 in
theorem q295 : Cond.selects RX1 yX1_commitCount yX1_commitCount ∈ lw_all := lw_in 295 rfl rfl
set_option maxRecDepth 20000 in
theorem q296 : Cond.code yX1_commitCount cX1_commitCount 1 (some .int) ∈ lw_all := lw_in 296 rfl rfl
set_option maxRecDepth 20000 in
theorem q297 : Cond.methodLink RX8 305 yX1_isBornWell ∈ lw_all := lw_in 297 rfl rfl
set_option maxRecDepth 20000 in
theorem q298 : Cond.instanceMethod yX1_isBornWell ∈ lw_all := lw_in 298 rfl rfl
set_option maxRecDepth 20000 in
theorem q299 : Cond.selects RX1 yX1_isBornWell yX1_isBornWell ∈ lw_all := lw_in 299 rfl rfl
set_option maxRecDepth 20000 in
theorem q300 : Cond.code yX1_isBornWell cX1_isBornWell 3 (some .boolean) ∈ lw_all := lw_in 300 rfl rfl
set_option maxRecDepth 20000 in
theorem q301 : Cond.methodLink RX1 52 yX1_firstOf ∈ lw_all := lw_in 301 rfl rfl
set_option maxRecDepth 20000 in
theorem q302 : Cond.instanceMethod yX1_firstOf ∈ lw_all := lw_in 302 rfl rfl
set_option maxRecDepth 20000 in
theorem q303 : Cond.selects RX1 yX1_firstOf yX1_firstOf ∈ lw_all := lw_in 303 rfl rfl
set_option maxRecDepth 20000 in
theorem q304 : Cond.code yX1_firstOf cX1_firstOf 2 (some .int) ∈ lw_all := lw_in 304 rfl rfl
set_option maxRecDepth 20000 in
theorem q305 : Cond.methodLink RX1 85 yX1_secondOf ∈ lw_all := lw_in 305 rfl rfl
set_option maxRecDepth 20000 in
theorem q306 : Cond.instanceMethod yX1_secondOf ∈ lw_all := lw_in 306 rfl rfl
set_option maxRecDepth 20000 in
theorem q307 : Cond.selects RX1 yX1_secondOf yX1_secondOf ∈ lw_all := lw_in 307 rfl rfl
set_option maxRecDepth 20000 in
theorem q308 : Cond.code yX1_secondOf cX1_secondOf 2 (some .int) ∈ lw_all := lw_in 308 rfl rfl
set_option maxRecDepth 20000 in
theorem q309 : Cond.methodLink RX1 88 yX1_kindOf ∈ lw_all := lw_in 309 rfl rfl
set_option maxRecDepth 20000 in
theorem q310 : Cond.instanceMethod yX1_kindOf ∈ lw_all := lw_in 310 rfl rfl
set_option maxRecDepth 20000 in
theorem q311 : Cond.selects RX1 yX1_kindOf yX1_kindOf ∈ lw_all := lw_in 311 rfl rfl
set_option maxRecDepth 20000 in
theorem q312 : Cond.code yX1_kindOf cX1_kindOf 2 (some .int) ∈ lw_all := lw_in 312 rfl rfl
set_option maxRecDepth 20000 in
theorem q313 : Cond.methodLink RX1 91 yX1_changedIn ∈ lw_all := lw_in 313 rfl rfl
set_option maxRecDepth 20000 in
theorem q314 : Cond.instanceMethod yX1_changedIn ∈ lw_all := lw_in 314 rfl rfl
set_option maxRecDepth 20000 in
theorem q315 : Cond.selects RX1 yX1_changedIn yX1_changedIn ∈ lw_all := lw_in 315 rfl rfl
set_option maxRecDepth 20000 in
theorem q316 : Cond.code yX1_changedIn cX1_changedIn 5 (some .int) ∈ lw_all := lw_in 316 rfl rfl
set_option maxRecDepth 20000 in
theorem q317 : Cond.methodLink RX1 56 yX1_amountIn ∈ lw_all := lw_in 317 rfl rfl
set_option maxRecDepth 20000 in
theorem q318 : Cond.instanceMethod yX1_amountIn ∈ lw_all := lw_in 318 rfl rfl
set_option maxRecDepth 20000 in
theorem q319 : Cond.selects RX1 yX1_amountIn yX1_amountIn ∈ lw_all := lw_in 319 rfl rfl
set_option maxRecDepth 20000 in
theorem q320 : Cond.code yX1_amountIn cX1_amountIn 3 (some .int) ∈ lw_all := lw_in 320 rfl rfl
set_option maxRecDepth 20000 in
theorem q321 : Cond.methodLink RX8 308 yX1_areBasesSame ∈ lw_all := lw_in 321 rfl rfl
set_option maxRecDepth 20000 in
theorem q322 : Cond.instanceMethod yX1_areBasesSame ∈ lw_all := lw_in 322 rfl rfl
set_option maxRecDepth 20000 in
theorem q323 : Cond.selects RX1 yX1_areBasesSame yX1_areBasesSame ∈ lw_all := lw_in 323 rfl rfl
set_option maxRecDepth 20000 in
theorem q324 : Cond.code yX1_areBasesSame cX1_areBasesSame 4 (some .boolean) ∈ lw_all := lw_in 324 rfl rfl
set_option maxRecDepth 20000 in
theorem q325 : Cond.methodLink RX1 94 yX1_commonGround ∈ lw_all := lw_in 325 rfl rfl
set_option maxRecDepth 20000 in
theorem q326 : Cond.instanceMethod yX1_commonGround ∈ lw_all := lw_in 326 rfl rfl
set_option maxRecDepth 20000 in
theorem q327 : Cond.selects RX1 yX1_commonGround yX1_commonGround ∈ lw_all := lw_in 327 rfl rfl
set_option maxRecDepth 20000 in
theorem q328 : Cond.code yX1_commonGround cX1_commonGround 5 (some .int) ∈ lw_all := lw_in 328 rfl rfl
set_option maxRecDepth 20000 in
theorem q329 : Cond.methodLink RX1 67 yX1_familyOf ∈ lw_all := lw_in 329 rfl rfl
set_option maxRecDepth 20000 in
theorem q330 : Cond.instanceMethod yX1_familyOf ∈ lw_all := lw_in 330 rfl rfl
set_option maxRecDepth 20000 in
theorem q331 : Cond.selects RX1 yX1_familyOf yX1_familyOf ∈ lw_all := lw_in 331 rfl rfl
set_option maxRecDepth 20000 in
theorem q332 : Cond.code yX1_familyOf cX1_familyOf 2 (some .int) ∈ lw_all := lw_in 332 rfl rfl
set_option maxRecDepth 20000 in
theorem q333 : Cond.methodLink RX1 82 Lib.Math.min.name ∈ lw_all := lw_in 333 rfl rfl
set_option maxRecDepth 20000 in
theorem q334 : Cond.static Lib.Math.min.name ∈ lw_all := lw_in 334 rfl rfl
set_option maxRecDepth 20000 in
theorem q335 : Cond.code Lib.Math.min.name Lib.Math.min.code 2 (some .int) ∈ lw_all := lw_in 335 rfl rfl
set_option maxRecDepth 20000 in
theorem q337 : Cond.static yX8_isInSet ∈ lw_all := lw_in 337 rfl rfl
set_option maxRecDepth 20000 in
theorem q338 : Cond.code yX8_isInSet cX8_isInSet 2 (some .boolean) ∈ lw_all := lw_in 338 rfl rfl
set_option maxRecDepth 20000 in
theorem q339 : Cond.methodLink RX1 97 yX1_meetingPoint ∈ lw_all := lw_in 339 rfl rfl
set_option maxRecDepth 20000 in
theorem q340 : Cond.instanceMethod yX1_meetingPoint ∈ lw_all := lw_in 340 rfl rfl
set_option maxRecDepth 20000 in
theorem q341 : Cond.selects RX1 yX1_meetingPoint yX1_meetingPoint ∈ lw_all := lw_in 341 rfl rfl
set_option maxRecDepth 20000 in
theorem q342 : Cond.code yX1_meetingPoint cX1_meetingPoint 9 (some .int) ∈ lw_all := lw_in 342 rfl rfl
set_option maxRecDepth 20000 in
theorem q344 : Cond.static yX8_setOf ∈ lw_all := lw_in 344 rfl rfl
set_option maxRecDepth 20000 in
theorem q345 : Cond.code yX8_setOf cX8_setOf 1 (some .int) ∈ lw_all := lw_in 345 rfl rfl
set_option maxRecDepth 20000 in
theorem q346 : Cond.methodLink RX1 73 Lib.Math.max.name ∈ lw_all := lw_in 346 rfl rfl
set_option maxRecDepth 20000 in
theorem q347 : Cond.static Lib.Math.max.name ∈ lw_all := lw_in 347 rfl rfl
set_option maxRecDepth 20000 in
theorem q348 : Cond.code Lib.Math.max.name Lib.Math.max.code 2 (some .int) ∈ lw_all := lw_in 348 rfl rfl
set_option maxRecDepth 20000 in
theorem q349 : Cond.methodLink RL 247 yX8_meanTaste ∈ lw_all := lw_in 349 rfl rfl
set_option maxRecDepth 20000 in
theorem q350 : Cond.instanceMethod yX8_meanTaste ∈ lw_all := lw_in 350 rfl rfl
set_option maxRecDepth 20000 in
theorem q351 : Cond.selects RX8 yX8_meanTaste yX8_meanTaste ∈ lw_all := lw_in 351 rfl rfl
set_option maxRecDepth 20000 in
theorem q352 : Cond.code yX8_meanTaste cX8_meanTaste 5 (some .double) ∈ lw_all := lw_in 352 rfl rfl
set_option maxRecDepth 20000 in
theorem q353 : Cond.methodLink RX8 281 yX1_branchCount ∈ lw_all := lw_in 353 rfl rfl
set_option maxRecDepth 20000 in
theorem q354 : Cond.instanceMethod yX1_branchCount ∈ lw_all := lw_in 354 rfl rfl
set_option maxRecDepth 20000 in
theorem q355 : Cond.selects RX1 yX1_branchCount yX1_branchCount ∈ lw_all := lw_in 355 rfl rfl
set_option maxRecDepth 20000 in
theorem q356 : Cond.code yX1_branchCount cX1_branchCount 1 (some .int) ∈ lw_all := lw_in 356 rfl rfl
set_option maxRecDepth 20000 in
theorem q357 : Cond.methodLink RX8 96 yX1_tipOf ∈ lw_all := lw_in 357 rfl rfl
set_option maxRecDepth 20000 in
theorem q358 : Cond.instanceMethod yX1_tipOf ∈ lw_all := lw_in 358 rfl rfl
set_option maxRecDepth 20000 in
theorem q359 : Cond.selects RX1 yX1_tipOf yX1_tipOf ∈ lw_all := lw_in 359 rfl rfl
set_option maxRecDepth 20000 in
theorem q360 : Cond.code yX1_tipOf cX1_tipOf 2 (some .int) ∈ lw_all := lw_in 360 rfl rfl
set_option maxRecDepth 20000 in
theorem q361 : Cond.methodLink RX8 199 yX1_tasteOf ∈ lw_all := lw_in 361 rfl rfl
set_option maxRecDepth 20000 in
theorem q362 : Cond.instanceMethod yX1_tasteOf ∈ lw_all := lw_in 362 rfl rfl
set_option maxRecDepth 20000 in
theorem q363 : Cond.selects RX1 yX1_tasteOf yX1_tasteOf ∈ lw_all := lw_in 363 rfl rfl
set_option maxRecDepth 20000 in
theorem q364 : Cond.code yX1_tasteOf cX1_tasteOf 6 (some .float) ∈ lw_all := lw_in 364 rfl rfl
set_option maxRecDepth 20000 in
theorem q365 : Cond.constantFloat RX1 100 1090519040 ∈ lw_all := lw_in 365 rfl rfl
set_option maxRecDepth 20000 in
theorem q366 : Cond.methodLink RL 252 yX8_editShare ∈ lw_all := lw_in 366 rfl rfl
set_option maxRecDepth 20000 in
theorem q367 : Cond.instanceMethod yX8_editShare ∈ lw_all := lw_in 367 rfl rfl
set_option maxRecDepth 20000 in
theorem q368 : Cond.selects RX8 yX8_editShare yX8_editShare ∈ lw_all := lw_in 368 rfl rfl
set_option maxRecDepth 20000 in
theorem q369 : Cond.code yX8_editShare cX8_editShare 2 (some .float) ∈ lw_all := lw_in 369 rfl rfl
set_option maxRecDepth 20000 in
theorem q370 : Cond.methodLink RX8 284 yX1_countKind ∈ lw_all := lw_in 370 rfl rfl
set_option maxRecDepth 20000 in
theorem q371 : Cond.instanceMethod yX1_countKind ∈ lw_all := lw_in 371 rfl rfl
set_option maxRecDepth 20000 in
theorem q372 : Cond.selects RX1 yX1_countKind yX1_countKind ∈ lw_all := lw_in 372 rfl rfl
set_option maxRecDepth 20000 in
theorem q373 : Cond.code yX1_countKind cX1_countKind 4 (some .int) ∈ lw_all := lw_in 373 rfl rfl
set_option maxRecDepth 20000 in
theorem q374 : Cond.methodLink RL 260 yX8_save ∈ lw_all := lw_in 374 rfl rfl
set_option maxRecDepth 20000 in
theorem q375 : Cond.instanceMethod yX8_save ∈ lw_all := lw_in 375 rfl rfl
set_option maxRecDepth 20000 in
theorem q376 : Cond.selects RX8 yX8_save yX8_save ∈ lw_all := lw_in 376 rfl rfl
set_option maxRecDepth 20000 in
theorem q377 : Cond.code yX8_save cX8_save 1 (some .int) ∈ lw_all := lw_in 377 rfl rfl
set_option maxRecDepth 20000 in
theorem q378 : Cond.methodLink RX8 74 yX1_become ∈ lw_all := lw_in 378 rfl rfl
set_option maxRecDepth 20000 in
theorem q379 : Cond.instanceMethod yX1_become ∈ lw_all := lw_in 379 rfl rfl
set_option maxRecDepth 20000 in
theorem q380 : Cond.selects RX1 yX1_become yX1_become ∈ lw_all := lw_in 380 rfl rfl
set_option maxRecDepth 20000 in
theorem q381 : Cond.code yX1_become cX1_become 2 none ∈ lw_all := lw_in 381 rfl rfl
set_option maxRecDepth 20000 in
theorem q382 : Cond.methodLink RX1 46 arraycopyName ∈ lw_all := lw_in 382 rfl rfl
set_option maxRecDepth 20000 in
theorem q383 : Cond.static arraycopyName ∈ lw_all := lw_in 383 rfl rfl
set_option maxRecDepth 20000 in
theorem q384 : Cond.native arraycopyName ∈ lw_all := lw_in 384 rfl rfl
set_option maxRecDepth 20000 in
theorem q385 : Cond.methodLink RL 132 yL_edit ∈ lw_all := lw_in 385 rfl rfl
set_option maxRecDepth 20000 in
theorem q386 : Cond.static yL_edit ∈ lw_all := lw_in 386 rfl rfl
set_option maxRecDepth 20000 in
theorem q388 : Cond.classLink RL 13 "java/lang/IndexOutOfBoundsException" ∈ lw_all := lw_in 388 rfl rfl
set_option maxRecDepth 20000 in
theorem q389 : Cond.classLink RL 15 "java/lang/IllegalArgumentException" ∈ lw_all := lw_in 389 rfl rfl
set_option maxRecDepth 20000 in
theorem q390 : Cond.classLink RL 17 "java/lang/UnsupportedOperationException" ∈ lw_all := lw_in 390 rfl rfl
set_option maxRecDepth 20000 in
theorem q391 : Cond.methodLink RL 7 yX8_edit ∈ lw_all := lw_in 391 rfl rfl
set_option maxRecDepth 20000 in
theorem q392 : Cond.instanceMethod yX8_edit ∈ lw_all := lw_in 392 rfl rfl
set_option maxRecDepth 20000 in
theorem q393 : Cond.selects RX8 yX8_edit yX8_edit ∈ lw_all := lw_in 393 rfl rfl
set_option maxRecDepth 20000 in
theorem q394 : Cond.code yX8_edit cX8_edit 4 (some .int) ∈ lw_all := lw_in 394 rfl rfl
set_option maxRecDepth 20000 in
theorem q395 : Cond.methodLink RX8 77 yX0_tryEdit ∈ lw_all := lw_in 395 rfl rfl
set_option maxRecDepth 20000 in
theorem q396 : Cond.instanceMethod yX0_tryEdit ∈ lw_all := lw_in 396 rfl rfl
set_option maxRecDepth 20000 in
theorem q397 : Cond.selects RX0 yX0_tryEdit yX0_tryEdit ∈ lw_all := lw_in 397 rfl rfl
set_option maxRecDepth 20000 in
theorem q398 : Cond.code yX0_tryEdit cX0_tryEdit 5 (some .int) ∈ lw_all := lw_in 398 rfl rfl
set_option maxRecDepth 20000 in
theorem q399 : Cond.methodLink RX0 29 yX1_isBranch ∈ lw_all := lw_in 399 rfl rfl
set_option maxRecDepth 20000 in
theorem q400 : Cond.instanceMethod yX1_isBranch ∈ lw_all := lw_in 400 rfl rfl
set_option maxRecDepth 20000 in
theorem q401 : Cond.selects RX1 yX1_isBranch yX1_isBranch ∈ lw_all := lw_in 401 rfl rfl
set_option maxRecDepth 20000 in
theorem q402 : Cond.code yX1_isBranch cX1_isBranch 2 (some .boolean) ∈ lw_all := lw_in 402 rfl rfl
set_option maxRecDepth 20000 in
theorem q404 : Cond.static yX8_isIngredient ∈ lw_all := lw_in 404 rfl rfl
set_option maxRecDepth 20000 in
theorem q405 : Cond.code yX8_isIngredient cX8_isIngredient 1 (some .boolean) ∈ lw_all := lw_in 405 rfl rfl
set_option maxRecDepth 20000 in
theorem q407 : Cond.static yX8_isAmount ∈ lw_all := lw_in 407 rfl rfl
set_option maxRecDepth 20000 in
theorem q408 : Cond.code yX8_isAmount cX8_isAmount 1 (some .boolean) ∈ lw_all := lw_in 408 rfl rfl
set_option maxRecDepth 20000 in
theorem q409 : Cond.methodLink RX0 41 yX1_tipOf ∈ lw_all := lw_in 409 rfl rfl
set_option maxRecDepth 20000 in
theorem q410 : Cond.methodLink RX0 45 yX1_amountIn ∈ lw_all := lw_in 410 rfl rfl
set_option maxRecDepth 20000 in
theorem q411 : Cond.methodLink RX0 49 yX0_refuse ∈ lw_all := lw_in 411 rfl rfl
set_option maxRecDepth 20000 in
theorem q413 : Cond.instanceMethod yX0_refuse ∈ lw_all := lw_in 413 rfl rfl
set_option maxRecDepth 20000 in
theorem q414 : Cond.code yX0_refuse cX0_refuse 3 (some .int) ∈ lw_all := lw_in 414 rfl rfl
set_option maxRecDepth 20000 in
theorem q415 : Cond.methodLink RX0 52 yX1_isFull ∈ lw_all := lw_in 415 rfl rfl
set_option maxRecDepth 20000 in
theorem q416 : Cond.instanceMethod yX1_isFull ∈ lw_all := lw_in 416 rfl rfl
set_option maxRecDepth 20000 in
theorem q417 : Cond.selects RX1 yX1_isFull yX1_isFull ∈ lw_all := lw_in 417 rfl rfl
set_option maxRecDepth 20000 in
theorem q418 : Cond.code yX1_isFull cX1_isFull 1 (some .boolean) ∈ lw_all := lw_in 418 rfl rfl
set_option maxRecDepth 20000 in
theorem q419 : Cond.methodLink RX0 56 yX5_change ∈ lw_all := lw_in 419 rfl rfl
set_option maxRecDepth 20000 in
theorem q420 : Cond.instanceMethod yX5_change ∈ lw_all := lw_in 420 rfl rfl
set_option maxRecDepth 20000 in
theorem q421 : Cond.selects RX5 yX5_change yX5_change ∈ lw_all := lw_in 421 rfl rfl
set_option maxRecDepth 20000 in
theorem q422 : Cond.code yX5_change cX5_change 6 none ∈ lw_all := lw_in 422 rfl rfl
set_option maxRecDepth 20000 in
theorem q423 : Cond.methodLink RX5 22 yX1_amountIn ∈ lw_all := lw_in 423 rfl rfl
set_option maxRecDepth 20000 in
theorem q424 : Cond.methodLink RX0 60 yX5_amounts ∈ lw_all := lw_in 424 rfl rfl
set_option maxRecDepth 20000 in
theorem q425 : Cond.instanceMethod yX5_amounts ∈ lw_all := lw_in 425 rfl rfl
set_option maxRecDepth 20000 in
theorem q426 : Cond.selects RX5 yX5_amounts yX5_amounts ∈ lw_all := lw_in 426 rfl rfl
set_option maxRecDepth 20000 in
theorem q427 : Cond.code yX5_amounts cX5_amounts 1 (some (.array .int)) ∈ lw_all := lw_in 427 rfl rfl
set_option maxRecDepth 20000 in
theorem q428 : Cond.methodLink RX0 64 yX1_addCommit ∈ lw_all := lw_in 428 rfl rfl
set_option maxRecDepth 20000 in
theorem q429 : Cond.instanceMethod yX1_addCommit ∈ lw_all := lw_in 429 rfl rfl
set_option maxRecDepth 20000 in
theorem q430 : Cond.selects RX1 yX1_addCommit yX1_addCommit ∈ lw_all := lw_in 430 rfl rfl
set_option maxRecDepth 20000 in
theorem q431 : Cond.code yX1_addCommit cX1_addCommit 8 (some .int) ∈ lw_all := lw_in 431 rfl rfl
set_option maxRecDepth 20000 in
theorem q432 : Cond.methodLink RX1 60 yX1_isBranch ∈ lw_all := lw_in 432 rfl rfl
set_option maxRecDepth 20000 in
theorem q433 : Cond.methodLink RX1 70 yX1_depthOf ∈ lw_all := lw_in 433 rfl rfl
set_option maxRecDepth 20000 in
theorem q434 : Cond.instanceMethod yX1_depthOf ∈ lw_all := lw_in 434 rfl rfl
set_option maxRecDepth 20000 in
theorem q435 : Cond.selects RX1 yX1_depthOf yX1_depthOf ∈ lw_all := lw_in 435 rfl rfl
set_option maxRecDepth 20000 in
theorem q436 : Cond.code yX1_depthOf cX1_depthOf 2 (some .int) ∈ lw_all := lw_in 436 rfl rfl
set_option maxRecDepth 20000 in
theorem q437 : Cond.methodLink RX8 81 yX8_finished ∈ lw_all := lw_in 437 rfl rfl
set_option maxRecDepth 20000 in
theorem q439 : Cond.instanceMethod yX8_finished ∈ lw_all := lw_in 439 rfl rfl
set_option maxRecDepth 20000 in
theorem q440 : Cond.code yX8_finished cX8_finished 2 (some .int) ∈ lw_all := lw_in 440 rfl rfl
set_option maxRecDepth 20000 in
theorem q441 : Cond.methodLink RX8 321 yX2_keep ∈ lw_all := lw_in 441 rfl rfl
set_option maxRecDepth 20000 in
theorem q442 : Cond.instanceMethod yX2_keep ∈ lw_all := lw_in 442 rfl rfl
set_option maxRecDepth 20000 in
theorem q443 : Cond.selects RX2 yX2_keep yX2_keep ∈ lw_all := lw_in 443 rfl rfl
set_option maxRecDepth 20000 in
theorem q444 : Cond.code yX2_keep cX2_keep 3 none ∈ lw_all := lw_in 444 rfl rfl
set_option maxRecDepth 20000 in
theorem q445 : Cond.methodLink RX2 25 yX2_rowAt ∈ lw_all := lw_in 445 rfl rfl
set_option maxRecDepth 20000 in
theorem q447 : Cond.instanceMethod yX2_rowAt ∈ lw_all := lw_in 447 rfl rfl
set_option maxRecDepth 20000 in
theorem q448 : Cond.code yX2_rowAt cX2_rowAt 2 (some (.object "RecipeForests$Forest")) ∈ lw_all := lw_in 448 rfl rfl
set_option maxRecDepth 20000 in
theorem q449 : Cond.methodLink RX2 29 yX1_become ∈ lw_all := lw_in 449 rfl rfl
set_option maxRecDepth 20000 in
theorem q450 : Cond.methodLink RX2 33 Lib.Math.min.name ∈ lw_all := lw_in 450 rfl rfl
set_option maxRecDepth 20000 in
theorem q451 : Cond.classLink RX8 221 "java/lang/IndexOutOfBoundsException" ∈ lw_all := lw_in 451 rfl rfl
set_option maxRecDepth 20000 in
theorem q452 : Cond.instantiable "java/lang/IndexOutOfBoundsException" 6 ∈ lw_all := lw_in 452 rfl rfl
set_option maxRecDepth 20000 in
theorem q472 : Cond.fieldLink "java/lang/Throwable" 198 "java/lang/Throwable" "backtrace" "Ljava/lang/Object;" ∈ lw_all := lw_in 472 rfl rfl
set_option maxRecDepth 20000 in
theorem q474 : Cond.instanceMethod ⟨"java/lang/Throwable", "<init>", "()V"⟩ ∈ lw_all := lw_in 474 rfl rfl
set_option maxRecDepth 20000 in
theorem q476 : Cond.methodLink "java/lang/Throwable" 1 Lib.objectInit ∈ lw_all := lw_in 476 rfl rfl
set_option maxRecDepth 20000 in
theorem q477 : Cond.fieldLink "java/lang/Throwable" 13 "java/lang/Throwable" "UNASSIGNED_STACK" "[Ljava/lang/StackTraceElement;" ∈ lw_all := lw_in 477 rfl rfl
set_option maxRecDepth 20000 in
theorem q479 : Cond.fieldLink "java/lang/Throwable" 20 "java/lang/Throwable" "SUPPRESSED_SENTINEL" "Ljava/util/List;" ∈ lw_all := lw_in 479 rfl rfl
set_option maxRecDepth 20000 in
theorem q481 : Cond.methodLink "java/lang/Throwable" 27 ⟨"java/lang/Throwable", "fillInStackTrace", "()Ljava/lang/Throwable;"⟩ ∈ lw_all := lw_in 481 rfl rfl
set_option maxRecDepth 20000 in
theorem q482 : Cond.instanceMethod ⟨"java/lang/Throwable", "fillInStackTrace", "()Ljava/lang/Throwable;"⟩ ∈ lw_all := lw_in 482 rfl rfl
set_option maxRecDepth 20000 in
theorem q489 : Cond.methodLink "java/lang/Throwable" 202 ⟨"java/lang/Throwable", "fillInStackTrace", "(I)Ljava/lang/Throwable;"⟩ ∈ lw_all := lw_in 489 rfl rfl
set_option maxRecDepth 20000 in
theorem q491 : Cond.instanceMethod ⟨"java/lang/Throwable", "fillInStackTrace", "(I)Ljava/lang/Throwable;"⟩ ∈ lw_all := lw_in 491 rfl rfl
set_option maxRecDepth 20000 in
theorem q492 : Cond.instantiable "java/lang/Throwable" 6 ∈ lw_all := lw_in 492 rfl rfl
set_option maxRecDepth 20000 in
theorem q493 : Cond.native ⟨"java/lang/Throwable", "fillInStackTrace", "(I)Ljava/lang/Throwable;"⟩ ∈ lw_all := lw_in 493 rfl rfl
set_option maxRecDepth 20000 in
theorem q495 : Cond.methodLink RX8 223 ⟨"java/lang/IndexOutOfBoundsException", "<init>", "(Ljava/lang/String;)V"⟩ ∈ lw_all := lw_in 495 rfl rfl
set_option maxRecDepth 20000 in
theorem q496 : Cond.instanceMethod ⟨"java/lang/IndexOutOfBoundsException", "<init>", "(Ljava/lang/String;)V"⟩ ∈ lw_all := lw_in 496 rfl rfl
set_option maxRecDepth 20000 in
theorem q498 : Cond.methodLink "java/lang/IndexOutOfBoundsException" 7 ⟨"java/lang/RuntimeException", "<init>", "(Ljava/lang/String;)V"⟩ ∈ lw_all := lw_in 498 rfl rfl
set_option maxRecDepth 20000 in
theorem q499 : Cond.instanceMethod ⟨"java/lang/RuntimeException", "<init>", "(Ljava/lang/String;)V"⟩ ∈ lw_all := lw_in 499 rfl rfl
set_option maxRecDepth 20000 in
theorem q501 : Cond.methodLink "java/lang/RuntimeException" 7 ⟨"java/lang/Exception", "<init>", "(Ljava/lang/String;)V"⟩ ∈ lw_all := lw_in 501 rfl rfl
set_option maxRecDepth 20000 in
theorem q502 : Cond.instanceMethod ⟨"java/lang/Exception", "<init>", "(Ljava/lang/String;)V"⟩ ∈ lw_all := lw_in 502 rfl rfl
set_option maxRecDepth 20000 in
theorem q504 : Cond.methodLink "java/lang/Exception" 7 ⟨"java/lang/Throwable", "<init>", "(Ljava/lang/String;)V"⟩ ∈ lw_all := lw_in 504 rfl rfl
set_option maxRecDepth 20000 in
theorem q505 : Cond.instanceMethod ⟨"java/lang/Throwable", "<init>", "(Ljava/lang/String;)V"⟩ ∈ lw_all := lw_in 505 rfl rfl
set_option maxRecDepth 20000 in
theorem q508 : Cond.fieldLink "java/lang/Throwable" 31 "java/lang/Throwable" "detailMessage" "Ljava/lang/String;" ∈ lw_all := lw_in 508 rfl rfl
set_option maxRecDepth 20000 in
theorem q509 : Cond.fieldLink "java/lang/Throwable" 7 "java/lang/Throwable" "cause" "Ljava/lang/Throwable;" ∈ lw_all := lw_in 509 rfl rfl
set_option maxRecDepth 20000 in
theorem q510 : Cond.fieldLink "java/lang/Throwable" 17 "java/lang/Throwable" "stackTrace" "[Ljava/lang/StackTraceElement;" ∈ lw_all := lw_in 510 rfl rfl
set_option maxRecDepth 20000 in
theorem q511 : Cond.fieldLink "java/lang/Throwable" 24 "java/lang/Throwable" "suppressedExceptions" "Ljava/util/List;" ∈ lw_all := lw_in 511 rfl rfl
set_option maxRecDepth 20000 in
theorem q520 : Cond.arrayClass .byte ∈ lw_all := lw_in 520 rfl rfl
set_option maxRecDepth 20000 in
theorem q521 : Cond.classLink RX8 131 "java/lang/IllegalArgumentException" ∈ lw_all := lw_in 521 rfl rfl
set_option maxRecDepth 20000 in
theorem q522 : Cond.instantiable "java/lang/IllegalArgumentException" 6 ∈ lw_all := lw_in 522 rfl rfl
set_option maxRecDepth 20000 in
theorem q531 : Cond.methodLink RX8 135 ⟨"java/lang/IllegalArgumentException", "<init>", "(Ljava/lang/String;)V"⟩ ∈ lw_all := lw_in 531 rfl rfl
set_option maxRecDepth 20000 in
theorem q532 : Cond.instanceMethod ⟨"java/lang/IllegalArgumentException", "<init>", "(Ljava/lang/String;)V"⟩ ∈ lw_all := lw_in 532 rfl rfl
set_option maxRecDepth 20000 in
theorem q534 : Cond.methodLink "java/lang/IllegalArgumentException" 7 ⟨"java/lang/RuntimeException", "<init>", "(Ljava/lang/String;)V"⟩ ∈ lw_all := lw_in 534 rfl rfl
set_option maxRecDepth 20000 in
theorem q537 : Cond.classLink RX8 328 "java/lang/UnsupportedOperationException" ∈ lw_all := lw_in 537 rfl rfl
set_option maxRecDepth 20000 in
theorem q538 : Cond.instantiable "java/lang/UnsupportedOperationException" 6 ∈ lw_all := lw_in 538 rfl rfl
set_option maxRecDepth 20000 in
theorem q547 : Cond.methodLink RX8 332 ⟨"java/lang/UnsupportedOperationException", "<init>", "(Ljava/lang/String;)V"⟩ ∈ lw_all := lw_in 547 rfl rfl
set_option maxRecDepth 20000 in
theorem q548 : Cond.instanceMethod ⟨"java/lang/UnsupportedOperationException", "<init>", "(Ljava/lang/String;)V"⟩ ∈ lw_all := lw_in 548 rfl rfl
set_option maxRecDepth 20000 in
theorem q550 : Cond.methodLink "java/lang/UnsupportedOperationException" 7 ⟨"java/lang/RuntimeException", "<init>", "(Ljava/lang/String;)V"⟩ ∈ lw_all := lw_in 550 rfl rfl
set_option maxRecDepth 20000 in
theorem q553 : Cond.methodLink RL 141 yL_fork ∈ lw_all := lw_in 553 rfl rfl
set_option maxRecDepth 20000 in
theorem q554 : Cond.static yL_fork ∈ lw_all := lw_in 554 rfl rfl
set_option maxRecDepth 20000 in
theorem q556 : Cond.methodLink RL 19 yX8_fork ∈ lw_all := lw_in 556 rfl rfl
set_option maxRecDepth 20000 in
theorem q557 : Cond.instanceMethod yX8_fork ∈ lw_all := lw_in 557 rfl rfl
set_option maxRecDepth 20000 in
theorem q558 : Cond.selects RX8 yX8_fork yX8_fork ∈ lw_all := lw_in 558 rfl rfl
set_option maxRecDepth 20000 in
theorem q559 : Cond.code yX8_fork cX8_fork 2 (some .int) ∈ lw_all := lw_in 559 rfl rfl
set_option maxRecDepth 20000 in
theorem q560 : Cond.methodLink RX8 85 yX0_tryFork ∈ lw_all := lw_in 560 rfl rfl
set_option maxRecDepth 20000 in
theorem q561 : Cond.instanceMethod yX0_tryFork ∈ lw_all := lw_in 561 rfl rfl
set_option maxRecDepth 20000 in
theorem q562 : Cond.selects RX0 yX0_tryFork yX0_tryFork ∈ lw_all := lw_in 562 rfl rfl
set_option maxRecDepth 20000 in
theorem q563 : Cond.code yX0_tryFork cX0_tryFork 2 (some .int) ∈ lw_all := lw_in 563 rfl rfl
set_option maxRecDepth 20000 in
theorem q564 : Cond.methodLink RX0 68 yX1_branchCount ∈ lw_all := lw_in 564 rfl rfl
set_option maxRecDepth 20000 in
theorem q565 : Cond.methodLink RX0 72 yX1_addBranch ∈ lw_all := lw_in 565 rfl rfl
set_option maxRecDepth 20000 in
theorem q566 : Cond.instanceMethod yX1_addBranch ∈ lw_all := lw_in 566 rfl rfl
set_option maxRecDepth 20000 in
theorem q567 : Cond.selects RX1 yX1_addBranch yX1_addBranch ∈ lw_all := lw_in 567 rfl rfl
set_option maxRecDepth 20000 in
theorem q568 : Cond.code yX1_addBranch cX1_addBranch 3 (some .int) ∈ lw_all := lw_in 568 rfl rfl
set_option maxRecDepth 20000 in
theorem q569 : Cond.methodLink RL 145 yL_reset ∈ lw_all := lw_in 569 rfl rfl
set_option maxRecDepth 20000 in
theorem q570 : Cond.static yL_reset ∈ lw_all := lw_in 570 rfl rfl
set_option maxRecDepth 20000 in
theorem q572 : Cond.methodLink RL 23 yX8_reset ∈ lw_all := lw_in 572 rfl rfl
set_option maxRecDepth 20000 in
theorem q573 : Cond.instanceMethod yX8_reset ∈ lw_all := lw_in 573 rfl rfl
set_option maxRecDepth 20000 in
theorem q574 : Cond.selects RX8 yX8_reset yX8_reset ∈ lw_all := lw_in 574 rfl rfl
set_option maxRecDepth 20000 in
theorem q575 : Cond.code yX8_reset cX8_reset 3 (some .int) ∈ lw_all := lw_in 575 rfl rfl
set_option maxRecDepth 20000 in
theorem q576 : Cond.methodLink RX8 88 yX0_tryReset ∈ lw_all := lw_in 576 rfl rfl
set_option maxRecDepth 20000 in
theorem q577 : Cond.instanceMethod yX0_tryReset ∈ lw_all := lw_in 577 rfl rfl
set_option maxRecDepth 20000 in
theorem q578 : Cond.selects RX0 yX0_tryReset yX0_tryReset ∈ lw_all := lw_in 578 rfl rfl
set_option maxRecDepth 20000 in
theorem q579 : Cond.code yX0_tryReset cX0_tryReset 4 (some .int) ∈ lw_all := lw_in 579 rfl rfl
set_option maxRecDepth 20000 in
theorem q580 : Cond.methodLink RX0 75 yX1_isCommit ∈ lw_all := lw_in 580 rfl rfl
set_option maxRecDepth 20000 in
theorem q581 : Cond.instanceMethod yX1_isCommit ∈ lw_all := lw_in 581 rfl rfl
set_option maxRecDepth 20000 in
theorem q582 : Cond.selects RX1 yX1_isCommit yX1_isCommit ∈ lw_all := lw_in 582 rfl rfl
set_option maxRecDepth 20000 in
theorem q583 : Cond.code yX1_isCommit cX1_isCommit 2 (some .boolean) ∈ lw_all := lw_in 583 rfl rfl
set_option maxRecDepth 20000 in
theorem q584 : Cond.methodLink RX0 78 yX1_moveTip ∈ lw_all := lw_in 584 rfl rfl
set_option maxRecDepth 20000 in
theorem q585 : Cond.instanceMethod yX1_moveTip ∈ lw_all := lw_in 585 rfl rfl
set_option maxRecDepth 20000 in
theorem q586 : Cond.selects RX1 yX1_moveTip yX1_moveTip ∈ lw_all := lw_in 586 rfl rfl
set_option maxRecDepth 20000 in
theorem q587 : Cond.code yX1_moveTip cX1_moveTip 3 none ∈ lw_all := lw_in 587 rfl rfl
set_option maxRecDepth 20000 in
theorem q588 : Cond.methodLink RL 149 yL_tip ∈ lw_all := lw_in 588 rfl rfl
set_option maxRecDepth 20000 in
theorem q589 : Cond.static yL_tip ∈ lw_all := lw_in 589 rfl rfl
set_option maxRecDepth 20000 in
theorem q591 : Cond.methodLink RL 27 yX8_tip ∈ lw_all := lw_in 591 rfl rfl
set_option maxRecDepth 20000 in
theorem q592 : Cond.instanceMethod yX8_tip ∈ lw_all := lw_in 592 rfl rfl
set_option maxRecDepth 20000 in
theorem q593 : Cond.selects RX8 yX8_tip yX8_tip ∈ lw_all := lw_in 593 rfl rfl
set_option maxRecDepth 20000 in
theorem q594 : Cond.code yX8_tip cX8_tip 2 (some .int) ∈ lw_all := lw_in 594 rfl rfl
set_option maxRecDepth 20000 in
theorem q595 : Cond.methodLink RX8 92 yX8_needBranch ∈ lw_all := lw_in 595 rfl rfl
set_option maxRecDepth 20000 in
theorem q597 : Cond.instanceMethod yX8_needBranch ∈ lw_all := lw_in 597 rfl rfl
set_option maxRecDepth 20000 in
theorem q598 : Cond.code yX8_needBranch cX8_needBranch 2 none ∈ lw_all := lw_in 598 rfl rfl
set_option maxRecDepth 20000 in
theorem q599 : Cond.methodLink RX8 333 yX1_isBranch ∈ lw_all := lw_in 599 rfl rfl
set_option maxRecDepth 20000 in
theorem q601 : Cond.methodLink RL 152 yL_amount ∈ lw_all := lw_in 601 rfl rfl
set_option maxRecDepth 20000 in
theorem q602 : Cond.static yL_amount ∈ lw_all := lw_in 602 rfl rfl
set_option maxRecDepth 20000 in
theorem q604 : Cond.methodLink RL 30 yX8_amount ∈ lw_all := lw_in 604 rfl rfl
set_option maxRecDepth 20000 in
theorem q605 : Cond.instanceMethod yX8_amount ∈ lw_all := lw_in 605 rfl rfl
set_option maxRecDepth 20000 in
theorem q606 : Cond.selects RX8 yX8_amount yX8_amount ∈ lw_all := lw_in 606 rfl rfl
set_option maxRecDepth 20000 in
theorem q607 : Cond.code yX8_amount cX8_amount 3 (some .int) ∈ lw_all := lw_in 607 rfl rfl
set_option maxRecDepth 20000 in
theorem q608 : Cond.methodLink RX8 99 yX8_needCommit ∈ lw_all := lw_in 608 rfl rfl
set_option maxRecDepth 20000 in
theorem q610 : Cond.instanceMethod yX8_needCommit ∈ lw_all := lw_in 610 rfl rfl
set_option maxRecDepth 20000 in
theorem q611 : Cond.code yX8_needCommit cX8_needCommit 2 none ∈ lw_all := lw_in 611 rfl rfl
set_option maxRecDepth 20000 in
theorem q612 : Cond.methodLink RX8 338 yX1_isCommit ∈ lw_all := lw_in 612 rfl rfl
set_option maxRecDepth 20000 in
theorem q614 : Cond.methodLink RX8 102 yX8_needIngredient ∈ lw_all := lw_in 614 rfl rfl
set_option maxRecDepth 20000 in
theorem q616 : Cond.instanceMethod yX8_needIngredient ∈ lw_all := lw_in 616 rfl rfl
set_option maxRecDepth 20000 in
theorem q617 : Cond.code yX8_needIngredient cX8_needIngredient 2 none ∈ lw_all := lw_in 617 rfl rfl
set_option maxRecDepth 20000 in
theorem q618 : Cond.methodLink RX8 343 yX8_isIngredient ∈ lw_all := lw_in 618 rfl rfl
set_option maxRecDepth 20000 in
theorem q620 : Cond.methodLink RX8 105 yX1_amountIn ∈ lw_all := lw_in 620 rfl rfl
set_option maxRecDepth 20000 in
theorem q621 : Cond.methodLink RL 155 yL_commitOf ∈ lw_all := lw_in 621 rfl rfl
set_option maxRecDepth 20000 in
theorem q622 : Cond.static yL_commitOf ∈ lw_all := lw_in 622 rfl rfl
set_option maxRecDepth 20000 in
theorem q624 : Cond.methodLink RL 33 yX8_commitOf ∈ lw_all := lw_in 624 rfl rfl
set_option maxRecDepth 20000 in
theorem q625 : Cond.instanceMethod yX8_commitOf ∈ lw_all := lw_in 625 rfl rfl
set_option maxRecDepth 20000 in
theorem q626 : Cond.selects RX8 yX8_commitOf yX8_commitOf ∈ lw_all := lw_in 626 rfl rfl
set_option maxRecDepth 20000 in
theorem q627 : Cond.code yX8_commitOf cX8_commitOf 3 (some .int) ∈ lw_all := lw_in 627 rfl rfl
set_option maxRecDepth 20000 in
theorem q628 : Cond.methodLink RX8 108 yX1_kindOf ∈ lw_all := lw_in 628 rfl rfl
set_option maxRecDepth 20000 in
theorem q629 : Cond.methodLink RX8 111 yX1_firstOf ∈ lw_all := lw_in 629 rfl rfl
set_option maxRecDepth 20000 in
theorem q630 : Cond.methodLink RX8 114 yX1_secondOf ∈ lw_all := lw_in 630 rfl rfl
set_option maxRecDepth 20000 in
theorem q631 : Cond.methodLink RX8 117 yX1_changedIn ∈ lw_all := lw_in 631 rfl rfl
set_option maxRecDepth 20000 in
theorem q632 : Cond.methodLink RX8 120 yX1_familyOf ∈ lw_all := lw_in 632 rfl rfl
set_option maxRecDepth 20000 in
theorem q633 : Cond.methodLink RX8 123 yJ6_bitCount_0f7a4 ∈ lw_all := lw_in 633 rfl rfl
set_option maxRecDepth 20000 in
theorem q634 : Cond.static yJ6_bitCount_0f7a4 ∈ lw_all := lw_in 634 rfl rfl
set_option maxRecDepth 20000 in
theorem q635 : Cond.code yJ6_bitCount_0f7a4 cJ6_bitCount_0f7a4 1 (some .int) ∈ lw_all := lw_in 635 rfl rfl
set_option maxRecDepth 20000 in
theorem q636 : Cond.constant RJ6 265 1431655765 ∈ lw_all := lw_in 636 rfl rfl
set_option maxRecDepth 20000 in
theorem q637 : Cond.constant RJ6 266 858993459 ∈ lw_all := lw_in 637 rfl rfl
set_option maxRecDepth 20000 in
theorem q638 : Cond.constant RJ6 267 252645135 ∈ lw_all := lw_in 638 rfl rfl
set_option maxRecDepth 20000 in
theorem q639 : Cond.methodLink RX8 128 yX1_depthOf ∈ lw_all := lw_in 639 rfl rfl
set_option maxRecDepth 20000 in
theorem q641 : Cond.methodLink RL 158 yL_merge ∈ lw_all := lw_in 641 rfl rfl
set_option maxRecDepth 20000 in
theorem q642 : Cond.static yL_merge ∈ lw_all := lw_in 642 rfl rfl
set_option maxRecDepth 20000 in
theorem q644 : Cond.methodLink RL 36 yX8_merge ∈ lw_all := lw_in 644 rfl rfl
set_option maxRecDepth 20000 in
theorem q645 : Cond.instanceMethod yX8_merge ∈ lw_all := lw_in 645 rfl rfl
set_option maxRecDepth 20000 in
theorem q646 : Cond.selects RX8 yX8_merge yX8_merge ∈ lw_all := lw_in 646 rfl rfl
set_option maxRecDepth 20000 in
theorem q647 : Cond.code yX8_merge cX8_merge 4 (some .int) ∈ lw_all := lw_in 647 rfl rfl
set_option maxRecDepth 20000 in
theorem q648 : Cond.methodLink RX8 138 yX0_tryMerge ∈ lw_all := lw_in 648 rfl rfl
set_option maxRecDepth 20000 in
theorem q649 : Cond.instanceMethod yX0_tryMerge ∈ lw_all := lw_in 649 rfl rfl
set_option maxRecDepth 20000 in
theorem q650 : Cond.selects RX0 yX0_tryMerge yX0_tryMerge ∈ lw_all := lw_in 650 rfl rfl
set_option maxRecDepth 20000 in
theorem q651 : Cond.code yX0_tryMerge cX0_tryMerge 6 (some .int) ∈ lw_all := lw_in 651 rfl rfl
set_option maxRecDepth 20000 in
theorem q653 : Cond.static yX8_isRule ∈ lw_all := lw_in 653 rfl rfl
set_option maxRecDepth 20000 in
theorem q654 : Cond.code yX8_isRule cX8_isRule 1 (some .boolean) ∈ lw_all := lw_in 654 rfl rfl
set_option maxRecDepth 20000 in
theorem q655 : Cond.methodLink RX0 85 yX1_hasInFamily ∈ lw_all := lw_in 655 rfl rfl
set_option maxRecDepth 20000 in
theorem q656 : Cond.instanceMethod yX1_hasInFamily ∈ lw_all := lw_in 656 rfl rfl
set_option maxRecDepth 20000 in
theorem q657 : Cond.selects RX1 yX1_hasInFamily yX1_hasInFamily ∈ lw_all := lw_in 657 rfl rfl
set_option maxRecDepth 20000 in
theorem q658 : Cond.code yX1_hasInFamily cX1_hasInFamily 3 (some .boolean) ∈ lw_all := lw_in 658 rfl rfl
set_option maxRecDepth 20000 in
theorem q659 : Cond.methodLink RX0 89 yX1_commonGround ∈ lw_all := lw_in 659 rfl rfl
set_option maxRecDepth 20000 in
theorem q660 : Cond.methodLink RX0 92 yX5_putTogether ∈ lw_all := lw_in 660 rfl rfl
set_option maxRecDepth 20000 in
theorem q661 : Cond.instanceMethod yX5_putTogether ∈ lw_all := lw_in 661 rfl rfl
set_option maxRecDepth 20000 in
theorem q662 : Cond.selects RX5 yX5_putTogether yX5_putTogether ∈ lw_all := lw_in 662 rfl rfl
set_option maxRecDepth 20000 in
theorem q663 : Cond.code yX5_putTogether cX5_putTogether 10 none ∈ lw_all := lw_in 663 rfl rfl
set_option maxRecDepth 20000 in
theorem q664 : Cond.methodLink RX5 28 yX5_byRule ∈ lw_all := lw_in 664 rfl rfl
set_option maxRecDepth 20000 in
theorem q665 : Cond.static yX5_byRule ∈ lw_all := lw_in 665 rfl rfl
set_option maxRecDepth 20000 in
theorem q666 : Cond.code yX5_byRule cX5_byRule 3 (some .int) ∈ lw_all := lw_in 666 rfl rfl
set_option maxRecDepth 20000 in
theorem q667 : Cond.methodLink RX0 96 yX0_isStopped ∈ lw_all := lw_in 667 rfl rfl
set_option maxRecDepth 20000 in
theorem q669 : Cond.instanceMethod yX0_isStopped ∈ lw_all := lw_in 669 rfl rfl
set_option maxRecDepth 20000 in
theorem q670 : Cond.code yX0_isStopped cX0_isStopped 2 (some .boolean) ∈ lw_all := lw_in 670 rfl rfl
set_option maxRecDepth 20000 in
theorem q671 : Cond.methodLink RX0 138 yX5_conflictsFound ∈ lw_all := lw_in 671 rfl rfl
set_option maxRecDepth 20000 in
theorem q672 : Cond.instanceMethod yX5_conflictsFound ∈ lw_all := lw_in 672 rfl rfl
set_option maxRecDepth 20000 in
theorem q673 : Cond.selects RX5 yX5_conflictsFound yX5_conflictsFound ∈ lw_all := lw_in 673 rfl rfl
set_option maxRecDepth 20000 in
theorem q674 : Cond.code yX5_conflictsFound cX5_conflictsFound 1 (some .int) ∈ lw_all := lw_in 674 rfl rfl
set_option maxRecDepth 20000 in
theorem q675 : Cond.methodLink RX0 99 yX5_lowestConflict ∈ lw_all := lw_in 675 rfl rfl
set_option maxRecDepth 20000 in
theorem q676 : Cond.instanceMethod yX5_lowestConflict ∈ lw_all := lw_in 676 rfl rfl
set_option maxRecDepth 20000 in
theorem q677 : Cond.selects RX5 yX5_lowestConflict yX5_lowestConflict ∈ lw_all := lw_in 677 rfl rfl
set_option maxRecDepth 20000 in
theorem q678 : Cond.code yX5_lowestConflict cX5_lowestConflict 1 (some .int) ∈ lw_all := lw_in 678 rfl rfl
set_option maxRecDepth 20000 in
theorem q679 : Cond.methodLink RL 161 yL_pick ∈ lw_all := lw_in 679 rfl rfl
set_option maxRecDepth 20000 in
theorem q680 : Cond.static yL_pick ∈ lw_all := lw_in 680 rfl rfl
set_option maxRecDepth 20000 in
theorem q682 : Cond.methodLink RL 39 yX8_pick ∈ lw_all := lw_in 682 rfl rfl
set_option maxRecDepth 20000 in
theorem q683 : Cond.instanceMethod yX8_pick ∈ lw_all := lw_in 683 rfl rfl
set_option maxRecDepth 20000 in
theorem q684 : Cond.selects RX8 yX8_pick yX8_pick ∈ lw_all := lw_in 684 rfl rfl
set_option maxRecDepth 20000 in
theorem q685 : Cond.code yX8_pick cX8_pick 4 (some .int) ∈ lw_all := lw_in 685 rfl rfl
set_option maxRecDepth 20000 in
theorem q686 : Cond.methodLink RX8 141 yX0_tryPick ∈ lw_all := lw_in 686 rfl rfl
set_option maxRecDepth 20000 in
theorem q687 : Cond.instanceMethod yX0_tryPick ∈ lw_all := lw_in 687 rfl rfl
set_option maxRecDepth 20000 in
theorem q688 : Cond.selects RX0 yX0_tryPick yX0_tryPick ∈ lw_all := lw_in 688 rfl rfl
set_option maxRecDepth 20000 in
theorem q689 : Cond.code yX0_tryPick cX0_tryPick 4 (some .int) ∈ lw_all := lw_in 689 rfl rfl
set_option maxRecDepth 20000 in
theorem q690 : Cond.methodLink RX0 102 yX1_firstOf ∈ lw_all := lw_in 690 rfl rfl
set_option maxRecDepth 20000 in
theorem q691 : Cond.methodLink RX0 105 yX0_pickChange ∈ lw_all := lw_in 691 rfl rfl
set_option maxRecDepth 20000 in
theorem q693 : Cond.instanceMethod yX0_pickChange ∈ lw_all := lw_in 693 rfl rfl
set_option maxRecDepth 20000 in
theorem q694 : Cond.code yX0_pickChange cX0_pickChange 6 (some .int) ∈ lw_all := lw_in 694 rfl rfl
set_option maxRecDepth 20000 in
theorem q695 : Cond.methodLink RX0 141 yX5_isRowOf ∈ lw_all := lw_in 695 rfl rfl
set_option maxRecDepth 20000 in
theorem q696 : Cond.instanceMethod yX5_isRowOf ∈ lw_all := lw_in 696 rfl rfl
set_option maxRecDepth 20000 in
theorem q697 : Cond.selects RX5 yX5_isRowOf yX5_isRowOf ∈ lw_all := lw_in 697 rfl rfl
set_option maxRecDepth 20000 in
theorem q698 : Cond.code yX5_isRowOf cX5_isRowOf 4 (some .boolean) ∈ lw_all := lw_in 698 rfl rfl
set_option maxRecDepth 20000 in
theorem q699 : Cond.methodLink RL 164 yL_revert ∈ lw_all := lw_in 699 rfl rfl
set_option maxRecDepth 20000 in
theorem q700 : Cond.static yL_revert ∈ lw_all := lw_in 700 rfl rfl
set_option maxRecDepth 20000 in
theorem q702 : Cond.methodLink RL 42 yX8_revert ∈ lw_all := lw_in 702 rfl rfl
set_option maxRecDepth 20000 in
theorem q703 : Cond.instanceMethod yX8_revert ∈ lw_all := lw_in 703 rfl rfl
set_option maxRecDepth 20000 in
theorem q704 : Cond.selects RX8 yX8_revert yX8_revert ∈ lw_all := lw_in 704 rfl rfl
set_option maxRecDepth 20000 in
theorem q705 : Cond.code yX8_revert cX8_revert 4 (some .int) ∈ lw_all := lw_in 705 rfl rfl
set_option maxRecDepth 20000 in
theorem q706 : Cond.methodLink RX8 144 yX0_tryRevert ∈ lw_all := lw_in 706 rfl rfl
set_option maxRecDepth 20000 in
theorem q707 : Cond.instanceMethod yX0_tryRevert ∈ lw_all := lw_in 707 rfl rfl
set_option maxRecDepth 20000 in
theorem q708 : Cond.selects RX0 yX0_tryRevert yX0_tryRevert ∈ lw_all := lw_in 708 rfl rfl
set_option maxRecDepth 20000 in
theorem q709 : Cond.code yX0_tryRevert cX0_tryRevert 5 (some .int) ∈ lw_all := lw_in 709 rfl rfl
set_option maxRecDepth 20000 in
theorem q710 : Cond.methodLink RL 167 yL_conflicts ∈ lw_all := lw_in 710 rfl rfl
set_option maxRecDepth 20000 in
theorem q711 : Cond.static yL_conflicts ∈ lw_all := lw_in 711 rfl rfl
set_option maxRecDepth 20000 in
theorem q713 : Cond.methodLink RL 45 yX8_conflicts ∈ lw_all := lw_in 713 rfl rfl
set_option maxRecDepth 20000 in
theorem q714 : Cond.instanceMethod yX8_conflicts ∈ lw_all := lw_in 714 rfl rfl
set_option maxRecDepth 20000 in
theorem q715 : Cond.selects RX8 yX8_conflicts yX8_conflicts ∈ lw_all := lw_in 715 rfl rfl
set_option maxRecDepth 20000 in
theorem q716 : Cond.code yX8_conflicts cX8_conflicts 3 (some .int) ∈ lw_all := lw_in 716 rfl rfl
set_option maxRecDepth 20000 in
theorem q717 : Cond.methodLink RX8 147 yX0_conflictsBetween ∈ lw_all := lw_in 717 rfl rfl
set_option maxRecDepth 20000 in
theorem q718 : Cond.instanceMethod yX0_conflictsBetween ∈ lw_all := lw_in 718 rfl rfl
set_option maxRecDepth 20000 in
theorem q719 : Cond.selects RX0 yX0_conflictsBetween yX0_conflictsBetween ∈ lw_all := lw_in 719 rfl rfl
set_option maxRecDepth 20000 in
theorem q720 : Cond.code yX0_conflictsBetween cX0_conflictsBetween 3 (some .int) ∈ lw_all := lw_in 720 rfl rfl
set_option maxRecDepth 20000 in
theorem q721 : Cond.methodLink RL 170 yL_isIn ∈ lw_all := lw_in 721 rfl rfl
set_option maxRecDepth 20000 in
theorem q722 : Cond.static yL_isIn ∈ lw_all := lw_in 722 rfl rfl
set_option maxRecDepth 20000 in
theorem q724 : Cond.methodLink RL 48 yX8_isIn ∈ lw_all := lw_in 724 rfl rfl
set_option maxRecDepth 20000 in
theorem q725 : Cond.instanceMethod yX8_isIn ∈ lw_all := lw_in 725 rfl rfl
set_option maxRecDepth 20000 in
theorem q726 : Cond.selects RX8 yX8_isIn yX8_isIn ∈ lw_all := lw_in 726 rfl rfl
set_option maxRecDepth 20000 in
theorem q727 : Cond.code yX8_isIn cX8_isIn 3 (some .boolean) ∈ lw_all := lw_in 727 rfl rfl
set_option maxRecDepth 20000 in
theorem q728 : Cond.methodLink RX8 150 yX1_hasInFamily ∈ lw_all := lw_in 728 rfl rfl
set_option maxRecDepth 20000 in
theorem q729 : Cond.methodLink RL 173 yL_base ∈ lw_all := lw_in 729 rfl rfl
set_option maxRecDepth 20000 in
theorem q730 : Cond.static yL_base ∈ lw_all := lw_in 730 rfl rfl
set_option maxRecDepth 20000 in
theorem q732 : Cond.methodLink RL 52 yX8_base ∈ lw_all := lw_in 732 rfl rfl
set_option maxRecDepth 20000 in
theorem q733 : Cond.instanceMethod yX8_base ∈ lw_all := lw_in 733 rfl rfl
set_option maxRecDepth 20000 in
theorem q734 : Cond.selects RX8 yX8_base yX8_base ∈ lw_all := lw_in 734 rfl rfl
set_option maxRecDepth 20000 in
theorem q735 : Cond.code yX8_base cX8_base 3 (some .int) ∈ lw_all := lw_in 735 rfl rfl
set_option maxRecDepth 20000 in
theorem q736 : Cond.methodLink RX8 154 yX1_commonGround ∈ lw_all := lw_in 736 rfl rfl
set_option maxRecDepth 20000 in
theorem q737 : Cond.methodLink RL 176 yL_baseAgain ∈ lw_all := lw_in 737 rfl rfl
set_option maxRecDepth 20000 in
theorem q738 : Cond.static yL_baseAgain ∈ lw_all := lw_in 738 rfl rfl
set_option maxRecDepth 20000 in
theorem q740 : Cond.methodLink RL 55 yX8_baseAgain ∈ lw_all := lw_in 740 rfl rfl
set_option maxRecDepth 20000 in
theorem q741 : Cond.instanceMethod yX8_baseAgain ∈ lw_all := lw_in 741 rfl rfl
set_option maxRecDepth 20000 in
theorem q742 : Cond.selects RX8 yX8_baseAgain yX8_baseAgain ∈ lw_all := lw_in 742 rfl rfl
set_option maxRecDepth 20000 in
theorem q743 : Cond.code yX8_baseAgain cX8_baseAgain 3 (some .int) ∈ lw_all := lw_in 743 rfl rfl
set_option maxRecDepth 20000 in
theorem q744 : Cond.methodLink RX8 157 yX1_meetingPoint ∈ lw_all := lw_in 744 rfl rfl
set_option maxRecDepth 20000 in
theorem q745 : Cond.methodLink RL 179 yL_difference ∈ lw_all := lw_in 745 rfl rfl
set_option maxRecDepth 20000 in
theorem q746 : Cond.static yL_difference ∈ lw_all := lw_in 746 rfl rfl
set_option maxRecDepth 20000 in
theorem q748 : Cond.methodLink RL 58 yX8_difference ∈ lw_all := lw_in 748 rfl rfl
set_option maxRecDepth 20000 in
theorem q749 : Cond.instanceMethod yX8_difference ∈ lw_all := lw_in 749 rfl rfl
set_option maxRecDepth 20000 in
theorem q750 : Cond.selects RX8 yX8_difference yX8_difference ∈ lw_all := lw_in 750 rfl rfl
set_option maxRecDepth 20000 in
theorem q751 : Cond.code yX8_difference cX8_difference 5 (some .int) ∈ lw_all := lw_in 751 rfl rfl
set_option maxRecDepth 20000 in
theorem q752 : Cond.methodLink RX8 160 Lib.Math.abs.name ∈ lw_all := lw_in 752 rfl rfl
set_option maxRecDepth 20000 in
theorem q753 : Cond.static Lib.Math.abs.name ∈ lw_all := lw_in 753 rfl rfl
set_option maxRecDepth 20000 in
theorem q754 : Cond.code Lib.Math.abs.name Lib.Math.abs.code 1 (some .int) ∈ lw_all := lw_in 754 rfl rfl
set_option maxRecDepth 20000 in
theorem q755 : Cond.methodLink RL 182 yL_onLine ∈ lw_all := lw_in 755 rfl rfl
set_option maxRecDepth 20000 in
theorem q756 : Cond.static yL_onLine ∈ lw_all := lw_in 756 rfl rfl
set_option maxRecDepth 20000 in
theorem q758 : Cond.classLink RL 64 "java/util/NoSuchElementException" ∈ lw_all := lw_in 758 rfl rfl
set_option maxRecDepth 20000 in
theorem q759 : Cond.methodLink RL 61 yX8_onLine ∈ lw_all := lw_in 759 rfl rfl
set_option maxRecDepth 20000 in
theorem q760 : Cond.instanceMethod yX8_onLine ∈ lw_all := lw_in 760 rfl rfl
set_option maxRecDepth 20000 in
theorem q761 : Cond.selects RX8 yX8_onLine yX8_onLine ∈ lw_all := lw_in 761 rfl rfl
set_option maxRecDepth 20000 in
theorem q762 : Cond.code yX8_onLine cX8_onLine 4 (some .int) ∈ lw_all := lw_in 762 rfl rfl
set_option maxRecDepth 20000 in
theorem q763 : Cond.methodLink RX8 165 yX7_follow ∈ lw_all := lw_in 763 rfl rfl
set_option maxRecDepth 20000 in
theorem q764 : Cond.instanceMethod yX7_follow ∈ lw_all := lw_in 764 rfl rfl
set_option maxRecDepth 20000 in
theorem q765 : Cond.selects RX7 yX7_follow yX7_follow ∈ lw_all := lw_in 765 rfl rfl
set_option maxRecDepth 20000 in
theorem q766 : Cond.code yX7_follow cX7_follow 5 none ∈ lw_all := lw_in 766 rfl rfl
set_option maxRecDepth 20000 in
theorem q767 : Cond.methodLink RX7 22 yX1_firstOf ∈ lw_all := lw_in 767 rfl rfl
set_option maxRecDepth 20000 in
theorem q768 : Cond.methodLink RX8 169 yX7_at ∈ lw_all := lw_in 768 rfl rfl
set_option maxRecDepth 20000 in
theorem q769 : Cond.instanceMethod yX7_at ∈ lw_all := lw_in 769 rfl rfl
set_option maxRecDepth 20000 in
theorem q770 : Cond.selects RX7 yX7_at yX7_at ∈ lw_all := lw_in 770 rfl rfl
set_option maxRecDepth 20000 in
theorem q771 : Cond.code yX7_at cX7_at 2 (some .int) ∈ lw_all := lw_in 771 rfl rfl
set_option maxRecDepth 20000 in
theorem q772 : Cond.classLink RX8 172 "java/util/NoSuchElementException" ∈ lw_all := lw_in 772 rfl rfl
set_option maxRecDepth 20000 in
theorem q773 : Cond.instantiable "java/util/NoSuchElementException" 6 ∈ lw_all := lw_in 773 rfl rfl
set_option maxRecDepth 20000 in
theorem q782 : Cond.methodLink RX8 176 ⟨"java/util/NoSuchElementException", "<init>", "(Ljava/lang/String;)V"⟩ ∈ lw_all := lw_in 782 rfl rfl
set_option maxRecDepth 20000 in
theorem q783 : Cond.instanceMethod ⟨"java/util/NoSuchElementException", "<init>", "(Ljava/lang/String;)V"⟩ ∈ lw_all := lw_in 783 rfl rfl
set_option maxRecDepth 20000 in
theorem q785 : Cond.methodLink "java/util/NoSuchElementException" 13 ⟨"java/lang/RuntimeException", "<init>", "(Ljava/lang/String;)V"⟩ ∈ lw_all := lw_in 785 rfl rfl
set_option maxRecDepth 20000 in
theorem q788 : Cond.methodLink RL 185 yL_halve ∈ lw_all := lw_in 788 rfl rfl
set_option maxRecDepth 20000 in
theorem q789 : Cond.static yL_halve ∈ lw_all := lw_in 789 rfl rfl
set_option maxRecDepth 20000 in
theorem q791 : Cond.methodLink RL 66 yX8_halve ∈ lw_all := lw_in 791 rfl rfl
set_option maxRecDepth 20000 in
theorem q792 : Cond.instanceMethod yX8_halve ∈ lw_all := lw_in 792 rfl rfl
set_option maxRecDepth 20000 in
theorem q793 : Cond.selects RX8 yX8_halve yX8_halve ∈ lw_all := lw_in 793 rfl rfl
set_option maxRecDepth 20000 in
theorem q794 : Cond.code yX8_halve cX8_halve 7 (some .int) ∈ lw_all := lw_in 794 rfl rfl
set_option maxRecDepth 20000 in
theorem q795 : Cond.methodLink RX8 177 yX8_needAmount ∈ lw_all := lw_in 795 rfl rfl
set_option maxRecDepth 20000 in
theorem q797 : Cond.instanceMethod yX8_needAmount ∈ lw_all := lw_in 797 rfl rfl
set_option maxRecDepth 20000 in
theorem q798 : Cond.code yX8_needAmount cX8_needAmount 2 none ∈ lw_all := lw_in 798 rfl rfl
set_option maxRecDepth 20000 in
theorem q799 : Cond.methodLink RX8 348 yX8_isAmount ∈ lw_all := lw_in 799 rfl rfl
set_option maxRecDepth 20000 in
theorem q802 : Cond.methodLink RX8 182 yX7_searchByHalves ∈ lw_all := lw_in 802 rfl rfl
set_option maxRecDepth 20000 in
theorem q803 : Cond.instanceMethod yX7_searchByHalves ∈ lw_all := lw_in 803 rfl rfl
set_option maxRecDepth 20000 in
theorem q804 : Cond.selects RX7 yX7_searchByHalves yX7_searchByHalves ∈ lw_all := lw_in 804 rfl rfl
set_option maxRecDepth 20000 in
theorem q805 : Cond.code yX7_searchByHalves cX7_searchByHalves 8 (some .int) ∈ lw_all := lw_in 805 rfl rfl
set_option maxRecDepth 20000 in
theorem q806 : Cond.methodLink RX7 28 yX7_at ∈ lw_all := lw_in 806 rfl rfl
set_option maxRecDepth 20000 in
theorem q807 : Cond.methodLink RX7 31 yX1_amountIn ∈ lw_all := lw_in 807 rfl rfl
set_option maxRecDepth 20000 in
theorem q808 : Cond.methodLink RX8 186 yX7_looksTaken ∈ lw_all := lw_in 808 rfl rfl
set_option maxRecDepth 20000 in
theorem q809 : Cond.instanceMethod yX7_looksTaken ∈ lw_all := lw_in 809 rfl rfl
set_option maxRecDepth 20000 in
theorem q810 : Cond.selects RX7 yX7_looksTaken yX7_looksTaken ∈ lw_all := lw_in 810 rfl rfl
set_option maxRecDepth 20000 in
theorem q811 : Cond.code yX7_looksTaken cX7_looksTaken 1 (some .int) ∈ lw_all := lw_in 811 rfl rfl
set_option maxRecDepth 20000 in
theorem q812 : Cond.methodLink RL 189 yL_firstBad ∈ lw_all := lw_in 812 rfl rfl
set_option maxRecDepth 20000 in
theorem q813 : Cond.static yL_firstBad ∈ lw_all := lw_in 813 rfl rfl
set_option maxRecDepth 20000 in
theorem q815 : Cond.methodLink RL 70 yX8_firstBad ∈ lw_all := lw_in 815 rfl rfl
set_option maxRecDepth 20000 in
theorem q816 : Cond.instanceMethod yX8_firstBad ∈ lw_all := lw_in 816 rfl rfl
set_option maxRecDepth 20000 in
theorem q817 : Cond.selects RX8 yX8_firstBad yX8_firstBad ∈ lw_all := lw_in 817 rfl rfl
set_option maxRecDepth 20000 in
theorem q818 : Cond.code yX8_firstBad cX8_firstBad 5 (some .int) ∈ lw_all := lw_in 818 rfl rfl
set_option maxRecDepth 20000 in
theorem q819 : Cond.methodLink RX8 190 yX7_farthestBad ∈ lw_all := lw_in 819 rfl rfl
set_option maxRecDepth 20000 in
theorem q820 : Cond.instanceMethod yX7_farthestBad ∈ lw_all := lw_in 820 rfl rfl
set_option maxRecDepth 20000 in
theorem q821 : Cond.selects RX7 yX7_farthestBad yX7_farthestBad ∈ lw_all := lw_in 821 rfl rfl
set_option maxRecDepth 20000 in
theorem q822 : Cond.code yX7_farthestBad cX7_farthestBad 5 (some .int) ∈ lw_all := lw_in 822 rfl rfl
set_option maxRecDepth 20000 in
theorem q824 : Cond.methodLink RL 192 yL_blame ∈ lw_all := lw_in 824 rfl rfl
set_option maxRecDepth 20000 in
theorem q825 : Cond.static yL_blame ∈ lw_all := lw_in 825 rfl rfl
set_option maxRecDepth 20000 in
theorem q827 : Cond.methodLink RL 73 yX8_blame ∈ lw_all := lw_in 827 rfl rfl
set_option maxRecDepth 20000 in
theorem q828 : Cond.instanceMethod yX8_blame ∈ lw_all := lw_in 828 rfl rfl
set_option maxRecDepth 20000 in
theorem q829 : Cond.selects RX8 yX8_blame yX8_blame ∈ lw_all := lw_in 829 rfl rfl
set_option maxRecDepth 20000 in
theorem q830 : Cond.code yX8_blame cX8_blame 3 (some .int) ∈ lw_all := lw_in 830 rfl rfl
set_option maxRecDepth 20000 in
theorem q831 : Cond.methodLink RX8 195 yX7_latestChange ∈ lw_all := lw_in 831 rfl rfl
set_option maxRecDepth 20000 in
theorem q832 : Cond.instanceMethod yX7_latestChange ∈ lw_all := lw_in 832 rfl rfl
set_option maxRecDepth 20000 in
theorem q833 : Cond.selects RX7 yX7_latestChange yX7_latestChange ∈ lw_all := lw_in 833 rfl rfl
set_option maxRecDepth 20000 in
theorem q834 : Cond.code yX7_latestChange cX7_latestChange 4 (some .int) ∈ lw_all := lw_in 834 rfl rfl
set_option maxRecDepth 20000 in
theorem q835 : Cond.methodLink RL 195 yL_taste ∈ lw_all := lw_in 835 rfl rfl
set_option maxRecDepth 20000 in
theorem q836 : Cond.static yL_taste ∈ lw_all := lw_in 836 rfl rfl
set_option maxRecDepth 20000 in
theorem q838 : Cond.methodLink RL 76 yX8_taste ∈ lw_all := lw_in 838 rfl rfl
set_option maxRecDepth 20000 in
theorem q839 : Cond.instanceMethod yX8_taste ∈ lw_all := lw_in 839 rfl rfl
set_option maxRecDepth 20000 in
theorem q840 : Cond.selects RX8 yX8_taste yX8_taste ∈ lw_all := lw_in 840 rfl rfl
set_option maxRecDepth 20000 in
theorem q841 : Cond.code yX8_taste cX8_taste 2 (some .float) ∈ lw_all := lw_in 841 rfl rfl
set_option maxRecDepth 20000 in
theorem q842 : Cond.methodLink RL 199 yL_tasteBits ∈ lw_all := lw_in 842 rfl rfl
set_option maxRecDepth 20000 in
theorem q843 : Cond.static yL_tasteBits ∈ lw_all := lw_in 843 rfl rfl
set_option maxRecDepth 20000 in
theorem q845 : Cond.methodLink RL 80 yX8_tasteBits ∈ lw_all := lw_in 845 rfl rfl
set_option maxRecDepth 20000 in
theorem q846 : Cond.instanceMethod yX8_tasteBits ∈ lw_all := lw_in 846 rfl rfl
set_option maxRecDepth 20000 in
theorem q847 : Cond.selects RX8 yX8_tasteBits yX8_tasteBits ∈ lw_all := lw_in 847 rfl rfl
set_option maxRecDepth 20000 in
theorem q848 : Cond.code yX8_tasteBits cX8_tasteBits 2 (some .int) ∈ lw_all := lw_in 848 rfl rfl
set_option maxRecDepth 20000 in
theorem q849 : Cond.methodLink RX8 203 yX8_bitsOf ∈ lw_all := lw_in 849 rfl rfl
set_option maxRecDepth 20000 in
theorem q850 : Cond.static yX8_bitsOf ∈ lw_all := lw_in 850 rfl rfl
set_option maxRecDepth 20000 in
theorem q851 : Cond.code yX8_bitsOf cX8_bitsOf 4 (some .int) ∈ lw_all := lw_in 851 rfl rfl
set_option maxRecDepth 20000 in
theorem q852 : Cond.constantFloat RX8 353 1258291200 ∈ lw_all := lw_in 852 rfl rfl
set_option maxRecDepth 20000 in
theorem q853 : Cond.methodLink RL 202 yL_tastiest ∈ lw_all := lw_in 853 rfl rfl
set_option maxRecDepth 20000 in
theorem q854 : Cond.static yL_tastiest ∈ lw_all := lw_in 854 rfl rfl
set_option maxRecDepth 20000 in
theorem q856 : Cond.methodLink RL 83 yX8_tastiest ∈ lw_all := lw_in 856 rfl rfl
set_option maxRecDepth 20000 in
theorem q857 : Cond.instanceMethod yX8_tastiest ∈ lw_all := lw_in 857 rfl rfl
set_option maxRecDepth 20000 in
theorem q858 : Cond.selects RX8 yX8_tastiest yX8_tastiest ∈ lw_all := lw_in 858 rfl rfl
set_option maxRecDepth 20000 in
theorem q859 : Cond.code yX8_tastiest cX8_tastiest 2 (some .int) ∈ lw_all := lw_in 859 rfl rfl
set_option maxRecDepth 20000 in
theorem q860 : Cond.methodLink RX8 207 yX7_farthestBest ∈ lw_all := lw_in 860 rfl rfl
set_option maxRecDepth 20000 in
theorem q861 : Cond.instanceMethod yX7_farthestBest ∈ lw_all := lw_in 861 rfl rfl
set_option maxRecDepth 20000 in
theorem q862 : Cond.selects RX7 yX7_farthestBest yX7_farthestBest ∈ lw_all := lw_in 862 rfl rfl
set_option maxRecDepth 20000 in
theorem q863 : Cond.code yX7_farthestBest cX7_farthestBest 6 (some .int) ∈ lw_all := lw_in 863 rfl rfl
set_option maxRecDepth 20000 in
theorem q864 : Cond.methodLink RX7 35 yX1_tasteOf ∈ lw_all := lw_in 864 rfl rfl
set_option maxRecDepth 20000 in
theorem q865 : Cond.methodLink RL 205 yL_bundle ∈ lw_all := lw_in 865 rfl rfl
set_option maxRecDepth 20000 in
theorem q866 : Cond.static yL_bundle ∈ lw_all := lw_in 866 rfl rfl
set_option maxRecDepth 20000 in
theorem q868 : Cond.methodLink RL 86 yX8_bundle ∈ lw_all := lw_in 868 rfl rfl
set_option maxRecDepth 20000 in
theorem q869 : Cond.instanceMethod yX8_bundle ∈ lw_all := lw_in 869 rfl rfl
set_option maxRecDepth 20000 in
theorem q870 : Cond.selects RX8 yX8_bundle yX8_bundle ∈ lw_all := lw_in 870 rfl rfl
set_option maxRecDepth 20000 in
theorem q871 : Cond.code yX8_bundle cX8_bundle 2 (some .int) ∈ lw_all := lw_in 871 rfl rfl
set_option maxRecDepth 20000 in
theorem q872 : Cond.methodLink RX8 211 yX0_tryBundle ∈ lw_all := lw_in 872 rfl rfl
set_option maxRecDepth 20000 in
theorem q873 : Cond.instanceMethod yX0_tryBundle ∈ lw_all := lw_in 873 rfl rfl
set_option maxRecDepth 20000 in
theorem q874 : Cond.selects RX0 yX0_tryBundle yX0_tryBundle ∈ lw_all := lw_in 874 rfl rfl
set_option maxRecDepth 20000 in
theorem q875 : Cond.code yX0_tryBundle cX0_tryBundle 3 (some .int) ∈ lw_all := lw_in 875 rfl rfl
set_option maxRecDepth 20000 in
theorem q876 : Cond.methodLink RX0 109 yX1_bundledCount ∈ lw_all := lw_in 876 rfl rfl
set_option maxRecDepth 20000 in
theorem q877 : Cond.instanceMethod yX1_bundledCount ∈ lw_all := lw_in 877 rfl rfl
set_option maxRecDepth 20000 in
theorem q878 : Cond.selects RX1 yX1_bundledCount yX1_bundledCount ∈ lw_all := lw_in 878 rfl rfl
set_option maxRecDepth 20000 in
theorem q879 : Cond.code yX1_bundledCount cX1_bundledCount 3 (some .int) ∈ lw_all := lw_in 879 rfl rfl
set_option maxRecDepth 20000 in
theorem q880 : Cond.methodLink RX0 112 yX1_takeBundle ∈ lw_all := lw_in 880 rfl rfl
set_option maxRecDepth 20000 in
theorem q881 : Cond.instanceMethod yX1_takeBundle ∈ lw_all := lw_in 881 rfl rfl
set_option maxRecDepth 20000 in
theorem q882 : Cond.selects RX1 yX1_takeBundle yX1_takeBundle ∈ lw_all := lw_in 882 rfl rfl
set_option maxRecDepth 20000 in
theorem q883 : Cond.code yX1_takeBundle cX1_takeBundle 3 none ∈ lw_all := lw_in 883 rfl rfl
set_option maxRecDepth 20000 in
theorem q884 : Cond.methodLink RL 208 yL_put ∈ lw_all := lw_in 884 rfl rfl
set_option maxRecDepth 20000 in
theorem q885 : Cond.static yL_put ∈ lw_all := lw_in 885 rfl rfl
set_option maxRecDepth 20000 in
theorem q887 : Cond.methodLink RL 89 yX8_put ∈ lw_all := lw_in 887 rfl rfl
set_option maxRecDepth 20000 in
theorem q888 : Cond.instanceMethod yX8_put ∈ lw_all := lw_in 888 rfl rfl
set_option maxRecDepth 20000 in
theorem q889 : Cond.selects RX8 yX8_put yX8_put ∈ lw_all := lw_in 889 rfl rfl
set_option maxRecDepth 20000 in
theorem q890 : Cond.code yX8_put cX8_put 3 (some .int) ∈ lw_all := lw_in 890 rfl rfl
set_option maxRecDepth 20000 in
theorem q891 : Cond.methodLink RX8 214 yX0_tryPut ∈ lw_all := lw_in 891 rfl rfl
set_option maxRecDepth 20000 in
theorem q892 : Cond.instanceMethod yX0_tryPut ∈ lw_all := lw_in 892 rfl rfl
set_option maxRecDepth 20000 in
theorem q893 : Cond.selects RX0 yX0_tryPut yX0_tryPut ∈ lw_all := lw_in 893 rfl rfl
set_option maxRecDepth 20000 in
theorem q894 : Cond.code yX0_tryPut cX0_tryPut 5 (some .int) ∈ lw_all := lw_in 894 rfl rfl
set_option maxRecDepth 20000 in
theorem q896 : Cond.static yX8_isPlace ∈ lw_all := lw_in 896 rfl rfl
set_option maxRecDepth 20000 in
theorem q897 : Cond.code yX8_isPlace cX8_isPlace 1 (some .boolean) ∈ lw_all := lw_in 897 rfl rfl
set_option maxRecDepth 20000 in
theorem q898 : Cond.methodLink RX0 119 yX1_bundleKind ∈ lw_all := lw_in 898 rfl rfl
set_option maxRecDepth 20000 in
theorem q899 : Cond.instanceMethod yX1_bundleKind ∈ lw_all := lw_in 899 rfl rfl
set_option maxRecDepth 20000 in
theorem q900 : Cond.selects RX1 yX1_bundleKind yX1_bundleKind ∈ lw_all := lw_in 900 rfl rfl
set_option maxRecDepth 20000 in
theorem q901 : Cond.code yX1_bundleKind cX1_bundleKind 1 (some .int) ∈ lw_all := lw_in 901 rfl rfl
set_option maxRecDepth 20000 in
theorem q902 : Cond.methodLink RX0 122 yX1_kindOf ∈ lw_all := lw_in 902 rfl rfl
set_option maxRecDepth 20000 in
theorem q903 : Cond.methodLink RX0 125 yX1_placeOf ∈ lw_all := lw_in 903 rfl rfl
set_option maxRecDepth 20000 in
theorem q904 : Cond.instanceMethod yX1_placeOf ∈ lw_all := lw_in 904 rfl rfl
set_option maxRecDepth 20000 in
theorem q905 : Cond.selects RX1 yX1_placeOf yX1_placeOf ∈ lw_all := lw_in 905 rfl rfl
set_option maxRecDepth 20000 in
theorem q906 : Cond.code yX1_placeOf cX1_placeOf 3 (some .int) ∈ lw_all := lw_in 906 rfl rfl
set_option maxRecDepth 20000 in
theorem q907 : Cond.methodLink RX0 128 yX1_fillPlace ∈ lw_all := lw_in 907 rfl rfl
set_option maxRecDepth 20000 in
theorem q908 : Cond.instanceMethod yX1_fillPlace ∈ lw_all := lw_in 908 rfl rfl
set_option maxRecDepth 20000 in
theorem q909 : Cond.selects RX1 yX1_fillPlace yX1_fillPlace ∈ lw_all := lw_in 909 rfl rfl
set_option maxRecDepth 20000 in
theorem q910 : Cond.code yX1_fillPlace cX1_fillPlace 3 none ∈ lw_all := lw_in 910 rfl rfl
set_option maxRecDepth 20000 in
theorem q911 : Cond.methodLink RL 211 yL_inBundle ∈ lw_all := lw_in 911 rfl rfl
set_option maxRecDepth 20000 in
theorem q912 : Cond.static yL_inBundle ∈ lw_all := lw_in 912 rfl rfl
set_option maxRecDepth 20000 in
theorem q914 : Cond.methodLink RL 92 yX8_inBundle ∈ lw_all := lw_in 914 rfl rfl
set_option maxRecDepth 20000 in
theorem q915 : Cond.instanceMethod yX8_inBundle ∈ lw_all := lw_in 915 rfl rfl
set_option maxRecDepth 20000 in
theorem q916 : Cond.selects RX8 yX8_inBundle yX8_inBundle ∈ lw_all := lw_in 916 rfl rfl
set_option maxRecDepth 20000 in
theorem q917 : Cond.code yX8_inBundle cX8_inBundle 3 (some .int) ∈ lw_all := lw_in 917 rfl rfl
set_option maxRecDepth 20000 in
theorem q918 : Cond.methodLink RX8 217 yX8_isPlace ∈ lw_all := lw_in 918 rfl rfl
set_option maxRecDepth 20000 in
theorem q919 : Cond.methodLink RX8 224 yX1_bundledAt ∈ lw_all := lw_in 919 rfl rfl
set_option maxRecDepth 20000 in
theorem q920 : Cond.instanceMethod yX1_bundledAt ∈ lw_all := lw_in 920 rfl rfl
set_option maxRecDepth 20000 in
theorem q921 : Cond.selects RX1 yX1_bundledAt yX1_bundledAt ∈ lw_all := lw_in 921 rfl rfl
set_option maxRecDepth 20000 in
theorem q922 : Cond.code yX1_bundledAt cX1_bundledAt 2 (some .int) ∈ lw_all := lw_in 922 rfl rfl
set_option maxRecDepth 20000 in
theorem q924 : Cond.methodLink RL 214 yL_play ∈ lw_all := lw_in 924 rfl rfl
set_option maxRecDepth 20000 in
theorem q925 : Cond.static yL_play ∈ lw_all := lw_in 925 rfl rfl
set_option maxRecDepth 20000 in
theorem q927 : Cond.methodLink RL 95 yX8_play ∈ lw_all := lw_in 927 rfl rfl
set_option maxRecDepth 20000 in
theorem q928 : Cond.instanceMethod yX8_play ∈ lw_all := lw_in 928 rfl rfl
set_option maxRecDepth 20000 in
theorem q929 : Cond.selects RX8 yX8_play yX8_play ∈ lw_all := lw_in 929 rfl rfl
set_option maxRecDepth 20000 in
theorem q930 : Cond.code yX8_play cX8_play 3 (some .int) ∈ lw_all := lw_in 930 rfl rfl
set_option maxRecDepth 20000 in
theorem q931 : Cond.methodLink RX8 229 yX0_tryPlay ∈ lw_all := lw_in 931 rfl rfl
set_option maxRecDepth 20000 in
theorem q932 : Cond.instanceMethod yX0_tryPlay ∈ lw_all := lw_in 932 rfl rfl
set_option maxRecDepth 20000 in
theorem q933 : Cond.selects RX0 yX0_tryPlay yX0_tryPlay ∈ lw_all := lw_in 933 rfl rfl
set_option maxRecDepth 20000 in
theorem q934 : Cond.code yX0_tryPlay cX0_tryPlay 7 (some .int) ∈ lw_all := lw_in 934 rfl rfl
set_option maxRecDepth 20000 in
theorem q935 : Cond.methodLink RX0 131 yX1_bundledAt ∈ lw_all := lw_in 935 rfl rfl
set_option maxRecDepth 20000 in
theorem q936 : Cond.methodLink RX0 134 yX0_tryPick ∈ lw_all := lw_in 936 rfl rfl
set_option maxRecDepth 20000 in
theorem q937 : Cond.methodLink RL 217 yL_line ∈ lw_all := lw_in 937 rfl rfl
set_option maxRecDepth 20000 in
theorem q938 : Cond.static yL_line ∈ lw_all := lw_in 938 rfl rfl
set_option maxRecDepth 20000 in
theorem q940 : Cond.methodLink RL 98 yX8_line ∈ lw_all := lw_in 940 rfl rfl
set_option maxRecDepth 20000 in
theorem q941 : Cond.instanceMethod yX8_line ∈ lw_all := lw_in 941 rfl rfl
set_option maxRecDepth 20000 in
theorem q942 : Cond.selects RX8 yX8_line yX8_line ∈ lw_all := lw_in 942 rfl rfl
set_option maxRecDepth 20000 in
theorem q943 : Cond.code yX8_line cX8_line 2 (some .int) ∈ lw_all := lw_in 943 rfl rfl
set_option maxRecDepth 20000 in
theorem q944 : Cond.methodLink RX8 232 yX4_write ∈ lw_all := lw_in 944 rfl rfl
set_option maxRecDepth 20000 in
theorem q945 : Cond.instanceMethod yX4_write ∈ lw_all := lw_in 945 rfl rfl
set_option maxRecDepth 20000 in
theorem q946 : Cond.selects RX4 yX4_write yX4_write ∈ lw_all := lw_in 946 rfl rfl
set_option maxRecDepth 20000 in
theorem q947 : Cond.code yX4_write cX4_write 4 (some .int) ∈ lw_all := lw_in 947 rfl rfl
set_option maxRecDepth 20000 in
theorem q948 : Cond.methodLink RX4 23 yX4_addNumber ∈ lw_all := lw_in 948 rfl rfl
set_option maxRecDepth 20000 in
theorem q950 : Cond.instanceMethod yX4_addNumber ∈ lw_all := lw_in 950 rfl rfl
set_option maxRecDepth 20000 in
theorem q951 : Cond.code yX4_addNumber cX4_addNumber 2 none ∈ lw_all := lw_in 951 rfl rfl
set_option maxRecDepth 20000 in
theorem q952 : Cond.methodLink RX4 27 yX4_addSign ∈ lw_all := lw_in 952 rfl rfl
set_option maxRecDepth 20000 in
theorem q954 : Cond.instanceMethod yX4_addSign ∈ lw_all := lw_in 954 rfl rfl
set_option maxRecDepth 20000 in
theorem q955 : Cond.code yX4_addSign cX4_addSign 2 none ∈ lw_all := lw_in 955 rfl rfl
set_option maxRecDepth 20000 in
theorem q956 : Cond.methodLink RX4 31 yX1_kindOf ∈ lw_all := lw_in 956 rfl rfl
set_option maxRecDepth 20000 in
theorem q957 : Cond.methodLink RX4 37 yX4_letterOf ∈ lw_all := lw_in 957 rfl rfl
set_option maxRecDepth 20000 in
theorem q958 : Cond.static yX4_letterOf ∈ lw_all := lw_in 958 rfl rfl
set_option maxRecDepth 20000 in
theorem q959 : Cond.code yX4_letterOf cX4_letterOf 1 (some .char) ∈ lw_all := lw_in 959 rfl rfl
set_option maxRecDepth 20000 in
theorem q960 : Cond.methodLink RX4 41 yX1_amountIn ∈ lw_all := lw_in 960 rfl rfl
set_option maxRecDepth 20000 in
theorem q961 : Cond.methodLink RL 220 yL_character ∈ lw_all := lw_in 961 rfl rfl
set_option maxRecDepth 20000 in
theorem q962 : Cond.static yL_character ∈ lw_all := lw_in 962 rfl rfl
set_option maxRecDepth 20000 in
theorem q964 : Cond.methodLink RL 101 yX8_character ∈ lw_all := lw_in 964 rfl rfl
set_option maxRecDepth 20000 in
theorem q965 : Cond.instanceMethod yX8_character ∈ lw_all := lw_in 965 rfl rfl
set_option maxRecDepth 20000 in
theorem q966 : Cond.selects RX8 yX8_character yX8_character ∈ lw_all := lw_in 966 rfl rfl
set_option maxRecDepth 20000 in
theorem q967 : Cond.code yX8_character cX8_character 2 (some .char) ∈ lw_all := lw_in 967 rfl rfl
set_option maxRecDepth 20000 in
theorem q968 : Cond.methodLink RX8 235 yX4_has ∈ lw_all := lw_in 968 rfl rfl
set_option maxRecDepth 20000 in
theorem q969 : Cond.instanceMethod yX4_has ∈ lw_all := lw_in 969 rfl rfl
set_option maxRecDepth 20000 in
theorem q970 : Cond.selects RX4 yX4_has yX4_has ∈ lw_all := lw_in 970 rfl rfl
set_option maxRecDepth 20000 in
theorem q971 : Cond.code yX4_has cX4_has 2 (some .boolean) ∈ lw_all := lw_in 971 rfl rfl
set_option maxRecDepth 20000 in
theorem q973 : Cond.methodLink RX8 240 yX4_signAt ∈ lw_all := lw_in 973 rfl rfl
set_option maxRecDepth 20000 in
theorem q974 : Cond.instanceMethod yX4_signAt ∈ lw_all := lw_in 974 rfl rfl
set_option maxRecDepth 20000 in
theorem q975 : Cond.selects RX4 yX4_signAt yX4_signAt ∈ lw_all := lw_in 975 rfl rfl
set_option maxRecDepth 20000 in
theorem q976 : Cond.code yX4_signAt cX4_signAt 2 (some .char) ∈ lw_all := lw_in 976 rfl rfl
set_option maxRecDepth 20000 in
theorem q977 : Cond.methodLink RX4 19 yX4_has ∈ lw_all := lw_in 977 rfl rfl
set_option maxRecDepth 20000 in
theorem q978 : Cond.methodLink RL 223 yL_append ∈ lw_all := lw_in 978 rfl rfl
set_option maxRecDepth 20000 in
theorem q979 : Cond.static yL_append ∈ lw_all := lw_in 979 rfl rfl
set_option maxRecDepth 20000 in
theorem q981 : Cond.classLink RL 109 "java/lang/IllegalStateException" ∈ lw_all := lw_in 981 rfl rfl
set_option maxRecDepth 20000 in
theorem q982 : Cond.methodLink RL 105 yX8_append ∈ lw_all := lw_in 982 rfl rfl
set_option maxRecDepth 20000 in
theorem q983 : Cond.instanceMethod yX8_append ∈ lw_all := lw_in 983 rfl rfl
set_option maxRecDepth 20000 in
theorem q984 : Cond.selects RX8 yX8_append yX8_append ∈ lw_all := lw_in 984 rfl rfl
set_option maxRecDepth 20000 in
theorem q985 : Cond.code yX8_append cX8_append 2 (some .int) ∈ lw_all := lw_in 985 rfl rfl
set_option maxRecDepth 20000 in
theorem q986 : Cond.methodLink RX8 244 yX3_isFull ∈ lw_all := lw_in 986 rfl rfl
set_option maxRecDepth 20000 in
theorem q987 : Cond.instanceMethod yX3_isFull ∈ lw_all := lw_in 987 rfl rfl
set_option maxRecDepth 20000 in
theorem q988 : Cond.selects RX3 yX3_isFull yX3_isFull ∈ lw_all := lw_in 988 rfl rfl
set_option maxRecDepth 20000 in
theorem q989 : Cond.code yX3_isFull cX3_isFull 1 (some .boolean) ∈ lw_all := lw_in 989 rfl rfl
set_option maxRecDepth 20000 in
theorem q990 : Cond.classLink RX8 248 "java/lang/IllegalStateException" ∈ lw_all := lw_in 990 rfl rfl
set_option maxRecDepth 20000 in
theorem q991 : Cond.instantiable "java/lang/IllegalStateException" 6 ∈ lw_all := lw_in 991 rfl rfl
set_option maxRecDepth 20000 in
theorem q1000 : Cond.methodLink RX8 252 ⟨"java/lang/IllegalStateException", "<init>", "(Ljava/lang/String;)V"⟩ ∈ lw_all := lw_in 1000 rfl rfl
set_option maxRecDepth 20000 in
theorem q1001 : Cond.instanceMethod ⟨"java/lang/IllegalStateException", "<init>", "(Ljava/lang/String;)V"⟩ ∈ lw_all := lw_in 1001 rfl rfl
set_option maxRecDepth 20000 in
theorem q1003 : Cond.methodLink "java/lang/IllegalStateException" 7 ⟨"java/lang/RuntimeException", "<init>", "(Ljava/lang/String;)V"⟩ ∈ lw_all := lw_in 1003 rfl rfl
set_option maxRecDepth 20000 in
theorem q1006 : Cond.methodLink RX8 253 yX3_add ∈ lw_all := lw_in 1006 rfl rfl
set_option maxRecDepth 20000 in
theorem q1007 : Cond.instanceMethod yX3_add ∈ lw_all := lw_in 1007 rfl rfl
set_option maxRecDepth 20000 in
theorem q1008 : Cond.selects RX3 yX3_add yX3_add ∈ lw_all := lw_in 1008 rfl rfl
set_option maxRecDepth 20000 in
theorem q1009 : Cond.code yX3_add cX3_add 2 (some .int) ∈ lw_all := lw_in 1009 rfl rfl
set_option maxRecDepth 20000 in
theorem q1010 : Cond.methodLink RL 227 yL_read ∈ lw_all := lw_in 1010 rfl rfl
set_option maxRecDepth 20000 in
theorem q1011 : Cond.static yL_read ∈ lw_all := lw_in 1011 rfl rfl
set_option maxRecDepth 20000 in
theorem q1013 : Cond.methodLink RL 111 yX8_read ∈ lw_all := lw_in 1013 rfl rfl
set_option maxRecDepth 20000 in
theorem q1014 : Cond.instanceMethod yX8_read ∈ lw_all := lw_in 1014 rfl rfl
set_option maxRecDepth 20000 in
theorem q1015 : Cond.selects RX8 yX8_read yX8_read ∈ lw_all := lw_in 1015 rfl rfl
set_option maxRecDepth 20000 in
theorem q1016 : Cond.code yX8_read cX8_read 1 (some .int) ∈ lw_all := lw_in 1016 rfl rfl
set_option maxRecDepth 20000 in
theorem q1017 : Cond.methodLink RX8 257 yX6_parse ∈ lw_all := lw_in 1017 rfl rfl
set_option maxRecDepth 20000 in
theorem q1018 : Cond.instanceMethod yX6_parse ∈ lw_all := lw_in 1018 rfl rfl
set_option maxRecDepth 20000 in
theorem q1019 : Cond.selects RX6 yX6_parse yX6_parse ∈ lw_all := lw_in 1019 rfl rfl
set_option maxRecDepth 20000 in
theorem q1020 : Cond.code yX6_parse cX6_parse 4 (some .int) ∈ lw_all := lw_in 1020 rfl rfl
set_option maxRecDepth 20000 in
theorem q1021 : Cond.methodLink RX6 25 yX6_parseOrder ∈ lw_all := lw_in 1021 rfl rfl
set_option maxRecDepth 20000 in
theorem q1023 : Cond.instanceMethod yX6_parseOrder ∈ lw_all := lw_in 1023 rfl rfl
set_option maxRecDepth 20000 in
theorem q1024 : Cond.code yX6_parseOrder cX6_parseOrder 5 (some .boolean) ∈ lw_all := lw_in 1024 rfl rfl
set_option maxRecDepth 20000 in
theorem q1025 : Cond.methodLink RX6 29 yX3_signAt ∈ lw_all := lw_in 1025 rfl rfl
set_option maxRecDepth 20000 in
theorem q1026 : Cond.instanceMethod yX3_signAt ∈ lw_all := lw_in 1026 rfl rfl
set_option maxRecDepth 20000 in
theorem q1027 : Cond.selects RX3 yX3_signAt yX3_signAt ∈ lw_all := lw_in 1027 rfl rfl
set_option maxRecDepth 20000 in
theorem q1028 : Cond.code yX3_signAt cX3_signAt 2 (some .int) ∈ lw_all := lw_in 1028 rfl rfl
set_option maxRecDepth 20000 in
theorem q1029 : Cond.methodLink RX6 39 yX6_shapeOf ∈ lw_all := lw_in 1029 rfl rfl
set_option maxRecDepth 20000 in
theorem q1030 : Cond.static yX6_shapeOf ∈ lw_all := lw_in 1030 rfl rfl
set_option maxRecDepth 20000 in
theorem q1031 : Cond.code yX6_shapeOf cX6_shapeOf 1 (some (.object "java/lang/String")) ∈ lw_all := lw_in 1031 rfl rfl
set_option maxRecDepth 20000 in
theorem q1038 : Cond.methodLink RX6 43 yJ0_isEmpty_aae02 ∈ lw_all := lw_in 1038 rfl rfl
set_option maxRecDepth 20000 in
theorem q1039 : Cond.instanceMethod yJ0_isEmpty_aae02 ∈ lw_all := lw_in 1039 rfl rfl
set_option maxRecDepth 20000 in
theorem q1040 : Cond.selects RJ0 yJ0_isEmpty_aae02 yJ0_isEmpty_aae02 ∈ lw_all := lw_in 1040 rfl rfl
set_option maxRecDepth 20000 in
theorem q1041 : Cond.code yJ0_isEmpty_aae02 cJ0_isEmpty_aae02 1 (some .boolean) ∈ lw_all := lw_in 1041 rfl rfl
set_option maxRecDepth 20000 in
theorem q1042 : Cond.methodLink RX6 49 yX6_store ∈ lw_all := lw_in 1042 rfl rfl
set_option maxRecDepth 20000 in
theorem q1044 : Cond.instanceMethod yX6_store ∈ lw_all := lw_in 1044 rfl rfl
set_option maxRecDepth 20000 in
theorem q1045 : Cond.code yX6_store cX6_store 3 none ∈ lw_all := lw_in 1045 rfl rfl
set_option maxRecDepth 20000 in
theorem q1046 : Cond.methodLink RX6 53 yJ0_length_8abf5 ∈ lw_all := lw_in 1046 rfl rfl
set_option maxRecDepth 20000 in
theorem q1047 : Cond.instanceMethod yJ0_length_8abf5 ∈ lw_all := lw_in 1047 rfl rfl
set_option maxRecDepth 20000 in
theorem q1048 : Cond.selects RJ0 yJ0_length_8abf5 yJ0_length_8abf5 ∈ lw_all := lw_in 1048 rfl rfl
set_option maxRecDepth 20000 in
theorem q1049 : Cond.code yJ0_length_8abf5 cJ0_length_8abf5 1 (some .int) ∈ lw_all := lw_in 1049 rfl rfl
set_option maxRecDepth 20000 in
theorem q1050 : Cond.methodLink RJ0 335 yJ0_coder_7d493 ∈ lw_all := lw_in 1050 rfl rfl
set_option maxRecDepth 20000 in
theorem q1051 : Cond.instanceMethod yJ0_coder_7d493 ∈ lw_all := lw_in 1051 rfl rfl
set_option maxRecDepth 20000 in
theorem q1052 : Cond.selects RJ0 yJ0_coder_7d493 yJ0_coder_7d493 ∈ lw_all := lw_in 1052 rfl rfl
set_option maxRecDepth 20000 in
theorem q1053 : Cond.code yJ0_coder_7d493 cJ0_coder_7d493 1 (some .byte) ∈ lw_all := lw_in 1053 rfl rfl
set_option maxRecDepth 20000 in
theorem q1054 : Cond.fieldLink RJ0 38 "java/lang/String" "COMPACT_STRINGS" "Z" ∈ lw_all := lw_in 1054 rfl rfl
set_option maxRecDepth 20000 in
theorem q1056 : Cond.methodLink RX6 57 yJ0_charAt_5068e ∈ lw_all := lw_in 1056 rfl rfl
set_option maxRecDepth 20000 in
theorem q1057 : Cond.instanceMethod yJ0_charAt_5068e ∈ lw_all := lw_in 1057 rfl rfl
set_option maxRecDepth 20000 in
theorem q1058 : Cond.selects RJ0 yJ0_charAt_5068e yJ0_charAt_5068e ∈ lw_all := lw_in 1058 rfl rfl
set_option maxRecDepth 20000 in
theorem q1059 : Cond.code yJ0_charAt_5068e cJ0_charAt_5068e 2 (some .char) ∈ lw_all := lw_in 1059 rfl rfl
set_option maxRecDepth 20000 in
theorem q1060 : Cond.methodLink RJ0 492 yJ0_isLatin1_aae02 ∈ lw_all := lw_in 1060 rfl rfl
set_option maxRecDepth 20000 in
theorem q1061 : Cond.instanceMethod yJ0_isLatin1_aae02 ∈ lw_all := lw_in 1061 rfl rfl
set_option maxRecDepth 20000 in
theorem q1062 : Cond.selects RJ0 yJ0_isLatin1_aae02 yJ0_isLatin1_aae02 ∈ lw_all := lw_in 1062 rfl rfl
set_option maxRecDepth 20000 in
theorem q1063 : Cond.code yJ0_isLatin1_aae02 cJ0_isLatin1_aae02 1 (some .boolean) ∈ lw_all := lw_in 1063 rfl rfl
set_option maxRecDepth 20000 in
theorem q1064 : Cond.methodLink RJ0 495 yJ1_charAt_3b067 ∈ lw_all := lw_in 1064 rfl rfl
set_option maxRecDepth 20000 in
theorem q1065 : Cond.static yJ1_charAt_3b067 ∈ lw_all := lw_in 1065 rfl rfl
set_option maxRecDepth 20000 in
theorem q1066 : Cond.code yJ1_charAt_3b067 cJ1_charAt_3b067 2 (some .char) ∈ lw_all := lw_in 1066 rfl rfl
set_option maxRecDepth 20000 in
theorem q1067 : Cond.methodLink RJ1 9 yJ0_checkIndex_df160 ∈ lw_all := lw_in 1067 rfl rfl
set_option maxRecDepth 20000 in
theorem q1068 : Cond.static yJ0_checkIndex_df160 ∈ lw_all := lw_in 1068 rfl rfl
set_option maxRecDepth 20000 in
theorem q1069 : Cond.code yJ0_checkIndex_df160 cJ0_checkIndex_df160 2 none ∈ lw_all := lw_in 1069 rfl rfl
set_option maxRecDepth 20000 in
theorem q1070 : Cond.fieldLink RJ0 1053 "jdk/internal/util/Preconditions" "SIOOBE_FORMATTER" "Ljava/util/function/BiFunction;" ∈ lw_all := lw_in 1070 rfl rfl
set_option maxRecDepth 20000 in
theorem q1072 : Cond.methodLink RJ0 1059 yJ3_checkIndex_8e157 ∈ lw_all := lw_in 1072 rfl rfl
set_option maxRecDepth 20000 in
theorem q1073 : Cond.static yJ3_checkIndex_8e157 ∈ lw_all := lw_in 1073 rfl rfl
set_option maxRecDepth 20000 in
theorem q1074 : Cond.code yJ3_checkIndex_8e157 cJ3_checkIndex_8e157 3 (some .int) ∈ lw_all := lw_in 1074 rfl rfl
set_option maxRecDepth 20000 in
theorem q1075 : Cond.methodLink RJ0 498 yJ2_charAt_3b067 ∈ lw_all := lw_in 1075 rfl rfl
set_option maxRecDepth 20000 in
theorem q1076 : Cond.static yJ2_charAt_3b067 ∈ lw_all := lw_in 1076 rfl rfl
set_option maxRecDepth 20000 in
theorem q1077 : Cond.code yJ2_charAt_3b067 cJ2_charAt_3b067 2 (some .char) ∈ lw_all := lw_in 1077 rfl rfl
set_option maxRecDepth 20000 in
theorem q1078 : Cond.methodLink RJ2 67 yJ2_checkIndex_2214a ∈ lw_all := lw_in 1078 rfl rfl
set_option maxRecDepth 20000 in
theorem q1079 : Cond.static yJ2_checkIndex_2214a ∈ lw_all := lw_in 1079 rfl rfl
set_option maxRecDepth 20000 in
theorem q1080 : Cond.code yJ2_checkIndex_2214a cJ2_checkIndex_2214a 2 none ∈ lw_all := lw_in 1080 rfl rfl
set_option maxRecDepth 20000 in
theorem q1081 : Cond.methodLink RJ2 48 yJ2_length_9d52b ∈ lw_all := lw_in 1081 rfl rfl
set_option maxRecDepth 20000 in
theorem q1082 : Cond.static yJ2_length_9d52b ∈ lw_all := lw_in 1082 rfl rfl
set_option maxRecDepth 20000 in
theorem q1083 : Cond.code yJ2_length_9d52b cJ2_length_9d52b 1 (some .int) ∈ lw_all := lw_in 1083 rfl rfl
set_option maxRecDepth 20000 in
theorem q1084 : Cond.methodLink RJ2 414 yJ0_checkIndex_df160 ∈ lw_all := lw_in 1084 rfl rfl
set_option maxRecDepth 20000 in
theorem q1085 : Cond.methodLink RJ2 71 yJ2_getChar_3b067 ∈ lw_all := lw_in 1085 rfl rfl
set_option maxRecDepth 20000 in
theorem q1086 : Cond.static yJ2_getChar_3b067 ∈ lw_all := lw_in 1086 rfl rfl
set_option maxRecDepth 20000 in
theorem q1087 : Cond.code yJ2_getChar_3b067 cJ2_getChar_3b067 2 (some .char) ∈ lw_all := lw_in 1087 rfl rfl
set_option maxRecDepth 20000 in
theorem q1088 : Cond.fieldLink RJ2 44 "java/lang/StringUTF16" "$assertionsDisabled" "Z" ∈ lw_all := lw_in 1088 rfl rfl
set_option maxRecDepth 20000 in
theorem q1090 : Cond.fieldLink RJ2 59 "java/lang/StringUTF16" "HI_BYTE_SHIFT" "I" ∈ lw_all := lw_in 1090 rfl rfl
set_option maxRecDepth 20000 in
theorem q1092 : Cond.fieldLink RJ2 63 "java/lang/StringUTF16" "LO_BYTE_SHIFT" "I" ∈ lw_all := lw_in 1092 rfl rfl
set_option maxRecDepth 20000 in
theorem q1094 : Cond.methodLink RX6 61 yX6_parseSign ∈ lw_all := lw_in 1094 rfl rfl
set_option maxRecDepth 20000 in
theorem q1096 : Cond.instanceMethod yX6_parseSign ∈ lw_all := lw_in 1096 rfl rfl
set_option maxRecDepth 20000 in
theorem q1097 : Cond.code yX6_parseSign cX6_parseSign 6 (some .boolean) ∈ lw_all := lw_in 1097 rfl rfl
set_option maxRecDepth 20000 in
theorem q1098 : Cond.methodLink RX6 77 yX6_isDigit ∈ lw_all := lw_in 1098 rfl rfl
set_option maxRecDepth 20000 in
theorem q1099 : Cond.static yX6_isDigit ∈ lw_all := lw_in 1099 rfl rfl
set_option maxRecDepth 20000 in
theorem q1100 : Cond.code yX6_isDigit cX6_isDigit 1 (some .boolean) ∈ lw_all := lw_in 1100 rfl rfl
set_option maxRecDepth 20000 in
theorem q1101 : Cond.methodLink RX8 261 yX3_clear ∈ lw_all := lw_in 1101 rfl rfl
set_option maxRecDepth 20000 in
theorem q1102 : Cond.instanceMethod yX3_clear ∈ lw_all := lw_in 1102 rfl rfl
set_option maxRecDepth 20000 in
theorem q1103 : Cond.selects RX3 yX3_clear yX3_clear ∈ lw_all := lw_in 1103 rfl rfl
set_option maxRecDepth 20000 in
theorem q1104 : Cond.code yX3_clear cX3_clear 1 none ∈ lw_all := lw_in 1104 rfl rfl
set_option maxRecDepth 20000 in
theorem q1106 : Cond.methodLink RX8 266 yX6_carryOut ∈ lw_all := lw_in 1106 rfl rfl
set_option maxRecDepth 20000 in
theorem q1107 : Cond.instanceMethod yX6_carryOut ∈ lw_all := lw_in 1107 rfl rfl
set_option maxRecDepth 20000 in
theorem q1108 : Cond.selects RX6 yX6_carryOut yX6_carryOut ∈ lw_all := lw_in 1108 rfl rfl
set_option maxRecDepth 20000 in
theorem q1109 : Cond.code yX6_carryOut cX6_carryOut 4 (some .int) ∈ lw_all := lw_in 1109 rfl rfl
set_option maxRecDepth 20000 in
theorem q1110 : Cond.methodLink RX6 35 yX6_carryOutOrder ∈ lw_all := lw_in 1110 rfl rfl
set_option maxRecDepth 20000 in
theorem q1112 : Cond.instanceMethod yX6_carryOutOrder ∈ lw_all := lw_in 1112 rfl rfl
set_option maxRecDepth 20000 in
theorem q1113 : Cond.code yX6_carryOutOrder cX6_carryOutOrder 6 (some .int) ∈ lw_all := lw_in 1113 rfl rfl
set_option maxRecDepth 20000 in
theorem q1114 : Cond.methodLink RX6 81 yX6_numberAt ∈ lw_all := lw_in 1114 rfl rfl
set_option maxRecDepth 20000 in
theorem q1116 : Cond.instanceMethod yX6_numberAt ∈ lw_all := lw_in 1116 rfl rfl
set_option maxRecDepth 20000 in
theorem q1117 : Cond.code yX6_numberAt cX6_numberAt 4 (some .int) ∈ lw_all := lw_in 1117 rfl rfl
set_option maxRecDepth 20000 in
theorem q1118 : Cond.methodLink RX6 85 yX0_tryEdit ∈ lw_all := lw_in 1118 rfl rfl
set_option maxRecDepth 20000 in
theorem q1119 : Cond.methodLink RX6 91 yX0_tryFork ∈ lw_all := lw_in 1119 rfl rfl
set_option maxRecDepth 20000 in
theorem q1120 : Cond.methodLink RX6 94 yX0_tryMerge ∈ lw_all := lw_in 1120 rfl rfl
set_option maxRecDepth 20000 in
theorem q1121 : Cond.methodLink RX6 97 yX0_tryPick ∈ lw_all := lw_in 1121 rfl rfl
set_option maxRecDepth 20000 in
theorem q1122 : Cond.methodLink RX6 100 yX0_tryRevert ∈ lw_all := lw_in 1122 rfl rfl
set_option maxRecDepth 20000 in
theorem q1123 : Cond.methodLink RX6 103 yX0_tryReset ∈ lw_all := lw_in 1123 rfl rfl
set_option maxRecDepth 20000 in
theorem q1124 : Cond.methodLink RL 235 yL_refusal ∈ lw_all := lw_in 1124 rfl rfl
set_option maxRecDepth 20000 in
theorem q1125 : Cond.static yL_refusal ∈ lw_all := lw_in 1125 rfl rfl
set_option maxRecDepth 20000 in
theorem q1127 : Cond.methodLink RL 115 yX8_refusal ∈ lw_all := lw_in 1127 rfl rfl
set_option maxRecDepth 20000 in
theorem q1128 : Cond.instanceMethod yX8_refusal ∈ lw_all := lw_in 1128 rfl rfl
set_option maxRecDepth 20000 in
theorem q1129 : Cond.selects RX8 yX8_refusal yX8_refusal ∈ lw_all := lw_in 1129 rfl rfl
set_option maxRecDepth 20000 in
theorem q1130 : Cond.code yX8_refusal cX8_refusal 2 (some .int) ∈ lw_all := lw_in 1130 rfl rfl
set_option maxRecDepth 20000 in
theorem q1131 : Cond.methodLink RX8 270 yX0_latestReason ∈ lw_all := lw_in 1131 rfl rfl
set_option maxRecDepth 20000 in
theorem q1132 : Cond.instanceMethod yX0_latestReason ∈ lw_all := lw_in 1132 rfl rfl
set_option maxRecDepth 20000 in
theorem q1133 : Cond.selects RX0 yX0_latestReason yX0_latestReason ∈ lw_all := lw_in 1133 rfl rfl
set_option maxRecDepth 20000 in
theorem q1134 : Cond.code yX0_latestReason cX0_latestReason 1 (some .int) ∈ lw_all := lw_in 1134 rfl rfl
set_option maxRecDepth 20000 in
theorem q1136 : Cond.methodLink RX8 275 yX0_latestDetail ∈ lw_all := lw_in 1136 rfl rfl
set_option maxRecDepth 20000 in
theorem q1137 : Cond.instanceMethod yX0_latestDetail ∈ lw_all := lw_in 1137 rfl rfl
set_option maxRecDepth 20000 in
theorem q1138 : Cond.selects RX0 yX0_latestDetail yX0_latestDetail ∈ lw_all := lw_in 1138 rfl rfl
set_option maxRecDepth 20000 in
theorem q1139 : Cond.code yX0_latestDetail cX0_latestDetail 1 (some .int) ∈ lw_all := lw_in 1139 rfl rfl
set_option maxRecDepth 20000 in
theorem q1140 : Cond.methodLink RL 239 yL_account ∈ lw_all := lw_in 1140 rfl rfl
set_option maxRecDepth 20000 in
theorem q1141 : Cond.static yL_account ∈ lw_all := lw_in 1141 rfl rfl
set_option maxRecDepth 20000 in
theorem q1143 : Cond.methodLink RL 119 yX8_account ∈ lw_all := lw_in 1143 rfl rfl
set_option maxRecDepth 20000 in
theorem q1144 : Cond.instanceMethod yX8_account ∈ lw_all := lw_in 1144 rfl rfl
set_option maxRecDepth 20000 in
theorem q1145 : Cond.selects RX8 yX8_account yX8_account ∈ lw_all := lw_in 1145 rfl rfl
set_option maxRecDepth 20000 in
theorem q1146 : Cond.code yX8_account cX8_account 2 (some .int) ∈ lw_all := lw_in 1146 rfl rfl
set_option maxRecDepth 20000 in
theorem q1147 : Cond.methodLink RX8 287 yX1_countLost ∈ lw_all := lw_in 1147 rfl rfl
set_option maxRecDepth 20000 in
theorem q1148 : Cond.instanceMethod yX1_countLost ∈ lw_all := lw_in 1148 rfl rfl
set_option maxRecDepth 20000 in
theorem q1149 : Cond.selects RX1 yX1_countLost yX1_countLost ∈ lw_all := lw_in 1149 rfl rfl
set_option maxRecDepth 20000 in
theorem q1150 : Cond.code yX1_countLost cX1_countLost 3 (some .int) ∈ lw_all := lw_in 1150 rfl rfl
set_option maxRecDepth 20000 in
theorem q1151 : Cond.methodLink RX1 101 yX1_tipOf ∈ lw_all := lw_in 1151 rfl rfl
set_option maxRecDepth 20000 in
theorem q1152 : Cond.methodLink RX1 104 yJ6_bitCount_0f7a4 ∈ lw_all := lw_in 1152 rfl rfl
set_option maxRecDepth 20000 in
theorem q1153 : Cond.methodLink RX8 290 yX1_bundleKind ∈ lw_all := lw_in 1153 rfl rfl
set_option maxRecDepth 20000 in
theorem q1154 : Cond.methodLink RX8 293 yX1_bundledCount ∈ lw_all := lw_in 1154 rfl rfl
set_option maxRecDepth 20000 in
theorem q1155 : Cond.methodLink RX8 296 yX1_sumOfTips ∈ lw_all := lw_in 1155 rfl rfl
set_option maxRecDepth 20000 in
theorem q1156 : Cond.instanceMethod yX1_sumOfTips ∈ lw_all := lw_in 1156 rfl rfl
set_option maxRecDepth 20000 in
theorem q1157 : Cond.selects RX1 yX1_sumOfTips yX1_sumOfTips ∈ lw_all := lw_in 1157 rfl rfl
set_option maxRecDepth 20000 in
theorem q1158 : Cond.code yX1_sumOfTips cX1_sumOfTips 4 (some .int) ∈ lw_all := lw_in 1158 rfl rfl
set_option maxRecDepth 20000 in
theorem q1159 : Cond.methodLink RX8 299 yX3_size ∈ lw_all := lw_in 1159 rfl rfl
set_option maxRecDepth 20000 in
theorem q1160 : Cond.instanceMethod yX3_size ∈ lw_all := lw_in 1160 rfl rfl
set_option maxRecDepth 20000 in
theorem q1161 : Cond.selects RX3 yX3_size yX3_size ∈ lw_all := lw_in 1161 rfl rfl
set_option maxRecDepth 20000 in
theorem q1162 : Cond.code yX3_size cX3_size 1 (some .int) ∈ lw_all := lw_in 1162 rfl rfl
set_option maxRecDepth 20000 in
theorem q1163 : Cond.methodLink RX8 302 yX2_size ∈ lw_all := lw_in 1163 rfl rfl
set_option maxRecDepth 20000 in
theorem q1164 : Cond.instanceMethod yX2_size ∈ lw_all := lw_in 1164 rfl rfl
set_option maxRecDepth 20000 in
theorem q1165 : Cond.selects RX2 yX2_size yX2_size ∈ lw_all := lw_in 1165 rfl rfl
set_option maxRecDepth 20000 in
theorem q1166 : Cond.code yX2_size cX2_size 1 (some .int) ∈ lw_all := lw_in 1166 rfl rfl
set_option maxRecDepth 20000 in
theorem q1168 : Cond.methodLink RL 257 yL_undo ∈ lw_all := lw_in 1168 rfl rfl
set_option maxRecDepth 20000 in
theorem q1169 : Cond.static yL_undo ∈ lw_all := lw_in 1169 rfl rfl
set_option maxRecDepth 20000 in
theorem q1171 : Cond.methodLink RL 122 yX8_undo ∈ lw_all := lw_in 1171 rfl rfl
set_option maxRecDepth 20000 in
theorem q1172 : Cond.instanceMethod yX8_undo ∈ lw_all := lw_in 1172 rfl rfl
set_option maxRecDepth 20000 in
theorem q1173 : Cond.selects RX8 yX8_undo yX8_undo ∈ lw_all := lw_in 1173 rfl rfl
set_option maxRecDepth 20000 in
theorem q1174 : Cond.code yX8_undo cX8_undo 1 (some .int) ∈ lw_all := lw_in 1174 rfl rfl
set_option maxRecDepth 20000 in
theorem q1176 : Cond.methodLink RX8 313 yX2_takeBack ∈ lw_all := lw_in 1176 rfl rfl
set_option maxRecDepth 20000 in
theorem q1177 : Cond.instanceMethod yX2_takeBack ∈ lw_all := lw_in 1177 rfl rfl
set_option maxRecDepth 20000 in
theorem q1178 : Cond.selects RX2 yX2_takeBack yX2_takeBack ∈ lw_all := lw_in 1178 rfl rfl
set_option maxRecDepth 20000 in
theorem q1179 : Cond.code yX2_takeBack cX2_takeBack 4 (some .int) ∈ lw_all := lw_in 1179 rfl rfl
set_option maxRecDepth 20000 in
theorem q1180 : Cond.methodLink RL 264 yL_restore ∈ lw_all := lw_in 1180 rfl rfl
set_option maxRecDepth 20000 in
theorem q1181 : Cond.static yL_restore ∈ lw_all := lw_in 1181 rfl rfl
set_option maxRecDepth 20000 in
theorem q1183 : Cond.methodLink RL 125 yX8_restore ∈ lw_all := lw_in 1183 rfl rfl
set_option maxRecDepth 20000 in
theorem q1184 : Cond.instanceMethod yX8_restore ∈ lw_all := lw_in 1184 rfl rfl
set_option maxRecDepth 20000 in
theorem q1185 : Cond.selects RX8 yX8_restore yX8_restore ∈ lw_all := lw_in 1185 rfl rfl
set_option maxRecDepth 20000 in
theorem q1186 : Cond.code yX8_restore cX8_restore 1 (some .int) ∈ lw_all := lw_in 1186 rfl rfl
set_option maxRecDepth 20000 in
theorem q1188 : Cond.methodLink RX8 318 yX2_forgetAll ∈ lw_all := lw_in 1188 rfl rfl
set_option maxRecDepth 20000 in
theorem q1189 : Cond.instanceMethod yX2_forgetAll ∈ lw_all := lw_in 1189 rfl rfl
set_option maxRecDepth 20000 in
theorem q1190 : Cond.selects RX2 yX2_forgetAll yX2_forgetAll ∈ lw_all := lw_in 1190 rfl rfl
set_option maxRecDepth 20000 in
theorem q1191 : Cond.code yX2_forgetAll cX2_forgetAll 1 none ∈ lw_all := lw_in 1191 rfl rfl
set_option maxRecDepth 20000 in
theorem q1192 : Cond.classLink RL 129 RX9 ∈ lw_all := lw_in 1192 rfl rfl
set_option maxRecDepth 20000 in
theorem q1193 : Cond.instantiable RX9 21 ∈ lw_all := lw_in 1193 rfl rfl
set_option maxRecDepth 20000 in
theorem q1194 : Cond.methodLink RL 131 yX9_init ∈ lw_all := lw_in 1194 rfl rfl
set_option maxRecDepth 20000 in
theorem q1195 : Cond.instanceMethod yX9_init ∈ lw_all := lw_in 1195 rfl rfl
set_option maxRecDepth 20000 in
theorem q1196 : Cond.code yX9_init cX9_init 1 none ∈ lw_all := lw_in 1196 rfl rfl
set_option maxRecDepth 20000 in
theorem q1197 : Cond.methodLink RX9 3 Lib.objectInit ∈ lw_all := lw_in 1197 rfl rfl
set_option maxRecDepth 20000 in
theorem q1198 : Cond.fieldLink RX9 9 "RecipeForestsModel" "now" "[I" ∈ lw_all := lw_in 1198 rfl rfl
set_option maxRecDepth 20000 in
theorem q1199 : Cond.fieldLink RX9 13 "RecipeForestsModel" "tried" "[I" ∈ lw_all := lw_in 1199 rfl rfl
set_option maxRecDepth 20000 in
theorem q1200 : Cond.fieldLink RX9 16 "RecipeForestsModel" "kept" "[I" ∈ lw_all := lw_in 1200 rfl rfl
set_option maxRecDepth 20000 in
theorem q1201 : Cond.fieldLink RX9 42 "RecipeForestsModel" "undos" "I" ∈ lw_all := lw_in 1201 rfl rfl
set_option maxRecDepth 20000 in
theorem q1202 : Cond.fieldLink RX9 19 "RecipeForestsModel" "saved" "[I" ∈ lw_all := lw_in 1202 rfl rfl
set_option maxRecDepth 20000 in
theorem q1203 : Cond.fieldLink RX9 245 "RecipeForestsModel" "isSaved" "Z" ∈ lw_all := lw_in 1203 rfl rfl
set_option maxRecDepth 20000 in
theorem q1204 : Cond.fieldLink RX9 22 "RecipeForestsModel" "line" "[C" ∈ lw_all := lw_in 1204 rfl rfl
set_option maxRecDepth 20000 in
theorem q1205 : Cond.fieldLink RX9 204 "RecipeForestsModel" "lined" "I" ∈ lw_all := lw_in 1205 rfl rfl
set_option maxRecDepth 20000 in
theorem q1206 : Cond.fieldLink RX9 26 "RecipeForestsModel" "text" "[C" ∈ lw_all := lw_in 1206 rfl rfl
set_option maxRecDepth 20000 in
theorem q1207 : Cond.fieldLink RX9 218 "RecipeForestsModel" "length" "I" ∈ lw_all := lw_in 1207 rfl rfl
set_option maxRecDepth 20000 in
theorem q1208 : Cond.fieldLink RX9 221 "RecipeForestsModel" "at" "I" ∈ lw_all := lw_in 1208 rfl rfl
set_option maxRecDepth 20000 in
theorem q1209 : Cond.fieldLink RX9 224 "RecipeForestsModel" "order" "C" ∈ lw_all := lw_in 1209 rfl rfl
set_option maxRecDepth 20000 in
theorem q1210 : Cond.fieldLink RX9 29 "RecipeForestsModel" "told" "[I" ∈ lw_all := lw_in 1210 rfl rfl
set_option maxRecDepth 20000 in
theorem q1211 : Cond.fieldLink RX9 32 "RecipeForestsModel" "error" "I" ∈ lw_all := lw_in 1211 rfl rfl
set_option maxRecDepth 20000 in
theorem q1212 : Cond.fieldLink RX9 48 "RecipeForestsModel" "reason" "I" ∈ lw_all := lw_in 1212 rfl rfl
set_option maxRecDepth 20000 in
theorem q1213 : Cond.fieldLink RX9 51 "RecipeForestsModel" "detail" "I" ∈ lw_all := lw_in 1213 rfl rfl
set_option maxRecDepth 20000 in
theorem q1214 : Cond.fieldLink RX9 45 "RecipeForestsModel" "answer" "I" ∈ lw_all := lw_in 1214 rfl rfl
set_option maxRecDepth 20000 in
theorem q1215 : Cond.fieldLink RX9 39 "RecipeForestsModel" "thrown" "I" ∈ lw_all := lw_in 1215 rfl rfl
set_option maxRecDepth 20000 in
theorem q1216 : Cond.fieldLink RX9 36 "RecipeForestsModel" "mixed" "[I" ∈ lw_all := lw_in 1216 rfl rfl
set_option maxRecDepth 20000 in
theorem q1217 : Cond.fieldLink RX9 132 "RecipeForestsModel" "conflicts" "I" ∈ lw_all := lw_in 1217 rfl rfl
set_option maxRecDepth 20000 in
theorem q1218 : Cond.fieldLink RX9 135 "RecipeForestsModel" "firstConflict" "I" ∈ lw_all := lw_in 1218 rfl rfl
set_option maxRecDepth 20000 in
theorem q1262 : Cond.methodLink RL 138 yX9_thrown ∈ lw_all := lw_in 1262 rfl rfl
set_option maxRecDepth 20000 in
theorem q1263 : Cond.instanceMethod yX9_thrown ∈ lw_all := lw_in 1263 rfl rfl
set_option maxRecDepth 20000 in
theorem q1264 : Cond.selects RX9 yX9_thrown yX9_thrown ∈ lw_all := lw_in 1264 rfl rfl
set_option maxRecDepth 20000 in
theorem q1265 : Cond.code yX9_thrown cX9_thrown 1 (some .int) ∈ lw_all := lw_in 1265 rfl rfl
set_option maxRecDepth 20000 in
theorem q1266 : Cond.methodLink RL 137 yX9_edit ∈ lw_all := lw_in 1266 rfl rfl
set_option maxRecDepth 20000 in
theorem q1267 : Cond.instanceMethod yX9_edit ∈ lw_all := lw_in 1267 rfl rfl
set_option maxRecDepth 20000 in
theorem q1268 : Cond.selects RX9 yX9_edit yX9_edit ∈ lw_all := lw_in 1268 rfl rfl
set_option maxRecDepth 20000 in
theorem q1269 : Cond.code yX9_edit cX9_edit 4 (some .int) ∈ lw_all := lw_in 1269 rfl rfl
set_option maxRecDepth 20000 in
theorem q1270 : Cond.methodLink RX9 95 yX9_tries ∈ lw_all := lw_in 1270 rfl rfl
set_option maxRecDepth 20000 in
theorem q1272 : Cond.instanceMethod yX9_tries ∈ lw_all := lw_in 1272 rfl rfl
set_option maxRecDepth 20000 in
theorem q1273 : Cond.code yX9_tries cX9_tries 2 none ∈ lw_all := lw_in 1273 rfl rfl
set_option maxRecDepth 20000 in
theorem q1274 : Cond.methodLink RX9 98 yX9_edits ∈ lw_all := lw_in 1274 rfl rfl
set_option maxRecDepth 20000 in
theorem q1276 : Cond.instanceMethod yX9_edits ∈ lw_all := lw_in 1276 rfl rfl
set_option maxRecDepth 20000 in
theorem q1277 : Cond.code yX9_edits cX9_edits 5 (some .int) ∈ lw_all := lw_in 1277 rfl rfl
set_option maxRecDepth 20000 in
theorem q1278 : Cond.methodLink RX9 78 yX9_isBranch ∈ lw_all := lw_in 1278 rfl rfl
set_option maxRecDepth 20000 in
theorem q1280 : Cond.instanceMethod yX9_isBranch ∈ lw_all := lw_in 1280 rfl rfl
set_option maxRecDepth 20000 in
theorem q1281 : Cond.code yX9_isBranch cX9_isBranch 2 (some .boolean) ∈ lw_all := lw_in 1281 rfl rfl
set_option maxRecDepth 20000 in
theorem q1282 : Cond.methodLink RX9 61 yX9_in ∈ lw_all := lw_in 1282 rfl rfl
set_option maxRecDepth 20000 in
theorem q1283 : Cond.static yX9_in ∈ lw_all := lw_in 1283 rfl rfl
set_option maxRecDepth 20000 in
theorem q1284 : Cond.code yX9_in cX9_in 3 (some .boolean) ∈ lw_all := lw_in 1284 rfl rfl
set_option maxRecDepth 20000 in
theorem q1285 : Cond.methodLink RX9 82 yX9_isKind ∈ lw_all := lw_in 1285 rfl rfl
set_option maxRecDepth 20000 in
theorem q1286 : Cond.static yX9_isKind ∈ lw_all := lw_in 1286 rfl rfl
set_option maxRecDepth 20000 in
theorem q1287 : Cond.code yX9_isKind cX9_isKind 1 (some .boolean) ∈ lw_all := lw_in 1287 rfl rfl
set_option maxRecDepth 20000 in
theorem q1288 : Cond.methodLink RX9 69 yX9_top ∈ lw_all := lw_in 1288 rfl rfl
set_option maxRecDepth 20000 in
theorem q1290 : Cond.instanceMethod yX9_top ∈ lw_all := lw_in 1290 rfl rfl
set_option maxRecDepth 20000 in
theorem q1291 : Cond.code yX9_top cX9_top 2 (some .int) ∈ lw_all := lw_in 1291 rfl rfl
set_option maxRecDepth 20000 in
theorem q1292 : Cond.methodLink RX9 72 yX9_has ∈ lw_all := lw_in 1292 rfl rfl
set_option maxRecDepth 20000 in
theorem q1294 : Cond.instanceMethod yX9_has ∈ lw_all := lw_in 1294 rfl rfl
set_option maxRecDepth 20000 in
theorem q1295 : Cond.code yX9_has cX9_has 3 (some .int) ∈ lw_all := lw_in 1295 rfl rfl
set_option maxRecDepth 20000 in
theorem q1296 : Cond.methodLink RX9 65 yX9_of ∈ lw_all := lw_in 1296 rfl rfl
set_option maxRecDepth 20000 in
theorem q1298 : Cond.instanceMethod yX9_of ∈ lw_all := lw_in 1298 rfl rfl
set_option maxRecDepth 20000 in
theorem q1299 : Cond.code yX9_of cX9_of 3 (some .int) ∈ lw_all := lw_in 1299 rfl rfl
set_option maxRecDepth 20000 in
theorem q1300 : Cond.methodLink RX9 85 yX9_refuses ∈ lw_all := lw_in 1300 rfl rfl
set_option maxRecDepth 20000 in
theorem q1302 : Cond.instanceMethod yX9_refuses ∈ lw_all := lw_in 1302 rfl rfl
set_option maxRecDepth 20000 in
theorem q1303 : Cond.code yX9_refuses cX9_refuses 3 (some .int) ∈ lw_all := lw_in 1303 rfl rfl
set_option maxRecDepth 20000 in
theorem q1304 : Cond.methodLink RX9 88 yX9_comes ∈ lw_all := lw_in 1304 rfl rfl
set_option maxRecDepth 20000 in
theorem q1306 : Cond.instanceMethod yX9_comes ∈ lw_all := lw_in 1306 rfl rfl
set_option maxRecDepth 20000 in
theorem q1307 : Cond.code yX9_comes cX9_comes 6 (some .int) ∈ lw_all := lw_in 1307 rfl rfl
set_option maxRecDepth 20000 in
theorem q1308 : Cond.methodLink RX9 92 yX9_does ∈ lw_all := lw_in 1308 rfl rfl
set_option maxRecDepth 20000 in
theorem q1310 : Cond.instanceMethod yX9_does ∈ lw_all := lw_in 1310 rfl rfl
set_option maxRecDepth 20000 in
theorem q1311 : Cond.code yX9_does cX9_does 2 (some .int) ∈ lw_all := lw_in 1311 rfl rfl
set_option maxRecDepth 20000 in
theorem q1312 : Cond.methodLink RX9 101 yX9_ends ∈ lw_all := lw_in 1312 rfl rfl
set_option maxRecDepth 20000 in
theorem q1314 : Cond.instanceMethod yX9_ends ∈ lw_all := lw_in 1314 rfl rfl
set_option maxRecDepth 20000 in
theorem q1315 : Cond.code yX9_ends cX9_ends 2 (some .int) ∈ lw_all := lw_in 1315 rfl rfl
set_option maxRecDepth 20000 in
theorem q1316 : Cond.methodLink RX9 54 yX9_keeps ∈ lw_all := lw_in 1316 rfl rfl
set_option maxRecDepth 20000 in
theorem q1318 : Cond.instanceMethod yX9_keeps ∈ lw_all := lw_in 1318 rfl rfl
set_option maxRecDepth 20000 in
theorem q1319 : Cond.code yX9_keeps cX9_keeps 3 (some .int) ∈ lw_all := lw_in 1319 rfl rfl
set_option maxRecDepth 20000 in
theorem q1320 : Cond.methodLink RX9 58 yX9_raises ∈ lw_all := lw_in 1320 rfl rfl
set_option maxRecDepth 20000 in
theorem q1322 : Cond.instanceMethod yX9_raises ∈ lw_all := lw_in 1322 rfl rfl
set_option maxRecDepth 20000 in
theorem q1323 : Cond.code yX9_raises cX9_raises 2 (some .int) ∈ lw_all := lw_in 1323 rfl rfl
set_option maxRecDepth 20000 in
theorem q1324 : Cond.methodLink RL 144 yX9_fork ∈ lw_all := lw_in 1324 rfl rfl
set_option maxRecDepth 20000 in
theorem q1325 : Cond.instanceMethod yX9_fork ∈ lw_all := lw_in 1325 rfl rfl
set_option maxRecDepth 20000 in
theorem q1326 : Cond.selects RX9 yX9_fork yX9_fork ∈ lw_all := lw_in 1326 rfl rfl
set_option maxRecDepth 20000 in
theorem q1327 : Cond.code yX9_fork cX9_fork 2 (some .int) ∈ lw_all := lw_in 1327 rfl rfl
set_option maxRecDepth 20000 in
theorem q1328 : Cond.methodLink RX9 104 yX9_forks ∈ lw_all := lw_in 1328 rfl rfl
set_option maxRecDepth 20000 in
theorem q1330 : Cond.instanceMethod yX9_forks ∈ lw_all := lw_in 1330 rfl rfl
set_option maxRecDepth 20000 in
theorem q1331 : Cond.code yX9_forks cX9_forks 3 (some .int) ∈ lw_all := lw_in 1331 rfl rfl
set_option maxRecDepth 20000 in
theorem q1332 : Cond.methodLink RX9 107 yX9_endsAt ∈ lw_all := lw_in 1332 rfl rfl
set_option maxRecDepth 20000 in
theorem q1334 : Cond.instanceMethod yX9_endsAt ∈ lw_all := lw_in 1334 rfl rfl
set_option maxRecDepth 20000 in
theorem q1335 : Cond.code yX9_endsAt cX9_endsAt 2 (some .int) ∈ lw_all := lw_in 1335 rfl rfl
set_option maxRecDepth 20000 in
theorem q1336 : Cond.methodLink RL 148 yX9_reset ∈ lw_all := lw_in 1336 rfl rfl
set_option maxRecDepth 20000 in
theorem q1337 : Cond.instanceMethod yX9_reset ∈ lw_all := lw_in 1337 rfl rfl
set_option maxRecDepth 20000 in
theorem q1338 : Cond.selects RX9 yX9_reset yX9_reset ∈ lw_all := lw_in 1338 rfl rfl
set_option maxRecDepth 20000 in
theorem q1339 : Cond.code yX9_reset cX9_reset 3 (some .int) ∈ lw_all := lw_in 1339 rfl rfl
set_option maxRecDepth 20000 in
theorem q1340 : Cond.methodLink RX9 113 yX9_resets ∈ lw_all := lw_in 1340 rfl rfl
set_option maxRecDepth 20000 in
theorem q1342 : Cond.instanceMethod yX9_resets ∈ lw_all := lw_in 1342 rfl rfl
set_option maxRecDepth 20000 in
theorem q1343 : Cond.code yX9_resets cX9_resets 4 (some .int) ∈ lw_all := lw_in 1343 rfl rfl
set_option maxRecDepth 20000 in
theorem q1344 : Cond.methodLink RX9 110 yX9_isCommit ∈ lw_all := lw_in 1344 rfl rfl
set_option maxRecDepth 20000 in
theorem q1346 : Cond.instanceMethod yX9_isCommit ∈ lw_all := lw_in 1346 rfl rfl
set_option maxRecDepth 20000 in
theorem q1347 : Cond.code yX9_isCommit cX9_isCommit 2 (some .boolean) ∈ lw_all := lw_in 1347 rfl rfl
set_option maxRecDepth 20000 in
theorem q1348 : Cond.methodLink RL 151 yX9_tip ∈ lw_all := lw_in 1348 rfl rfl
set_option maxRecDepth 20000 in
theorem q1349 : Cond.instanceMethod yX9_tip ∈ lw_all := lw_in 1349 rfl rfl
set_option maxRecDepth 20000 in
theorem q1350 : Cond.selects RX9 yX9_tip yX9_tip ∈ lw_all := lw_in 1350 rfl rfl
set_option maxRecDepth 20000 in
theorem q1351 : Cond.code yX9_tip cX9_tip 2 (some .int) ∈ lw_all := lw_in 1351 rfl rfl
set_option maxRecDepth 20000 in
theorem q1352 : Cond.methodLink RL 154 yX9_amount ∈ lw_all := lw_in 1352 rfl rfl
set_option maxRecDepth 20000 in
theorem q1353 : Cond.instanceMethod yX9_amount ∈ lw_all := lw_in 1353 rfl rfl
set_option maxRecDepth 20000 in
theorem q1354 : Cond.selects RX9 yX9_amount yX9_amount ∈ lw_all := lw_in 1354 rfl rfl
set_option maxRecDepth 20000 in
theorem q1355 : Cond.code yX9_amount cX9_amount 3 (some .int) ∈ lw_all := lw_in 1355 rfl rfl
set_option maxRecDepth 20000 in
theorem q1356 : Cond.methodLink RL 157 yX9_commitOf ∈ lw_all := lw_in 1356 rfl rfl
set_option maxRecDepth 20000 in
theorem q1357 : Cond.instanceMethod yX9_commitOf ∈ lw_all := lw_in 1357 rfl rfl
set_option maxRecDepth 20000 in
theorem q1358 : Cond.selects RX9 yX9_commitOf yX9_commitOf ∈ lw_all := lw_in 1358 rfl rfl
set_option maxRecDepth 20000 in
theorem q1359 : Cond.code yX9_commitOf cX9_commitOf 3 (some .int) ∈ lw_all := lw_in 1359 rfl rfl
set_option maxRecDepth 20000 in
theorem q1360 : Cond.methodLink RX9 121 yX9_unlike ∈ lw_all := lw_in 1360 rfl rfl
set_option maxRecDepth 20000 in
theorem q1362 : Cond.instanceMethod yX9_unlike ∈ lw_all := lw_in 1362 rfl rfl
set_option maxRecDepth 20000 in
theorem q1363 : Cond.code yX9_unlike cX9_unlike 5 (some .int) ∈ lw_all := lw_in 1363 rfl rfl
set_option maxRecDepth 20000 in
theorem q1364 : Cond.methodLink RX9 75 yX9_family ∈ lw_all := lw_in 1364 rfl rfl
set_option maxRecDepth 20000 in
theorem q1366 : Cond.instanceMethod yX9_family ∈ lw_all := lw_in 1366 rfl rfl
set_option maxRecDepth 20000 in
theorem q1367 : Cond.code yX9_family cX9_family 4 (some .int) ∈ lw_all := lw_in 1367 rfl rfl
set_option maxRecDepth 20000 in
theorem q1368 : Cond.methodLink RX9 124 yJ6_bitCount_0f7a4 ∈ lw_all := lw_in 1368 rfl rfl
set_option maxRecDepth 20000 in
theorem q1369 : Cond.methodLink RX9 129 yX9_deep ∈ lw_all := lw_in 1369 rfl rfl
set_option maxRecDepth 20000 in
theorem q1371 : Cond.instanceMethod yX9_deep ∈ lw_all := lw_in 1371 rfl rfl
set_option maxRecDepth 20000 in
theorem q1372 : Cond.code yX9_deep cX9_deep 4 (some .int) ∈ lw_all := lw_in 1372 rfl rfl
set_option maxRecDepth 20000 in
theorem q1373 : Cond.methodLink RX9 116 Lib.Math.max.name ∈ lw_all := lw_in 1373 rfl rfl
set_option maxRecDepth 20000 in
theorem q1374 : Cond.methodLink RL 160 yX9_merge ∈ lw_all := lw_in 1374 rfl rfl
set_option maxRecDepth 20000 in
theorem q1375 : Cond.instanceMethod yX9_merge ∈ lw_all := lw_in 1375 rfl rfl
set_option maxRecDepth 20000 in
theorem q1376 : Cond.selects RX9 yX9_merge yX9_merge ∈ lw_all := lw_in 1376 rfl rfl
set_option maxRecDepth 20000 in
theorem q1377 : Cond.code yX9_merge cX9_merge 4 (some .int) ∈ lw_all := lw_in 1377 rfl rfl
set_option maxRecDepth 20000 in
theorem q1378 : Cond.methodLink RX9 153 yX9_merges ∈ lw_all := lw_in 1378 rfl rfl
set_option maxRecDepth 20000 in
theorem q1380 : Cond.instanceMethod yX9_merges ∈ lw_all := lw_in 1380 rfl rfl
set_option maxRecDepth 20000 in
theorem q1381 : Cond.code yX9_merges cX9_merges 7 (some .int) ∈ lw_all := lw_in 1381 rfl rfl
set_option maxRecDepth 20000 in
theorem q1382 : Cond.methodLink RX9 138 yX9_isWithin ∈ lw_all := lw_in 1382 rfl rfl
set_option maxRecDepth 20000 in
theorem q1384 : Cond.instanceMethod yX9_isWithin ∈ lw_all := lw_in 1384 rfl rfl
set_option maxRecDepth 20000 in
theorem q1385 : Cond.code yX9_isWithin cX9_isWithin 3 (some .boolean) ∈ lw_all := lw_in 1385 rfl rfl
set_option maxRecDepth 20000 in
theorem q1386 : Cond.methodLink RX9 142 yX9_common ∈ lw_all := lw_in 1386 rfl rfl
set_option maxRecDepth 20000 in
theorem q1388 : Cond.instanceMethod yX9_common ∈ lw_all := lw_in 1388 rfl rfl
set_option maxRecDepth 20000 in
theorem q1389 : Cond.code yX9_common cX9_common 5 (some .int) ∈ lw_all := lw_in 1389 rfl rfl
set_option maxRecDepth 20000 in
theorem q1390 : Cond.methodLink RX9 145 yX9_mixes ∈ lw_all := lw_in 1390 rfl rfl
set_option maxRecDepth 20000 in
theorem q1392 : Cond.instanceMethod yX9_mixes ∈ lw_all := lw_in 1392 rfl rfl
set_option maxRecDepth 20000 in
theorem q1393 : Cond.code yX9_mixes cX9_mixes 9 none ∈ lw_all := lw_in 1393 rfl rfl
set_option maxRecDepth 20000 in
theorem q1394 : Cond.methodLink RX9 149 yX9_lays ∈ lw_all := lw_in 1394 rfl rfl
set_option maxRecDepth 20000 in
theorem q1396 : Cond.instanceMethod yX9_lays ∈ lw_all := lw_in 1396 rfl rfl
set_option maxRecDepth 20000 in
theorem q1397 : Cond.code yX9_lays cX9_lays 3 none ∈ lw_all := lw_in 1397 rfl rfl
set_option maxRecDepth 20000 in
theorem q1398 : Cond.methodLink RL 163 yX9_pick ∈ lw_all := lw_in 1398 rfl rfl
set_option maxRecDepth 20000 in
theorem q1399 : Cond.instanceMethod yX9_pick ∈ lw_all := lw_in 1399 rfl rfl
set_option maxRecDepth 20000 in
theorem q1400 : Cond.selects RX9 yX9_pick yX9_pick ∈ lw_all := lw_in 1400 rfl rfl
set_option maxRecDepth 20000 in
theorem q1401 : Cond.code yX9_pick cX9_pick 4 (some .int) ∈ lw_all := lw_in 1401 rfl rfl
set_option maxRecDepth 20000 in
theorem q1402 : Cond.methodLink RX9 159 yX9_picks ∈ lw_all := lw_in 1402 rfl rfl
set_option maxRecDepth 20000 in
theorem q1404 : Cond.instanceMethod yX9_picks ∈ lw_all := lw_in 1404 rfl rfl
set_option maxRecDepth 20000 in
theorem q1405 : Cond.code yX9_picks cX9_picks 4 (some .int) ∈ lw_all := lw_in 1405 rfl rfl
set_option maxRecDepth 20000 in
theorem q1406 : Cond.methodLink RX9 156 yX9_picked ∈ lw_all := lw_in 1406 rfl rfl
set_option maxRecDepth 20000 in
theorem q1408 : Cond.instanceMethod yX9_picked ∈ lw_all := lw_in 1408 rfl rfl
set_option maxRecDepth 20000 in
theorem q1409 : Cond.code yX9_picked cX9_picked 5 (some .int) ∈ lw_all := lw_in 1409 rfl rfl
set_option maxRecDepth 20000 in
theorem q1410 : Cond.methodLink RL 166 yX9_revert ∈ lw_all := lw_in 1410 rfl rfl
set_option maxRecDepth 20000 in
theorem q1411 : Cond.instanceMethod yX9_revert ∈ lw_all := lw_in 1411 rfl rfl
set_option maxRecDepth 20000 in
theorem q1412 : Cond.selects RX9 yX9_revert yX9_revert ∈ lw_all := lw_in 1412 rfl rfl
set_option maxRecDepth 20000 in
theorem q1413 : Cond.code yX9_revert cX9_revert 4 (some .int) ∈ lw_all := lw_in 1413 rfl rfl
set_option maxRecDepth 20000 in
theorem q1414 : Cond.methodLink RX9 162 yX9_reverts ∈ lw_all := lw_in 1414 rfl rfl
set_option maxRecDepth 20000 in
theorem q1416 : Cond.instanceMethod yX9_reverts ∈ lw_all := lw_in 1416 rfl rfl
set_option maxRecDepth 20000 in
theorem q1417 : Cond.code yX9_reverts cX9_reverts 4 (some .int) ∈ lw_all := lw_in 1417 rfl rfl
set_option maxRecDepth 20000 in
theorem q1418 : Cond.methodLink RL 169 yX9_conflicts ∈ lw_all := lw_in 1418 rfl rfl
set_option maxRecDepth 20000 in
theorem q1419 : Cond.instanceMethod yX9_conflicts ∈ lw_all := lw_in 1419 rfl rfl
set_option maxRecDepth 20000 in
theorem q1420 : Cond.selects RX9 yX9_conflicts yX9_conflicts ∈ lw_all := lw_in 1420 rfl rfl
set_option maxRecDepth 20000 in
theorem q1421 : Cond.code yX9_conflicts cX9_conflicts 3 (some .int) ∈ lw_all := lw_in 1421 rfl rfl
set_option maxRecDepth 20000 in
theorem q1422 : Cond.methodLink RL 172 yX9_isIn ∈ lw_all := lw_in 1422 rfl rfl
set_option maxRecDepth 20000 in
theorem q1423 : Cond.instanceMethod yX9_isIn ∈ lw_all := lw_in 1423 rfl rfl
set_option maxRecDepth 20000 in
theorem q1424 : Cond.selects RX9 yX9_isIn yX9_isIn ∈ lw_all := lw_in 1424 rfl rfl
set_option maxRecDepth 20000 in
theorem q1425 : Cond.code yX9_isIn cX9_isIn 3 (some .boolean) ∈ lw_all := lw_in 1425 rfl rfl
set_option maxRecDepth 20000 in
theorem q1426 : Cond.methodLink RL 175 yX9_base ∈ lw_all := lw_in 1426 rfl rfl
set_option maxRecDepth 20000 in
theorem q1427 : Cond.instanceMethod yX9_base ∈ lw_all := lw_in 1427 rfl rfl
set_option maxRecDepth 20000 in
theorem q1428 : Cond.selects RX9 yX9_base yX9_base ∈ lw_all := lw_in 1428 rfl rfl
set_option maxRecDepth 20000 in
theorem q1429 : Cond.code yX9_base cX9_base 3 (some .int) ∈ lw_all := lw_in 1429 rfl rfl
set_option maxRecDepth 20000 in
theorem q1430 : Cond.methodLink RL 178 yX9_baseAgain ∈ lw_all := lw_in 1430 rfl rfl
set_option maxRecDepth 20000 in
theorem q1431 : Cond.instanceMethod yX9_baseAgain ∈ lw_all := lw_in 1431 rfl rfl
set_option maxRecDepth 20000 in
theorem q1432 : Cond.selects RX9 yX9_baseAgain yX9_baseAgain ∈ lw_all := lw_in 1432 rfl rfl
set_option maxRecDepth 20000 in
theorem q1433 : Cond.code yX9_baseAgain cX9_baseAgain 3 (some .int) ∈ lw_all := lw_in 1433 rfl rfl
set_option maxRecDepth 20000 in
theorem q1434 : Cond.methodLink RX9 165 yX9_base ∈ lw_all := lw_in 1434 rfl rfl
set_option maxRecDepth 20000 in
theorem q1435 : Cond.methodLink RL 181 yX9_difference ∈ lw_all := lw_in 1435 rfl rfl
set_option maxRecDepth 20000 in
theorem q1436 : Cond.instanceMethod yX9_difference ∈ lw_all := lw_in 1436 rfl rfl
set_option maxRecDepth 20000 in
theorem q1437 : Cond.selects RX9 yX9_difference yX9_difference ∈ lw_all := lw_in 1437 rfl rfl
set_option maxRecDepth 20000 in
theorem q1438 : Cond.code yX9_difference cX9_difference 5 (some .int) ∈ lw_all := lw_in 1438 rfl rfl
set_option maxRecDepth 20000 in
theorem q1439 : Cond.methodLink RX9 168 Lib.Math.abs.name ∈ lw_all := lw_in 1439 rfl rfl
set_option maxRecDepth 20000 in
theorem q1440 : Cond.methodLink RL 184 yX9_onLine ∈ lw_all := lw_in 1440 rfl rfl
set_option maxRecDepth 20000 in
theorem q1441 : Cond.instanceMethod yX9_onLine ∈ lw_all := lw_in 1441 rfl rfl
set_option maxRecDepth 20000 in
theorem q1442 : Cond.selects RX9 yX9_onLine yX9_onLine ∈ lw_all := lw_in 1442 rfl rfl
set_option maxRecDepth 20000 in
theorem q1443 : Cond.code yX9_onLine cX9_onLine 3 (some .int) ∈ lw_all := lw_in 1443 rfl rfl
set_option maxRecDepth 20000 in
theorem q1444 : Cond.methodLink RX9 171 yX9_far ∈ lw_all := lw_in 1444 rfl rfl
set_option maxRecDepth 20000 in
theorem q1446 : Cond.instanceMethod yX9_far ∈ lw_all := lw_in 1446 rfl rfl
set_option maxRecDepth 20000 in
theorem q1447 : Cond.code yX9_far cX9_far 4 (some .int) ∈ lw_all := lw_in 1447 rfl rfl
set_option maxRecDepth 20000 in
theorem q1448 : Cond.methodLink RX9 174 yX9_onLineOf ∈ lw_all := lw_in 1448 rfl rfl
set_option maxRecDepth 20000 in
theorem q1450 : Cond.instanceMethod yX9_onLineOf ∈ lw_all := lw_in 1450 rfl rfl
set_option maxRecDepth 20000 in
theorem q1451 : Cond.code yX9_onLineOf cX9_onLineOf 5 (some .int) ∈ lw_all := lw_in 1451 rfl rfl
set_option maxRecDepth 20000 in
theorem q1452 : Cond.methodLink RL 188 yX9_halve ∈ lw_all := lw_in 1452 rfl rfl
set_option maxRecDepth 20000 in
theorem q1453 : Cond.instanceMethod yX9_halve ∈ lw_all := lw_in 1453 rfl rfl
set_option maxRecDepth 20000 in
theorem q1454 : Cond.selects RX9 yX9_halve yX9_halve ∈ lw_all := lw_in 1454 rfl rfl
set_option maxRecDepth 20000 in
theorem q1455 : Cond.code yX9_halve cX9_halve 9 (some .int) ∈ lw_all := lw_in 1455 rfl rfl
set_option maxRecDepth 20000 in
theorem q1456 : Cond.methodLink RX9 177 yX9_isBad ∈ lw_all := lw_in 1456 rfl rfl
set_option maxRecDepth 20000 in
theorem q1458 : Cond.instanceMethod yX9_isBad ∈ lw_all := lw_in 1458 rfl rfl
set_option maxRecDepth 20000 in
theorem q1459 : Cond.code yX9_isBad cX9_isBad 4 (some .boolean) ∈ lw_all := lw_in 1459 rfl rfl
set_option maxRecDepth 20000 in
theorem q1460 : Cond.methodLink RL 191 yX9_firstBad ∈ lw_all := lw_in 1460 rfl rfl
set_option maxRecDepth 20000 in
theorem q1461 : Cond.instanceMethod yX9_firstBad ∈ lw_all := lw_in 1461 rfl rfl
set_option maxRecDepth 20000 in
theorem q1462 : Cond.selects RX9 yX9_firstBad yX9_firstBad ∈ lw_all := lw_in 1462 rfl rfl
set_option maxRecDepth 20000 in
theorem q1463 : Cond.code yX9_firstBad cX9_firstBad 5 (some .int) ∈ lw_all := lw_in 1463 rfl rfl
set_option maxRecDepth 20000 in
theorem q1464 : Cond.methodLink RL 194 yX9_blame ∈ lw_all := lw_in 1464 rfl rfl
set_option maxRecDepth 20000 in
theorem q1465 : Cond.instanceMethod yX9_blame ∈ lw_all := lw_in 1465 rfl rfl
set_option maxRecDepth 20000 in
theorem q1466 : Cond.selects RX9 yX9_blame yX9_blame ∈ lw_all := lw_in 1466 rfl rfl
set_option maxRecDepth 20000 in
theorem q1467 : Cond.code yX9_blame cX9_blame 4 (some .int) ∈ lw_all := lw_in 1467 rfl rfl
set_option maxRecDepth 20000 in
theorem q1468 : Cond.methodLink RL 198 yX9_taste ∈ lw_all := lw_in 1468 rfl rfl
set_option maxRecDepth 20000 in
theorem q1469 : Cond.instanceMethod yX9_taste ∈ lw_all := lw_in 1469 rfl rfl
set_option maxRecDepth 20000 in
theorem q1470 : Cond.selects RX9 yX9_taste yX9_taste ∈ lw_all := lw_in 1470 rfl rfl
set_option maxRecDepth 20000 in
theorem q1471 : Cond.code yX9_taste cX9_taste 2 (some .float) ∈ lw_all := lw_in 1471 rfl rfl
set_option maxRecDepth 20000 in
theorem q1472 : Cond.methodLink RX9 181 yX9_tasteOf ∈ lw_all := lw_in 1472 rfl rfl
set_option maxRecDepth 20000 in
theorem q1474 : Cond.instanceMethod yX9_tasteOf ∈ lw_all := lw_in 1474 rfl rfl
set_option maxRecDepth 20000 in
theorem q1475 : Cond.code yX9_tasteOf cX9_tasteOf 5 (some .float) ∈ lw_all := lw_in 1475 rfl rfl
set_option maxRecDepth 20000 in
theorem q1476 : Cond.constantFloat RX9 180 1090519040 ∈ lw_all := lw_in 1476 rfl rfl
set_option maxRecDepth 20000 in
theorem q1477 : Cond.methodLink RL 201 yX9_tasteBits ∈ lw_all := lw_in 1477 rfl rfl
set_option maxRecDepth 20000 in
theorem q1478 : Cond.instanceMethod yX9_tasteBits ∈ lw_all := lw_in 1478 rfl rfl
set_option maxRecDepth 20000 in
theorem q1479 : Cond.selects RX9 yX9_tasteBits yX9_tasteBits ∈ lw_all := lw_in 1479 rfl rfl
set_option maxRecDepth 20000 in
theorem q1480 : Cond.code yX9_tasteBits cX9_tasteBits 2 (some .int) ∈ lw_all := lw_in 1480 rfl rfl
set_option maxRecDepth 20000 in
theorem q1481 : Cond.methodLink RX9 185 yJxf58ca_floatToIntBits_5c35a ∈ lw_all := lw_in 1481 rfl rfl
set_option maxRecDepth 20000 in
theorem q1482 : Cond.static yJxf58ca_floatToIntBits_5c35a ∈ lw_all := lw_in 1482 rfl rfl
set_option maxRecDepth 20000 in
theorem q1483 : Cond.code yJxf58ca_floatToIntBits_5c35a cJxf58ca_floatToIntBits_5c35a 1 (some .int) ∈ lw_all := lw_in 1483 rfl rfl
set_option maxRecDepth 20000 in
theorem q1484 : Cond.methodLink RJxf58ca 59 yJxf58ca_isNaN_12338 ∈ lw_all := lw_in 1484 rfl rfl
set_option maxRecDepth 20000 in
theorem q1485 : Cond.static yJxf58ca_isNaN_12338 ∈ lw_all := lw_in 1485 rfl rfl
set_option maxRecDepth 20000 in
theorem q1486 : Cond.code yJxf58ca_isNaN_12338 cJxf58ca_isNaN_12338 1 (some .boolean) ∈ lw_all := lw_in 1486 rfl rfl
set_option maxRecDepth 20000 in
theorem q1487 : Cond.methodLink RJxf58ca 74 ⟨"java/lang/Float", "floatToRawIntBits", "(F)I"⟩ ∈ lw_all := lw_in 1487 rfl rfl
set_option maxRecDepth 20000 in
theorem q1488 : Cond.static ⟨"java/lang/Float", "floatToRawIntBits", "(F)I"⟩ ∈ lw_all := lw_in 1488 rfl rfl
set_option maxRecDepth 20000 in
theorem q1489 : Cond.native ⟨"java/lang/Float", "floatToRawIntBits", "(F)I"⟩ ∈ lw_all := lw_in 1489 rfl rfl
set_option maxRecDepth 20000 in
theorem q1490 : Cond.constant RJxf58ca 77 2143289344 ∈ lw_all := lw_in 1490 rfl rfl
set_option maxRecDepth 20000 in
theorem q1491 : Cond.methodLink RL 204 yX9_tastiest ∈ lw_all := lw_in 1491 rfl rfl
set_option maxRecDepth 20000 in
theorem q1492 : Cond.instanceMethod yX9_tastiest ∈ lw_all := lw_in 1492 rfl rfl
set_option maxRecDepth 20000 in
theorem q1493 : Cond.selects RX9 yX9_tastiest yX9_tastiest ∈ lw_all := lw_in 1493 rfl rfl
set_option maxRecDepth 20000 in
theorem q1494 : Cond.code yX9_tastiest cX9_tastiest 4 (some .int) ∈ lw_all := lw_in 1494 rfl rfl
set_option maxRecDepth 20000 in
theorem q1495 : Cond.methodLink RL 207 yX9_bundle ∈ lw_all := lw_in 1495 rfl rfl
set_option maxRecDepth 20000 in
theorem q1496 : Cond.instanceMethod yX9_bundle ∈ lw_all := lw_in 1496 rfl rfl
set_option maxRecDepth 20000 in
theorem q1497 : Cond.selects RX9 yX9_bundle yX9_bundle ∈ lw_all := lw_in 1497 rfl rfl
set_option maxRecDepth 20000 in
theorem q1498 : Cond.code yX9_bundle cX9_bundle 4 (some .int) ∈ lw_all := lw_in 1498 rfl rfl
set_option maxRecDepth 20000 in
theorem q1499 : Cond.methodLink RX9 191 yX9_inBundle ∈ lw_all := lw_in 1499 rfl rfl
set_option maxRecDepth 20000 in
theorem q1501 : Cond.instanceMethod yX9_inBundle ∈ lw_all := lw_in 1501 rfl rfl
set_option maxRecDepth 20000 in
theorem q1502 : Cond.code yX9_inBundle cX9_inBundle 3 (some .int) ∈ lw_all := lw_in 1502 rfl rfl
set_option maxRecDepth 20000 in
theorem q1503 : Cond.methodLink RL 210 yX9_put ∈ lw_all := lw_in 1503 rfl rfl
set_option maxRecDepth 20000 in
theorem q1504 : Cond.instanceMethod yX9_put ∈ lw_all := lw_in 1504 rfl rfl
set_option maxRecDepth 20000 in
theorem q1505 : Cond.selects RX9 yX9_put yX9_put ∈ lw_all := lw_in 1505 rfl rfl
set_option maxRecDepth 20000 in
theorem q1506 : Cond.code yX9_put cX9_put 3 (some .int) ∈ lw_all := lw_in 1506 rfl rfl
set_option maxRecDepth 20000 in
theorem q1507 : Cond.methodLink RX9 195 yX9_puts ∈ lw_all := lw_in 1507 rfl rfl
set_option maxRecDepth 20000 in
theorem q1509 : Cond.instanceMethod yX9_puts ∈ lw_all := lw_in 1509 rfl rfl
set_option maxRecDepth 20000 in
theorem q1510 : Cond.code yX9_puts cX9_puts 4 (some .int) ∈ lw_all := lw_in 1510 rfl rfl
set_option maxRecDepth 20000 in
theorem q1511 : Cond.methodLink RL 213 yX9_inBundle_ ∈ lw_all := lw_in 1511 rfl rfl
set_option maxRecDepth 20000 in
theorem q1512 : Cond.instanceMethod yX9_inBundle_ ∈ lw_all := lw_in 1512 rfl rfl
set_option maxRecDepth 20000 in
theorem q1513 : Cond.selects RX9 yX9_inBundle_ yX9_inBundle_ ∈ lw_all := lw_in 1513 rfl rfl
set_option maxRecDepth 20000 in
theorem q1514 : Cond.code yX9_inBundle_ cX9_inBundle_ 2 (some .int) ∈ lw_all := lw_in 1514 rfl rfl
set_option maxRecDepth 20000 in
theorem q1515 : Cond.methodLink RL 216 yX9_play ∈ lw_all := lw_in 1515 rfl rfl
set_option maxRecDepth 20000 in
theorem q1516 : Cond.instanceMethod yX9_play ∈ lw_all := lw_in 1516 rfl rfl
set_option maxRecDepth 20000 in
theorem q1517 : Cond.selects RX9 yX9_play yX9_play ∈ lw_all := lw_in 1517 rfl rfl
set_option maxRecDepth 20000 in
theorem q1518 : Cond.code yX9_play cX9_play 4 (some .int) ∈ lw_all := lw_in 1518 rfl rfl
set_option maxRecDepth 20000 in
theorem q1519 : Cond.methodLink RX9 198 yX9_plays ∈ lw_all := lw_in 1519 rfl rfl
set_option maxRecDepth 20000 in
theorem q1521 : Cond.instanceMethod yX9_plays ∈ lw_all := lw_in 1521 rfl rfl
set_option maxRecDepth 20000 in
theorem q1522 : Cond.code yX9_plays cX9_plays 6 (some .int) ∈ lw_all := lw_in 1522 rfl rfl
set_option maxRecDepth 20000 in
theorem q1523 : Cond.methodLink RX9 201 yX9_comesBack ∈ lw_all := lw_in 1523 rfl rfl
set_option maxRecDepth 20000 in
theorem q1525 : Cond.instanceMethod yX9_comesBack ∈ lw_all := lw_in 1525 rfl rfl
set_option maxRecDepth 20000 in
theorem q1526 : Cond.code yX9_comesBack cX9_comesBack 2 none ∈ lw_all := lw_in 1526 rfl rfl
set_option maxRecDepth 20000 in
theorem q1527 : Cond.methodLink RL 219 yX9_line ∈ lw_all := lw_in 1527 rfl rfl
set_option maxRecDepth 20000 in
theorem q1528 : Cond.instanceMethod yX9_line ∈ lw_all := lw_in 1528 rfl rfl
set_option maxRecDepth 20000 in
theorem q1529 : Cond.selects RX9 yX9_line yX9_line ∈ lw_all := lw_in 1529 rfl rfl
set_option maxRecDepth 20000 in
theorem q1530 : Cond.code yX9_line cX9_line 3 (some .int) ∈ lw_all := lw_in 1530 rfl rfl
set_option maxRecDepth 20000 in
theorem q1531 : Cond.methodLink RX9 207 yX9_writesNumber ∈ lw_all := lw_in 1531 rfl rfl
set_option maxRecDepth 20000 in
theorem q1533 : Cond.instanceMethod yX9_writesNumber ∈ lw_all := lw_in 1533 rfl rfl
set_option maxRecDepth 20000 in
theorem q1534 : Cond.code yX9_writesNumber cX9_writesNumber 2 none ∈ lw_all := lw_in 1534 rfl rfl
set_option maxRecDepth 20000 in
theorem q1536 : Cond.methodLink RX9 212 yJ0_charAt_5068e ∈ lw_all := lw_in 1536 rfl rfl
set_option maxRecDepth 20000 in
theorem q1537 : Cond.methodLink RL 222 yX9_character ∈ lw_all := lw_in 1537 rfl rfl
set_option maxRecDepth 20000 in
theorem q1538 : Cond.instanceMethod yX9_character ∈ lw_all := lw_in 1538 rfl rfl
set_option maxRecDepth 20000 in
theorem q1539 : Cond.selects RX9 yX9_character yX9_character ∈ lw_all := lw_in 1539 rfl rfl
set_option maxRecDepth 20000 in
theorem q1540 : Cond.code yX9_character cX9_character 2 (some .char) ∈ lw_all := lw_in 1540 rfl rfl
set_option maxRecDepth 20000 in
theorem q1541 : Cond.methodLink RL 226 yX9_append ∈ lw_all := lw_in 1541 rfl rfl
set_option maxRecDepth 20000 in
theorem q1542 : Cond.instanceMethod yX9_append ∈ lw_all := lw_in 1542 rfl rfl
set_option maxRecDepth 20000 in
theorem q1543 : Cond.selects RX9 yX9_append yX9_append ∈ lw_all := lw_in 1543 rfl rfl
set_option maxRecDepth 20000 in
theorem q1544 : Cond.code yX9_append cX9_append 2 (some .int) ∈ lw_all := lw_in 1544 rfl rfl
set_option maxRecDepth 20000 in
theorem q1545 : Cond.methodLink RL 230 yX9_read ∈ lw_all := lw_in 1545 rfl rfl
set_option maxRecDepth 20000 in
theorem q1546 : Cond.instanceMethod yX9_read ∈ lw_all := lw_in 1546 rfl rfl
set_option maxRecDepth 20000 in
theorem q1547 : Cond.selects RX9 yX9_read yX9_read ∈ lw_all := lw_in 1547 rfl rfl
set_option maxRecDepth 20000 in
theorem q1548 : Cond.code yX9_read cX9_read 5 (some .int) ∈ lw_all := lw_in 1548 rfl rfl
set_option maxRecDepth 20000 in
theorem q1549 : Cond.methodLink RX9 235 yX9_isOrder ∈ lw_all := lw_in 1549 rfl rfl
set_option maxRecDepth 20000 in
theorem q1551 : Cond.instanceMethod yX9_isOrder ∈ lw_all := lw_in 1551 rfl rfl
set_option maxRecDepth 20000 in
theorem q1552 : Cond.code yX9_isOrder cX9_isOrder 1 (some .boolean) ∈ lw_all := lw_in 1552 rfl rfl
set_option maxRecDepth 20000 in
theorem q1553 : Cond.methodLink RX9 228 yX9_digits ∈ lw_all := lw_in 1553 rfl rfl
set_option maxRecDepth 20000 in
theorem q1555 : Cond.instanceMethod yX9_digits ∈ lw_all := lw_in 1555 rfl rfl
set_option maxRecDepth 20000 in
theorem q1556 : Cond.code yX9_digits cX9_digits 4 (some .boolean) ∈ lw_all := lw_in 1556 rfl rfl
set_option maxRecDepth 20000 in
theorem q1557 : Cond.methodLink RX9 231 yX9_sign ∈ lw_all := lw_in 1557 rfl rfl
set_option maxRecDepth 20000 in
theorem q1559 : Cond.instanceMethod yX9_sign ∈ lw_all := lw_in 1559 rfl rfl
set_option maxRecDepth 20000 in
theorem q1560 : Cond.code yX9_sign cX9_sign 2 (some .boolean) ∈ lw_all := lw_in 1560 rfl rfl
set_option maxRecDepth 20000 in
theorem q1561 : Cond.methodLink RX9 239 yX9_carries ∈ lw_all := lw_in 1561 rfl rfl
set_option maxRecDepth 20000 in
theorem q1563 : Cond.instanceMethod yX9_carries ∈ lw_all := lw_in 1563 rfl rfl
set_option maxRecDepth 20000 in
theorem q1564 : Cond.code yX9_carries cX9_carries 1 (some .int) ∈ lw_all := lw_in 1564 rfl rfl
set_option maxRecDepth 20000 in
theorem q1565 : Cond.methodLink RL 234 yX9_errorPosition ∈ lw_all := lw_in 1565 rfl rfl
set_option maxRecDepth 20000 in
theorem q1566 : Cond.instanceMethod yX9_errorPosition ∈ lw_all := lw_in 1566 rfl rfl
set_option maxRecDepth 20000 in
theorem q1567 : Cond.selects RX9 yX9_errorPosition yX9_errorPosition ∈ lw_all := lw_in 1567 rfl rfl
set_option maxRecDepth 20000 in
theorem q1568 : Cond.code yX9_errorPosition cX9_errorPosition 1 (some .int) ∈ lw_all := lw_in 1568 rfl rfl
set_option maxRecDepth 20000 in
theorem q1569 : Cond.methodLink RL 238 yX9_refusal ∈ lw_all := lw_in 1569 rfl rfl
set_option maxRecDepth 20000 in
theorem q1570 : Cond.instanceMethod yX9_refusal ∈ lw_all := lw_in 1570 rfl rfl
set_option maxRecDepth 20000 in
theorem q1571 : Cond.selects RX9 yX9_refusal yX9_refusal ∈ lw_all := lw_in 1571 rfl rfl
set_option maxRecDepth 20000 in
theorem q1572 : Cond.code yX9_refusal cX9_refusal 2 (some .int) ∈ lw_all := lw_in 1572 rfl rfl
set_option maxRecDepth 20000 in
theorem q1573 : Cond.methodLink RL 241 yX9_account ∈ lw_all := lw_in 1573 rfl rfl
set_option maxRecDepth 20000 in
theorem q1574 : Cond.instanceMethod yX9_account ∈ lw_all := lw_in 1574 rfl rfl
set_option maxRecDepth 20000 in
theorem q1575 : Cond.selects RX9 yX9_account yX9_account ∈ lw_all := lw_in 1575 rfl rfl
set_option maxRecDepth 20000 in
theorem q1576 : Cond.code yX9_account cX9_account 5 (some .int) ∈ lw_all := lw_in 1576 rfl rfl
set_option maxRecDepth 20000 in
theorem q1577 : Cond.methodLink RX9 242 yX9_those ∈ lw_all := lw_in 1577 rfl rfl
set_option maxRecDepth 20000 in
theorem q1579 : Cond.instanceMethod yX9_those ∈ lw_all := lw_in 1579 rfl rfl
set_option maxRecDepth 20000 in
theorem q1580 : Cond.code yX9_those cX9_those 4 (some .int) ∈ lw_all := lw_in 1580 rfl rfl
set_option maxRecDepth 20000 in
theorem q1581 : Cond.methodLink RL 246 yX9_isWell ∈ lw_all := lw_in 1581 rfl rfl
set_option maxRecDepth 20000 in
theorem q1582 : Cond.instanceMethod yX9_isWell ∈ lw_all := lw_in 1582 rfl rfl
set_option maxRecDepth 20000 in
theorem q1583 : Cond.selects RX9 yX9_isWell yX9_isWell ∈ lw_all := lw_in 1583 rfl rfl
set_option maxRecDepth 20000 in
theorem q1584 : Cond.code yX9_isWell cX9_isWell 1 (some .boolean) ∈ lw_all := lw_in 1584 rfl rfl
set_option maxRecDepth 20000 in
theorem q1585 : Cond.methodLink RL 251 yX9_meanTaste ∈ lw_all := lw_in 1585 rfl rfl
set_option maxRecDepth 20000 in
theorem q1586 : Cond.instanceMethod yX9_meanTaste ∈ lw_all := lw_in 1586 rfl rfl
set_option maxRecDepth 20000 in
theorem q1587 : Cond.selects RX9 yX9_meanTaste yX9_meanTaste ∈ lw_all := lw_in 1587 rfl rfl
set_option maxRecDepth 20000 in
theorem q1588 : Cond.code yX9_meanTaste cX9_meanTaste 4 (some .double) ∈ lw_all := lw_in 1588 rfl rfl
set_option maxRecDepth 20000 in
theorem q1589 : Cond.methodLink RL 256 yX9_editShare ∈ lw_all := lw_in 1589 rfl rfl
set_option maxRecDepth 20000 in
theorem q1590 : Cond.instanceMethod yX9_editShare ∈ lw_all := lw_in 1590 rfl rfl
set_option maxRecDepth 20000 in
theorem q1591 : Cond.selects RX9 yX9_editShare yX9_editShare ∈ lw_all := lw_in 1591 rfl rfl
set_option maxRecDepth 20000 in
theorem q1592 : Cond.code yX9_editShare cX9_editShare 1 (some .float) ∈ lw_all := lw_in 1592 rfl rfl
set_option maxRecDepth 20000 in
theorem q1593 : Cond.methodLink RL 259 yX9_undo ∈ lw_all := lw_in 1593 rfl rfl
set_option maxRecDepth 20000 in
theorem q1594 : Cond.instanceMethod yX9_undo ∈ lw_all := lw_in 1594 rfl rfl
set_option maxRecDepth 20000 in
theorem q1595 : Cond.selects RX9 yX9_undo yX9_undo ∈ lw_all := lw_in 1595 rfl rfl
set_option maxRecDepth 20000 in
theorem q1596 : Cond.code yX9_undo cX9_undo 2 (some .int) ∈ lw_all := lw_in 1596 rfl rfl
set_option maxRecDepth 20000 in
theorem q1597 : Cond.methodLink RL 263 yX9_save ∈ lw_all := lw_in 1597 rfl rfl
set_option maxRecDepth 20000 in
theorem q1598 : Cond.instanceMethod yX9_save ∈ lw_all := lw_in 1598 rfl rfl
set_option maxRecDepth 20000 in
theorem q1599 : Cond.selects RX9 yX9_save yX9_save ∈ lw_all := lw_in 1599 rfl rfl
set_option maxRecDepth 20000 in
theorem q1600 : Cond.code yX9_save cX9_save 2 (some .int) ∈ lw_all := lw_in 1600 rfl rfl
set_option maxRecDepth 20000 in
theorem q1601 : Cond.methodLink RL 266 yX9_restore ∈ lw_all := lw_in 1601 rfl rfl
set_option maxRecDepth 20000 in
theorem q1602 : Cond.instanceMethod yX9_restore ∈ lw_all := lw_in 1602 rfl rfl
set_option maxRecDepth 20000 in
theorem q1603 : Cond.selects RX9 yX9_restore yX9_restore ∈ lw_all := lw_in 1603 rfl rfl
set_option maxRecDepth 20000 in
theorem q1604 : Cond.code yX9_restore cX9_restore 2 (some .int) ∈ lw_all := lw_in 1604 rfl rfl
set_option maxRecDepth 20000 in
theorem q1605 : Cond.arrayClass .long ∈ lw_all := lw_in 1605 rfl rfl
set_option maxRecDepth 20000 in
theorem q1606 : Cond.arrayClass .double ∈ lw_all := lw_in 1606 rfl rfl
set_option maxRecDepth 20000 in
theorem q1625 : Cond.fieldLink RJ0 15 "java/lang/String" "coder" "B" ∈ lw_all := lw_in 1625 rfl rfl
set_option maxRecDepth 20000 in
theorem q1626 : Cond.fieldLink RJ0 9 "java/lang/String" "value" "[B" ∈ lw_all := lw_in 1626 rfl rfl
theorem hdV_J0_charAt_5068e : yJ0_charAt_5068e.cls = RJ0 ∧ yJ0_charAt_5068e.cls ≠ "java/lang/invoke/MethodHandle" ∧ yJ0_charAt_5068e.cls ≠ "java/lang/invoke/VarHandle" ∧ (parseMethodDescriptor yJ0_charAt_5068e.desc).map (fun d => d.parameters.length) = some 1 := by decide +kernel
theorem hdS_J0_checkIndex_df160 : yJ0_checkIndex_df160.cls ≠ "java/lang/invoke/MethodHandle" ∧ yJ0_checkIndex_df160.cls ≠ "java/lang/invoke/VarHandle" ∧ (parseMethodDescriptor yJ0_checkIndex_df160.desc).map (fun d => d.parameters.length) = some 2 := by decide +kernel
theorem hdV_J0_coder_7d493 : yJ0_coder_7d493.cls = RJ0 ∧ yJ0_coder_7d493.cls ≠ "java/lang/invoke/MethodHandle" ∧ yJ0_coder_7d493.cls ≠ "java/lang/invoke/VarHandle" ∧ (parseMethodDescriptor yJ0_coder_7d493.desc).map (fun d => d.parameters.length) = some 0 := by decide +kernel
theorem hdV_J0_isEmpty_aae02 : yJ0_isEmpty_aae02.cls = RJ0 ∧ yJ0_isEmpty_aae02.cls ≠ "java/lang/invoke/MethodHandle" ∧ yJ0_isEmpty_aae02.cls ≠ "java/lang/invoke/VarHandle" ∧ (parseMethodDescriptor yJ0_isEmpty_aae02.desc).map (fun d => d.parameters.length) = some 0 := by decide +kernel
theorem hdV_J0_isLatin1_aae02 : yJ0_isLatin1_aae02.cls = RJ0 ∧ yJ0_isLatin1_aae02.cls ≠ "java/lang/invoke/MethodHandle" ∧ yJ0_isLatin1_aae02.cls ≠ "java/lang/invoke/VarHandle" ∧ (parseMethodDescriptor yJ0_isLatin1_aae02.desc).map (fun d => d.parameters.length) = some 0 := by decide +kernel
theorem hdV_J0_length_8abf5 : yJ0_length_8abf5.cls = RJ0 ∧ yJ0_length_8abf5.cls ≠ "java/lang/invoke/MethodHandle" ∧ yJ0_length_8abf5.cls ≠ "java/lang/invoke/VarHandle" ∧ (parseMethodDescriptor yJ0_length_8abf5.desc).map (fun d => d.parameters.length) = some 0 := by decide +kernel
theorem hdS_J1_charAt_3b067 : yJ1_charAt_3b067.cls ≠ "java/lang/invoke/MethodHandle" ∧ yJ1_charAt_3b067.cls ≠ "java/lang/invoke/VarHandle" ∧ (parseMethodDescriptor yJ1_charAt_3b067.desc).map (fun d => d.parameters.length) = some 2 := by decide +kernel
theorem hdS_J2_charAt_3b067 : yJ2_charAt_3b067.cls ≠ "java/lang/invoke/MethodHandle" ∧ yJ2_charAt_3b067.cls ≠ "java/lang/invoke/VarHandle" ∧ (parseMethodDescriptor yJ2_charAt_3b067.desc).map (fun d => d.parameters.length) = some 2 := by decide +kernel
theorem hdS_J2_checkIndex_2214a : yJ2_checkIndex_2214a.cls ≠ "java/lang/invoke/MethodHandle" ∧ yJ2_checkIndex_2214a.cls ≠ "java/lang/invoke/VarHandle" ∧ (parseMethodDescriptor yJ2_checkIndex_2214a.desc).map (fun d => d.parameters.length) = some 2 := by decide +kernel
theorem hdS_J2_getChar_3b067 : yJ2_getChar_3b067.cls ≠ "java/lang/invoke/MethodHandle" ∧ yJ2_getChar_3b067.cls ≠ "java/lang/invoke/VarHandle" ∧ (parseMethodDescriptor yJ2_getChar_3b067.desc).map (fun d => d.parameters.length) = some 2 := by decide +kernel
theorem hdS_J2_length_9d52b : yJ2_length_9d52b.cls ≠ "java/lang/invoke/MethodHandle" ∧ yJ2_length_9d52b.cls ≠ "java/lang/invoke/VarHandle" ∧ (parseMethodDescriptor yJ2_length_9d52b.desc).map (fun d => d.parameters.length) = some 1 := by decide +kernel
theorem hdS_J3_checkIndex_8e157 : yJ3_checkIndex_8e157.cls ≠ "java/lang/invoke/MethodHandle" ∧ yJ3_checkIndex_8e157.cls ≠ "java/lang/invoke/VarHandle" ∧ (parseMethodDescriptor yJ3_checkIndex_8e157.desc).map (fun d => d.parameters.length) = some 3 := by decide +kernel
theorem hdS_J6_bitCount_0f7a4 : yJ6_bitCount_0f7a4.cls ≠ "java/lang/invoke/MethodHandle" ∧ yJ6_bitCount_0f7a4.cls ≠ "java/lang/invoke/VarHandle" ∧ (parseMethodDescriptor yJ6_bitCount_0f7a4.desc).map (fun d => d.parameters.length) = some 1 := by decide +kernel
theorem hdS_J9_abs_0f7a4 : yJ9_abs_0f7a4.cls ≠ "java/lang/invoke/MethodHandle" ∧ yJ9_abs_0f7a4.cls ≠ "java/lang/invoke/VarHandle" ∧ (parseMethodDescriptor yJ9_abs_0f7a4.desc).map (fun d => d.parameters.length) = some 1 := by decide +kernel
theorem hdS_J9_max_7cf53 : yJ9_max_7cf53.cls ≠ "java/lang/invoke/MethodHandle" ∧ yJ9_max_7cf53.cls ≠ "java/lang/invoke/VarHandle" ∧ (parseMethodDescriptor yJ9_max_7cf53.desc).map (fun d => d.parameters.length) = some 2 := by decide +kernel
theorem hdS_J9_min_7cf53 : yJ9_min_7cf53.cls ≠ "java/lang/invoke/MethodHandle" ∧ yJ9_min_7cf53.cls ≠ "java/lang/invoke/VarHandle" ∧ (parseMethodDescriptor yJ9_min_7cf53.desc).map (fun d => d.parameters.length) = some 2 := by decide +kernel
theorem hdS_Jxf58ca_floatToIntBits_5c35a : yJxf58ca_floatToIntBits_5c35a.cls ≠ "java/lang/invoke/MethodHandle" ∧ yJxf58ca_floatToIntBits_5c35a.cls ≠ "java/lang/invoke/VarHandle" ∧ (parseMethodDescriptor yJxf58ca_floatToIntBits_5c35a.desc).map (fun d => d.parameters.length) = some 1 := by decide +kernel
theorem hdS_Jxf58ca_isNaN_12338 : yJxf58ca_isNaN_12338.cls ≠ "java/lang/invoke/MethodHandle" ∧ yJxf58ca_isNaN_12338.cls ≠ "java/lang/invoke/VarHandle" ∧ (parseMethodDescriptor yJxf58ca_isNaN_12338.desc).map (fun d => d.parameters.length) = some 1 := by decide +kernel
theorem hdV_X0_conflictsBetween : yX0_conflictsBetween.cls = RX0 ∧ yX0_conflictsBetween.cls ≠ "java/lang/invoke/MethodHandle" ∧ yX0_conflictsBetween.cls ≠ "java/lang/invoke/VarHandle" ∧ (parseMethodDescriptor yX0_conflictsBetween.desc).map (fun d => d.parameters.length) = some 2 := by decide +kernel
theorem hdV_X0_isStopped : yX0_isStopped.cls = RX0 ∧ yX0_isStopped.cls ≠ "java/lang/invoke/MethodHandle" ∧ yX0_isStopped.cls ≠ "java/lang/invoke/VarHandle" ∧ (parseMethodDescriptor yX0_isStopped.desc).map (fun d => d.parameters.length) = some 1 := by decide +kernel
theorem hdV_X0_latestDetail : yX0_latestDetail.cls = RX0 ∧ yX0_latestDetail.cls ≠ "java/lang/invoke/MethodHandle" ∧ yX0_latestDetail.cls ≠ "java/lang/invoke/VarHandle" ∧ (parseMethodDescriptor yX0_latestDetail.desc).map (fun d => d.parameters.length) = some 0 := by decide +kernel
theorem hdV_X0_latestReason : yX0_latestReason.cls = RX0 ∧ yX0_latestReason.cls ≠ "java/lang/invoke/MethodHandle" ∧ yX0_latestReason.cls ≠ "java/lang/invoke/VarHandle" ∧ (parseMethodDescriptor yX0_latestReason.desc).map (fun d => d.parameters.length) = some 0 := by decide +kernel
theorem hdV_X0_pickChange : yX0_pickChange.cls = RX0 ∧ yX0_pickChange.cls ≠ "java/lang/invoke/MethodHandle" ∧ yX0_pickChange.cls ≠ "java/lang/invoke/VarHandle" ∧ (parseMethodDescriptor yX0_pickChange.desc).map (fun d => d.parameters.length) = some 4 := by decide +kernel
theorem hdV_X0_refuse : yX0_refuse.cls = RX0 ∧ yX0_refuse.cls ≠ "java/lang/invoke/MethodHandle" ∧ yX0_refuse.cls ≠ "java/lang/invoke/VarHandle" ∧ (parseMethodDescriptor yX0_refuse.desc).map (fun d => d.parameters.length) = some 2 := by decide +kernel
theorem hdV_X0_tryBundle : yX0_tryBundle.cls = RX0 ∧ yX0_tryBundle.cls ≠ "java/lang/invoke/MethodHandle" ∧ yX0_tryBundle.cls ≠ "java/lang/invoke/VarHandle" ∧ (parseMethodDescriptor yX0_tryBundle.desc).map (fun d => d.parameters.length) = some 1 := by decide +kernel
theorem hdV_X0_tryEdit : yX0_tryEdit.cls = RX0 ∧ yX0_tryEdit.cls ≠ "java/lang/invoke/MethodHandle" ∧ yX0_tryEdit.cls ≠ "java/lang/invoke/VarHandle" ∧ (parseMethodDescriptor yX0_tryEdit.desc).map (fun d => d.parameters.length) = some 3 := by decide +kernel
theorem hdV_X0_tryFork : yX0_tryFork.cls = RX0 ∧ yX0_tryFork.cls ≠ "java/lang/invoke/MethodHandle" ∧ yX0_tryFork.cls ≠ "java/lang/invoke/VarHandle" ∧ (parseMethodDescriptor yX0_tryFork.desc).map (fun d => d.parameters.length) = some 1 := by decide +kernel
theorem hdV_X0_tryMerge : yX0_tryMerge.cls = RX0 ∧ yX0_tryMerge.cls ≠ "java/lang/invoke/MethodHandle" ∧ yX0_tryMerge.cls ≠ "java/lang/invoke/VarHandle" ∧ (parseMethodDescriptor yX0_tryMerge.desc).map (fun d => d.parameters.length) = some 3 := by decide +kernel
theorem hdV_X0_tryPick : yX0_tryPick.cls = RX0 ∧ yX0_tryPick.cls ≠ "java/lang/invoke/MethodHandle" ∧ yX0_tryPick.cls ≠ "java/lang/invoke/VarHandle" ∧ (parseMethodDescriptor yX0_tryPick.desc).map (fun d => d.parameters.length) = some 3 := by decide +kernel
theorem hdV_X0_tryPlay : yX0_tryPlay.cls = RX0 ∧ yX0_tryPlay.cls ≠ "java/lang/invoke/MethodHandle" ∧ yX0_tryPlay.cls ≠ "java/lang/invoke/VarHandle" ∧ (parseMethodDescriptor yX0_tryPlay.desc).map (fun d => d.parameters.length) = some 2 := by decide +kernel
theorem hdV_X0_tryPut : yX0_tryPut.cls = RX0 ∧ yX0_tryPut.cls ≠ "java/lang/invoke/MethodHandle" ∧ yX0_tryPut.cls ≠ "java/lang/invoke/VarHandle" ∧ (parseMethodDescriptor yX0_tryPut.desc).map (fun d => d.parameters.length) = some 2 := by decide +kernel
theorem hdV_X0_tryReset : yX0_tryReset.cls = RX0 ∧ yX0_tryReset.cls ≠ "java/lang/invoke/MethodHandle" ∧ yX0_tryReset.cls ≠ "java/lang/invoke/VarHandle" ∧ (parseMethodDescriptor yX0_tryReset.desc).map (fun d => d.parameters.length) = some 2 := by decide +kernel
theorem hdV_X0_tryRevert : yX0_tryRevert.cls = RX0 ∧ yX0_tryRevert.cls ≠ "java/lang/invoke/MethodHandle" ∧ yX0_tryRevert.cls ≠ "java/lang/invoke/VarHandle" ∧ (parseMethodDescriptor yX0_tryRevert.desc).map (fun d => d.parameters.length) = some 3 := by decide +kernel
theorem hdV_X1_addBranch : yX1_addBranch.cls = RX1 ∧ yX1_addBranch.cls ≠ "java/lang/invoke/MethodHandle" ∧ yX1_addBranch.cls ≠ "java/lang/invoke/VarHandle" ∧ (parseMethodDescriptor yX1_addBranch.desc).map (fun d => d.parameters.length) = some 1 := by decide +kernel
theorem hdV_X1_addCommit : yX1_addCommit.cls = RX1 ∧ yX1_addCommit.cls ≠ "java/lang/invoke/MethodHandle" ∧ yX1_addCommit.cls ≠ "java/lang/invoke/VarHandle" ∧ (parseMethodDescriptor yX1_addCommit.desc).map (fun d => d.parameters.length) = some 4 := by decide +kernel
theorem hdV_X1_amountIn : yX1_amountIn.cls = RX1 ∧ yX1_amountIn.cls ≠ "java/lang/invoke/MethodHandle" ∧ yX1_amountIn.cls ≠ "java/lang/invoke/VarHandle" ∧ (parseMethodDescriptor yX1_amountIn.desc).map (fun d => d.parameters.length) = some 2 := by decide +kernel
theorem hdV_X1_areBasesSame : yX1_areBasesSame.cls = RX1 ∧ yX1_areBasesSame.cls ≠ "java/lang/invoke/MethodHandle" ∧ yX1_areBasesSame.cls ≠ "java/lang/invoke/VarHandle" ∧ (parseMethodDescriptor yX1_areBasesSame.desc).map (fun d => d.parameters.length) = some 1 := by decide +kernel
theorem hdV_X1_become : yX1_become.cls = RX1 ∧ yX1_become.cls ≠ "java/lang/invoke/MethodHandle" ∧ yX1_become.cls ≠ "java/lang/invoke/VarHandle" ∧ (parseMethodDescriptor yX1_become.desc).map (fun d => d.parameters.length) = some 1 := by decide +kernel
theorem hdV_X1_branchCount : yX1_branchCount.cls = RX1 ∧ yX1_branchCount.cls ≠ "java/lang/invoke/MethodHandle" ∧ yX1_branchCount.cls ≠ "java/lang/invoke/VarHandle" ∧ (parseMethodDescriptor yX1_branchCount.desc).map (fun d => d.parameters.length) = some 0 := by decide +kernel
theorem hdV_X1_bundleKind : yX1_bundleKind.cls = RX1 ∧ yX1_bundleKind.cls ≠ "java/lang/invoke/MethodHandle" ∧ yX1_bundleKind.cls ≠ "java/lang/invoke/VarHandle" ∧ (parseMethodDescriptor yX1_bundleKind.desc).map (fun d => d.parameters.length) = some 0 := by decide +kernel
theorem hdV_X1_bundledAt : yX1_bundledAt.cls = RX1 ∧ yX1_bundledAt.cls ≠ "java/lang/invoke/MethodHandle" ∧ yX1_bundledAt.cls ≠ "java/lang/invoke/VarHandle" ∧ (parseMethodDescriptor yX1_bundledAt.desc).map (fun d => d.parameters.length) = some 1 := by decide +kernel
theorem hdV_X1_bundledCount : yX1_bundledCount.cls = RX1 ∧ yX1_bundledCount.cls ≠ "java/lang/invoke/MethodHandle" ∧ yX1_bundledCount.cls ≠ "java/lang/invoke/VarHandle" ∧ (parseMethodDescriptor yX1_bundledCount.desc).map (fun d => d.parameters.length) = some 0 := by decide +kernel
theorem hdV_X1_changedIn : yX1_changedIn.cls = RX1 ∧ yX1_changedIn.cls ≠ "java/lang/invoke/MethodHandle" ∧ yX1_changedIn.cls ≠ "java/lang/invoke/VarHandle" ∧ (parseMethodDescriptor yX1_changedIn.desc).map (fun d => d.parameters.length) = some 1 := by decide +kernel
theorem hdV_X1_commitCount : yX1_commitCount.cls = RX1 ∧ yX1_commitCount.cls ≠ "java/lang/invoke/MethodHandle" ∧ yX1_commitCount.cls ≠ "java/lang/invoke/VarHandle" ∧ (parseMethodDescriptor yX1_commitCount.desc).map (fun d => d.parameters.length) = some 0 := by decide +kernel
theorem hdV_X1_commonGround : yX1_commonGround.cls = RX1 ∧ yX1_commonGround.cls ≠ "java/lang/invoke/MethodHandle" ∧ yX1_commonGround.cls ≠ "java/lang/invoke/VarHandle" ∧ (parseMethodDescriptor yX1_commonGround.desc).map (fun d => d.parameters.length) = some 2 := by decide +kernel
theorem hdV_X1_countKind : yX1_countKind.cls = RX1 ∧ yX1_countKind.cls ≠ "java/lang/invoke/MethodHandle" ∧ yX1_countKind.cls ≠ "java/lang/invoke/VarHandle" ∧ (parseMethodDescriptor yX1_countKind.desc).map (fun d => d.parameters.length) = some 1 := by decide +kernel
theorem hdV_X1_countLost : yX1_countLost.cls = RX1 ∧ yX1_countLost.cls ≠ "java/lang/invoke/MethodHandle" ∧ yX1_countLost.cls ≠ "java/lang/invoke/VarHandle" ∧ (parseMethodDescriptor yX1_countLost.desc).map (fun d => d.parameters.length) = some 0 := by decide +kernel
theorem hdV_X1_depthOf : yX1_depthOf.cls = RX1 ∧ yX1_depthOf.cls ≠ "java/lang/invoke/MethodHandle" ∧ yX1_depthOf.cls ≠ "java/lang/invoke/VarHandle" ∧ (parseMethodDescriptor yX1_depthOf.desc).map (fun d => d.parameters.length) = some 1 := by decide +kernel
theorem hdV_X1_familyOf : yX1_familyOf.cls = RX1 ∧ yX1_familyOf.cls ≠ "java/lang/invoke/MethodHandle" ∧ yX1_familyOf.cls ≠ "java/lang/invoke/VarHandle" ∧ (parseMethodDescriptor yX1_familyOf.desc).map (fun d => d.parameters.length) = some 1 := by decide +kernel
theorem hdV_X1_fillPlace : yX1_fillPlace.cls = RX1 ∧ yX1_fillPlace.cls ≠ "java/lang/invoke/MethodHandle" ∧ yX1_fillPlace.cls ≠ "java/lang/invoke/VarHandle" ∧ (parseMethodDescriptor yX1_fillPlace.desc).map (fun d => d.parameters.length) = some 2 := by decide +kernel
theorem hdV_X1_firstOf : yX1_firstOf.cls = RX1 ∧ yX1_firstOf.cls ≠ "java/lang/invoke/MethodHandle" ∧ yX1_firstOf.cls ≠ "java/lang/invoke/VarHandle" ∧ (parseMethodDescriptor yX1_firstOf.desc).map (fun d => d.parameters.length) = some 1 := by decide +kernel
theorem hdV_X1_hasInFamily : yX1_hasInFamily.cls = RX1 ∧ yX1_hasInFamily.cls ≠ "java/lang/invoke/MethodHandle" ∧ yX1_hasInFamily.cls ≠ "java/lang/invoke/VarHandle" ∧ (parseMethodDescriptor yX1_hasInFamily.desc).map (fun d => d.parameters.length) = some 2 := by decide +kernel
theorem hdV_X1_isBornWell : yX1_isBornWell.cls = RX1 ∧ yX1_isBornWell.cls ≠ "java/lang/invoke/MethodHandle" ∧ yX1_isBornWell.cls ≠ "java/lang/invoke/VarHandle" ∧ (parseMethodDescriptor yX1_isBornWell.desc).map (fun d => d.parameters.length) = some 1 := by decide +kernel
theorem hdV_X1_isBranch : yX1_isBranch.cls = RX1 ∧ yX1_isBranch.cls ≠ "java/lang/invoke/MethodHandle" ∧ yX1_isBranch.cls ≠ "java/lang/invoke/VarHandle" ∧ (parseMethodDescriptor yX1_isBranch.desc).map (fun d => d.parameters.length) = some 1 := by decide +kernel
theorem hdV_X1_isCommit : yX1_isCommit.cls = RX1 ∧ yX1_isCommit.cls ≠ "java/lang/invoke/MethodHandle" ∧ yX1_isCommit.cls ≠ "java/lang/invoke/VarHandle" ∧ (parseMethodDescriptor yX1_isCommit.desc).map (fun d => d.parameters.length) = some 1 := by decide +kernel
theorem hdV_X1_isFull : yX1_isFull.cls = RX1 ∧ yX1_isFull.cls ≠ "java/lang/invoke/MethodHandle" ∧ yX1_isFull.cls ≠ "java/lang/invoke/VarHandle" ∧ (parseMethodDescriptor yX1_isFull.desc).map (fun d => d.parameters.length) = some 0 := by decide +kernel
theorem hdV_X1_kindOf : yX1_kindOf.cls = RX1 ∧ yX1_kindOf.cls ≠ "java/lang/invoke/MethodHandle" ∧ yX1_kindOf.cls ≠ "java/lang/invoke/VarHandle" ∧ (parseMethodDescriptor yX1_kindOf.desc).map (fun d => d.parameters.length) = some 1 := by decide +kernel
theorem hdV_X1_meetingPoint : yX1_meetingPoint.cls = RX1 ∧ yX1_meetingPoint.cls ≠ "java/lang/invoke/MethodHandle" ∧ yX1_meetingPoint.cls ≠ "java/lang/invoke/VarHandle" ∧ (parseMethodDescriptor yX1_meetingPoint.desc).map (fun d => d.parameters.length) = some 2 := by decide +kernel
theorem hdV_X1_moveTip : yX1_moveTip.cls = RX1 ∧ yX1_moveTip.cls ≠ "java/lang/invoke/MethodHandle" ∧ yX1_moveTip.cls ≠ "java/lang/invoke/VarHandle" ∧ (parseMethodDescriptor yX1_moveTip.desc).map (fun d => d.parameters.length) = some 2 := by decide +kernel
theorem hdV_X1_placeOf : yX1_placeOf.cls = RX1 ∧ yX1_placeOf.cls ≠ "java/lang/invoke/MethodHandle" ∧ yX1_placeOf.cls ≠ "java/lang/invoke/VarHandle" ∧ (parseMethodDescriptor yX1_placeOf.desc).map (fun d => d.parameters.length) = some 1 := by decide +kernel
theorem hdV_X1_secondOf : yX1_secondOf.cls = RX1 ∧ yX1_secondOf.cls ≠ "java/lang/invoke/MethodHandle" ∧ yX1_secondOf.cls ≠ "java/lang/invoke/VarHandle" ∧ (parseMethodDescriptor yX1_secondOf.desc).map (fun d => d.parameters.length) = some 1 := by decide +kernel
theorem hdV_X1_sumOfTips : yX1_sumOfTips.cls = RX1 ∧ yX1_sumOfTips.cls ≠ "java/lang/invoke/MethodHandle" ∧ yX1_sumOfTips.cls ≠ "java/lang/invoke/VarHandle" ∧ (parseMethodDescriptor yX1_sumOfTips.desc).map (fun d => d.parameters.length) = some 0 := by decide +kernel
theorem hdV_X1_takeBundle : yX1_takeBundle.cls = RX1 ∧ yX1_takeBundle.cls ≠ "java/lang/invoke/MethodHandle" ∧ yX1_takeBundle.cls ≠ "java/lang/invoke/VarHandle" ∧ (parseMethodDescriptor yX1_takeBundle.desc).map (fun d => d.parameters.length) = some 1 := by decide +kernel
theorem hdV_X1_tasteOf : yX1_tasteOf.cls = RX1 ∧ yX1_tasteOf.cls ≠ "java/lang/invoke/MethodHandle" ∧ yX1_tasteOf.cls ≠ "java/lang/invoke/VarHandle" ∧ (parseMethodDescriptor yX1_tasteOf.desc).map (fun d => d.parameters.length) = some 1 := by decide +kernel
theorem hdV_X1_tipOf : yX1_tipOf.cls = RX1 ∧ yX1_tipOf.cls ≠ "java/lang/invoke/MethodHandle" ∧ yX1_tipOf.cls ≠ "java/lang/invoke/VarHandle" ∧ (parseMethodDescriptor yX1_tipOf.desc).map (fun d => d.parameters.length) = some 1 := by decide +kernel
theorem hdV_X2_forgetAll : yX2_forgetAll.cls = RX2 ∧ yX2_forgetAll.cls ≠ "java/lang/invoke/MethodHandle" ∧ yX2_forgetAll.cls ≠ "java/lang/invoke/VarHandle" ∧ (parseMethodDescriptor yX2_forgetAll.desc).map (fun d => d.parameters.length) = some 0 := by decide +kernel
theorem hdV_X2_keep : yX2_keep.cls = RX2 ∧ yX2_keep.cls ≠ "java/lang/invoke/MethodHandle" ∧ yX2_keep.cls ≠ "java/lang/invoke/VarHandle" ∧ (parseMethodDescriptor yX2_keep.desc).map (fun d => d.parameters.length) = some 1 := by decide +kernel
theorem hdV_X2_rowAt : yX2_rowAt.cls = RX2 ∧ yX2_rowAt.cls ≠ "java/lang/invoke/MethodHandle" ∧ yX2_rowAt.cls ≠ "java/lang/invoke/VarHandle" ∧ (parseMethodDescriptor yX2_rowAt.desc).map (fun d => d.parameters.length) = some 1 := by decide +kernel
theorem hdV_X2_size : yX2_size.cls = RX2 ∧ yX2_size.cls ≠ "java/lang/invoke/MethodHandle" ∧ yX2_size.cls ≠ "java/lang/invoke/VarHandle" ∧ (parseMethodDescriptor yX2_size.desc).map (fun d => d.parameters.length) = some 0 := by decide +kernel
theorem hdV_X2_takeBack : yX2_takeBack.cls = RX2 ∧ yX2_takeBack.cls ≠ "java/lang/invoke/MethodHandle" ∧ yX2_takeBack.cls ≠ "java/lang/invoke/VarHandle" ∧ (parseMethodDescriptor yX2_takeBack.desc).map (fun d => d.parameters.length) = some 1 := by decide +kernel
theorem hdV_X3_add : yX3_add.cls = RX3 ∧ yX3_add.cls ≠ "java/lang/invoke/MethodHandle" ∧ yX3_add.cls ≠ "java/lang/invoke/VarHandle" ∧ (parseMethodDescriptor yX3_add.desc).map (fun d => d.parameters.length) = some 1 := by decide +kernel
theorem hdV_X3_clear : yX3_clear.cls = RX3 ∧ yX3_clear.cls ≠ "java/lang/invoke/MethodHandle" ∧ yX3_clear.cls ≠ "java/lang/invoke/VarHandle" ∧ (parseMethodDescriptor yX3_clear.desc).map (fun d => d.parameters.length) = some 0 := by decide +kernel
theorem hdV_X3_isFull : yX3_isFull.cls = RX3 ∧ yX3_isFull.cls ≠ "java/lang/invoke/MethodHandle" ∧ yX3_isFull.cls ≠ "java/lang/invoke/VarHandle" ∧ (parseMethodDescriptor yX3_isFull.desc).map (fun d => d.parameters.length) = some 0 := by decide +kernel
theorem hdV_X3_signAt : yX3_signAt.cls = RX3 ∧ yX3_signAt.cls ≠ "java/lang/invoke/MethodHandle" ∧ yX3_signAt.cls ≠ "java/lang/invoke/VarHandle" ∧ (parseMethodDescriptor yX3_signAt.desc).map (fun d => d.parameters.length) = some 1 := by decide +kernel
theorem hdV_X3_size : yX3_size.cls = RX3 ∧ yX3_size.cls ≠ "java/lang/invoke/MethodHandle" ∧ yX3_size.cls ≠ "java/lang/invoke/VarHandle" ∧ (parseMethodDescriptor yX3_size.desc).map (fun d => d.parameters.length) = some 0 := by decide +kernel
theorem hdV_X4_addNumber : yX4_addNumber.cls = RX4 ∧ yX4_addNumber.cls ≠ "java/lang/invoke/MethodHandle" ∧ yX4_addNumber.cls ≠ "java/lang/invoke/VarHandle" ∧ (parseMethodDescriptor yX4_addNumber.desc).map (fun d => d.parameters.length) = some 1 := by decide +kernel
theorem hdV_X4_addSign : yX4_addSign.cls = RX4 ∧ yX4_addSign.cls ≠ "java/lang/invoke/MethodHandle" ∧ yX4_addSign.cls ≠ "java/lang/invoke/VarHandle" ∧ (parseMethodDescriptor yX4_addSign.desc).map (fun d => d.parameters.length) = some 1 := by decide +kernel
theorem hdV_X4_has : yX4_has.cls = RX4 ∧ yX4_has.cls ≠ "java/lang/invoke/MethodHandle" ∧ yX4_has.cls ≠ "java/lang/invoke/VarHandle" ∧ (parseMethodDescriptor yX4_has.desc).map (fun d => d.parameters.length) = some 1 := by decide +kernel
theorem hdS_X4_letterOf : yX4_letterOf.cls ≠ "java/lang/invoke/MethodHandle" ∧ yX4_letterOf.cls ≠ "java/lang/invoke/VarHandle" ∧ (parseMethodDescriptor yX4_letterOf.desc).map (fun d => d.parameters.length) = some 1 := by decide +kernel
theorem hdV_X4_signAt : yX4_signAt.cls = RX4 ∧ yX4_signAt.cls ≠ "java/lang/invoke/MethodHandle" ∧ yX4_signAt.cls ≠ "java/lang/invoke/VarHandle" ∧ (parseMethodDescriptor yX4_signAt.desc).map (fun d => d.parameters.length) = some 1 := by decide +kernel
theorem hdV_X4_write : yX4_write.cls = RX4 ∧ yX4_write.cls ≠ "java/lang/invoke/MethodHandle" ∧ yX4_write.cls ≠ "java/lang/invoke/VarHandle" ∧ (parseMethodDescriptor yX4_write.desc).map (fun d => d.parameters.length) = some 2 := by decide +kernel
theorem hdV_X5_amounts : yX5_amounts.cls = RX5 ∧ yX5_amounts.cls ≠ "java/lang/invoke/MethodHandle" ∧ yX5_amounts.cls ≠ "java/lang/invoke/VarHandle" ∧ (parseMethodDescriptor yX5_amounts.desc).map (fun d => d.parameters.length) = some 0 := by decide +kernel
theorem hdS_X5_byRule : yX5_byRule.cls ≠ "java/lang/invoke/MethodHandle" ∧ yX5_byRule.cls ≠ "java/lang/invoke/VarHandle" ∧ (parseMethodDescriptor yX5_byRule.desc).map (fun d => d.parameters.length) = some 3 := by decide +kernel
theorem hdV_X5_change : yX5_change.cls = RX5 ∧ yX5_change.cls ≠ "java/lang/invoke/MethodHandle" ∧ yX5_change.cls ≠ "java/lang/invoke/VarHandle" ∧ (parseMethodDescriptor yX5_change.desc).map (fun d => d.parameters.length) = some 4 := by decide +kernel
theorem hdV_X5_conflictsFound : yX5_conflictsFound.cls = RX5 ∧ yX5_conflictsFound.cls ≠ "java/lang/invoke/MethodHandle" ∧ yX5_conflictsFound.cls ≠ "java/lang/invoke/VarHandle" ∧ (parseMethodDescriptor yX5_conflictsFound.desc).map (fun d => d.parameters.length) = some 0 := by decide +kernel
theorem hdV_X5_isRowOf : yX5_isRowOf.cls = RX5 ∧ yX5_isRowOf.cls ≠ "java/lang/invoke/MethodHandle" ∧ yX5_isRowOf.cls ≠ "java/lang/invoke/VarHandle" ∧ (parseMethodDescriptor yX5_isRowOf.desc).map (fun d => d.parameters.length) = some 2 := by decide +kernel
theorem hdV_X5_lowestConflict : yX5_lowestConflict.cls = RX5 ∧ yX5_lowestConflict.cls ≠ "java/lang/invoke/MethodHandle" ∧ yX5_lowestConflict.cls ≠ "java/lang/invoke/VarHandle" ∧ (parseMethodDescriptor yX5_lowestConflict.desc).map (fun d => d.parameters.length) = some 0 := by decide +kernel
theorem hdV_X5_putTogether : yX5_putTogether.cls = RX5 ∧ yX5_putTogether.cls ≠ "java/lang/invoke/MethodHandle" ∧ yX5_putTogether.cls ≠ "java/lang/invoke/VarHandle" ∧ (parseMethodDescriptor yX5_putTogether.desc).map (fun d => d.parameters.length) = some 5 := by decide +kernel
theorem hdV_X6_carryOut : yX6_carryOut.cls = RX6 ∧ yX6_carryOut.cls ≠ "java/lang/invoke/MethodHandle" ∧ yX6_carryOut.cls ≠ "java/lang/invoke/VarHandle" ∧ (parseMethodDescriptor yX6_carryOut.desc).map (fun d => d.parameters.length) = some 1 := by decide +kernel
theorem hdV_X6_carryOutOrder : yX6_carryOutOrder.cls = RX6 ∧ yX6_carryOutOrder.cls ≠ "java/lang/invoke/MethodHandle" ∧ yX6_carryOutOrder.cls ≠ "java/lang/invoke/VarHandle" ∧ (parseMethodDescriptor yX6_carryOutOrder.desc).map (fun d => d.parameters.length) = some 2 := by decide +kernel
theorem hdS_X6_isDigit : yX6_isDigit.cls ≠ "java/lang/invoke/MethodHandle" ∧ yX6_isDigit.cls ≠ "java/lang/invoke/VarHandle" ∧ (parseMethodDescriptor yX6_isDigit.desc).map (fun d => d.parameters.length) = some 1 := by decide +kernel
theorem hdV_X6_numberAt : yX6_numberAt.cls = RX6 ∧ yX6_numberAt.cls ≠ "java/lang/invoke/MethodHandle" ∧ yX6_numberAt.cls ≠ "java/lang/invoke/VarHandle" ∧ (parseMethodDescriptor yX6_numberAt.desc).map (fun d => d.parameters.length) = some 2 := by decide +kernel
theorem hdV_X6_parse : yX6_parse.cls = RX6 ∧ yX6_parse.cls ≠ "java/lang/invoke/MethodHandle" ∧ yX6_parse.cls ≠ "java/lang/invoke/VarHandle" ∧ (parseMethodDescriptor yX6_parse.desc).map (fun d => d.parameters.length) = some 1 := by decide +kernel
theorem hdV_X6_parseOrder : yX6_parseOrder.cls = RX6 ∧ yX6_parseOrder.cls ≠ "java/lang/invoke/MethodHandle" ∧ yX6_parseOrder.cls ≠ "java/lang/invoke/VarHandle" ∧ (parseMethodDescriptor yX6_parseOrder.desc).map (fun d => d.parameters.length) = some 1 := by decide +kernel
theorem hdV_X6_parseSign : yX6_parseSign.cls = RX6 ∧ yX6_parseSign.cls ≠ "java/lang/invoke/MethodHandle" ∧ yX6_parseSign.cls ≠ "java/lang/invoke/VarHandle" ∧ (parseMethodDescriptor yX6_parseSign.desc).map (fun d => d.parameters.length) = some 2 := by decide +kernel
theorem hdS_X6_shapeOf : yX6_shapeOf.cls ≠ "java/lang/invoke/MethodHandle" ∧ yX6_shapeOf.cls ≠ "java/lang/invoke/VarHandle" ∧ (parseMethodDescriptor yX6_shapeOf.desc).map (fun d => d.parameters.length) = some 1 := by decide +kernel
theorem hdV_X6_store : yX6_store.cls = RX6 ∧ yX6_store.cls ≠ "java/lang/invoke/MethodHandle" ∧ yX6_store.cls ≠ "java/lang/invoke/VarHandle" ∧ (parseMethodDescriptor yX6_store.desc).map (fun d => d.parameters.length) = some 1 := by decide +kernel
theorem hdV_X7_at : yX7_at.cls = RX7 ∧ yX7_at.cls ≠ "java/lang/invoke/MethodHandle" ∧ yX7_at.cls ≠ "java/lang/invoke/VarHandle" ∧ (parseMethodDescriptor yX7_at.desc).map (fun d => d.parameters.length) = some 1 := by decide +kernel
theorem hdV_X7_farthestBad : yX7_farthestBad.cls = RX7 ∧ yX7_farthestBad.cls ≠ "java/lang/invoke/MethodHandle" ∧ yX7_farthestBad.cls ≠ "java/lang/invoke/VarHandle" ∧ (parseMethodDescriptor yX7_farthestBad.desc).map (fun d => d.parameters.length) = some 3 := by decide +kernel
theorem hdV_X7_farthestBest : yX7_farthestBest.cls = RX7 ∧ yX7_farthestBest.cls ≠ "java/lang/invoke/MethodHandle" ∧ yX7_farthestBest.cls ≠ "java/lang/invoke/VarHandle" ∧ (parseMethodDescriptor yX7_farthestBest.desc).map (fun d => d.parameters.length) = some 1 := by decide +kernel
theorem hdV_X7_follow : yX7_follow.cls = RX7 ∧ yX7_follow.cls ≠ "java/lang/invoke/MethodHandle" ∧ yX7_follow.cls ≠ "java/lang/invoke/VarHandle" ∧ (parseMethodDescriptor yX7_follow.desc).map (fun d => d.parameters.length) = some 2 := by decide +kernel
theorem hdV_X7_latestChange : yX7_latestChange.cls = RX7 ∧ yX7_latestChange.cls ≠ "java/lang/invoke/MethodHandle" ∧ yX7_latestChange.cls ≠ "java/lang/invoke/VarHandle" ∧ (parseMethodDescriptor yX7_latestChange.desc).map (fun d => d.parameters.length) = some 2 := by decide +kernel
theorem hdV_X7_looksTaken : yX7_looksTaken.cls = RX7 ∧ yX7_looksTaken.cls ≠ "java/lang/invoke/MethodHandle" ∧ yX7_looksTaken.cls ≠ "java/lang/invoke/VarHandle" ∧ (parseMethodDescriptor yX7_looksTaken.desc).map (fun d => d.parameters.length) = some 0 := by decide +kernel
theorem hdV_X7_searchByHalves : yX7_searchByHalves.cls = RX7 ∧ yX7_searchByHalves.cls ≠ "java/lang/invoke/MethodHandle" ∧ yX7_searchByHalves.cls ≠ "java/lang/invoke/VarHandle" ∧ (parseMethodDescriptor yX7_searchByHalves.desc).map (fun d => d.parameters.length) = some 3 := by decide +kernel
theorem hdV_X8_account : yX8_account.cls = RX8 ∧ yX8_account.cls ≠ "java/lang/invoke/MethodHandle" ∧ yX8_account.cls ≠ "java/lang/invoke/VarHandle" ∧ (parseMethodDescriptor yX8_account.desc).map (fun d => d.parameters.length) = some 1 := by decide +kernel
theorem hdV_X8_amount : yX8_amount.cls = RX8 ∧ yX8_amount.cls ≠ "java/lang/invoke/MethodHandle" ∧ yX8_amount.cls ≠ "java/lang/invoke/VarHandle" ∧ (parseMethodDescriptor yX8_amount.desc).map (fun d => d.parameters.length) = some 2 := by decide +kernel
theorem hdV_X8_append : yX8_append.cls = RX8 ∧ yX8_append.cls ≠ "java/lang/invoke/MethodHandle" ∧ yX8_append.cls ≠ "java/lang/invoke/VarHandle" ∧ (parseMethodDescriptor yX8_append.desc).map (fun d => d.parameters.length) = some 1 := by decide +kernel
theorem hdV_X8_base : yX8_base.cls = RX8 ∧ yX8_base.cls ≠ "java/lang/invoke/MethodHandle" ∧ yX8_base.cls ≠ "java/lang/invoke/VarHandle" ∧ (parseMethodDescriptor yX8_base.desc).map (fun d => d.parameters.length) = some 2 := by decide +kernel
theorem hdV_X8_baseAgain : yX8_baseAgain.cls = RX8 ∧ yX8_baseAgain.cls ≠ "java/lang/invoke/MethodHandle" ∧ yX8_baseAgain.cls ≠ "java/lang/invoke/VarHandle" ∧ (parseMethodDescriptor yX8_baseAgain.desc).map (fun d => d.parameters.length) = some 2 := by decide +kernel
theorem hdS_X8_bitsOf : yX8_bitsOf.cls ≠ "java/lang/invoke/MethodHandle" ∧ yX8_bitsOf.cls ≠ "java/lang/invoke/VarHandle" ∧ (parseMethodDescriptor yX8_bitsOf.desc).map (fun d => d.parameters.length) = some 1 := by decide +kernel
theorem hdV_X8_blame : yX8_blame.cls = RX8 ∧ yX8_blame.cls ≠ "java/lang/invoke/MethodHandle" ∧ yX8_blame.cls ≠ "java/lang/invoke/VarHandle" ∧ (parseMethodDescriptor yX8_blame.desc).map (fun d => d.parameters.length) = some 2 := by decide +kernel
theorem hdV_X8_bundle : yX8_bundle.cls = RX8 ∧ yX8_bundle.cls ≠ "java/lang/invoke/MethodHandle" ∧ yX8_bundle.cls ≠ "java/lang/invoke/VarHandle" ∧ (parseMethodDescriptor yX8_bundle.desc).map (fun d => d.parameters.length) = some 1 := by decide +kernel
theorem hdV_X8_character : yX8_character.cls = RX8 ∧ yX8_character.cls ≠ "java/lang/invoke/MethodHandle" ∧ yX8_character.cls ≠ "java/lang/invoke/VarHandle" ∧ (parseMethodDescriptor yX8_character.desc).map (fun d => d.parameters.length) = some 1 := by decide +kernel
theorem hdV_X8_commitOf : yX8_commitOf.cls = RX8 ∧ yX8_commitOf.cls ≠ "java/lang/invoke/MethodHandle" ∧ yX8_commitOf.cls ≠ "java/lang/invoke/VarHandle" ∧ (parseMethodDescriptor yX8_commitOf.desc).map (fun d => d.parameters.length) = some 2 := by decide +kernel
theorem hdV_X8_conflicts : yX8_conflicts.cls = RX8 ∧ yX8_conflicts.cls ≠ "java/lang/invoke/MethodHandle" ∧ yX8_conflicts.cls ≠ "java/lang/invoke/VarHandle" ∧ (parseMethodDescriptor yX8_conflicts.desc).map (fun d => d.parameters.length) = some 2 := by decide +kernel
theorem hdV_X8_difference : yX8_difference.cls = RX8 ∧ yX8_difference.cls ≠ "java/lang/invoke/MethodHandle" ∧ yX8_difference.cls ≠ "java/lang/invoke/VarHandle" ∧ (parseMethodDescriptor yX8_difference.desc).map (fun d => d.parameters.length) = some 2 := by decide +kernel
theorem hdV_X8_edit : yX8_edit.cls = RX8 ∧ yX8_edit.cls ≠ "java/lang/invoke/MethodHandle" ∧ yX8_edit.cls ≠ "java/lang/invoke/VarHandle" ∧ (parseMethodDescriptor yX8_edit.desc).map (fun d => d.parameters.length) = some 3 := by decide +kernel
theorem hdV_X8_editShare : yX8_editShare.cls = RX8 ∧ yX8_editShare.cls ≠ "java/lang/invoke/MethodHandle" ∧ yX8_editShare.cls ≠ "java/lang/invoke/VarHandle" ∧ (parseMethodDescriptor yX8_editShare.desc).map (fun d => d.parameters.length) = some 0 := by decide +kernel
theorem hdV_X8_errorPosition : yX8_errorPosition.cls = RX8 ∧ yX8_errorPosition.cls ≠ "java/lang/invoke/MethodHandle" ∧ yX8_errorPosition.cls ≠ "java/lang/invoke/VarHandle" ∧ (parseMethodDescriptor yX8_errorPosition.desc).map (fun d => d.parameters.length) = some 0 := by decide +kernel
theorem hdV_X8_finished : yX8_finished.cls = RX8 ∧ yX8_finished.cls ≠ "java/lang/invoke/MethodHandle" ∧ yX8_finished.cls ≠ "java/lang/invoke/VarHandle" ∧ (parseMethodDescriptor yX8_finished.desc).map (fun d => d.parameters.length) = some 1 := by decide +kernel
theorem hdV_X8_firstBad : yX8_firstBad.cls = RX8 ∧ yX8_firstBad.cls ≠ "java/lang/invoke/MethodHandle" ∧ yX8_firstBad.cls ≠ "java/lang/invoke/VarHandle" ∧ (parseMethodDescriptor yX8_firstBad.desc).map (fun d => d.parameters.length) = some 3 := by decide +kernel
theorem hdV_X8_fork : yX8_fork.cls = RX8 ∧ yX8_fork.cls ≠ "java/lang/invoke/MethodHandle" ∧ yX8_fork.cls ≠ "java/lang/invoke/VarHandle" ∧ (parseMethodDescriptor yX8_fork.desc).map (fun d => d.parameters.length) = some 1 := by decide +kernel
theorem hdV_X8_halve : yX8_halve.cls = RX8 ∧ yX8_halve.cls ≠ "java/lang/invoke/MethodHandle" ∧ yX8_halve.cls ≠ "java/lang/invoke/VarHandle" ∧ (parseMethodDescriptor yX8_halve.desc).map (fun d => d.parameters.length) = some 4 := by decide +kernel
theorem hdV_X8_inBundle : yX8_inBundle.cls = RX8 ∧ yX8_inBundle.cls ≠ "java/lang/invoke/MethodHandle" ∧ yX8_inBundle.cls ≠ "java/lang/invoke/VarHandle" ∧ (parseMethodDescriptor yX8_inBundle.desc).map (fun d => d.parameters.length) = some 1 := by decide +kernel
theorem hdS_X8_isAmount : yX8_isAmount.cls ≠ "java/lang/invoke/MethodHandle" ∧ yX8_isAmount.cls ≠ "java/lang/invoke/VarHandle" ∧ (parseMethodDescriptor yX8_isAmount.desc).map (fun d => d.parameters.length) = some 1 := by decide +kernel
theorem hdV_X8_isIn : yX8_isIn.cls = RX8 ∧ yX8_isIn.cls ≠ "java/lang/invoke/MethodHandle" ∧ yX8_isIn.cls ≠ "java/lang/invoke/VarHandle" ∧ (parseMethodDescriptor yX8_isIn.desc).map (fun d => d.parameters.length) = some 2 := by decide +kernel
theorem hdS_X8_isInSet : yX8_isInSet.cls ≠ "java/lang/invoke/MethodHandle" ∧ yX8_isInSet.cls ≠ "java/lang/invoke/VarHandle" ∧ (parseMethodDescriptor yX8_isInSet.desc).map (fun d => d.parameters.length) = some 2 := by decide +kernel
theorem hdS_X8_isIngredient : yX8_isIngredient.cls ≠ "java/lang/invoke/MethodHandle" ∧ yX8_isIngredient.cls ≠ "java/lang/invoke/VarHandle" ∧ (parseMethodDescriptor yX8_isIngredient.desc).map (fun d => d.parameters.length) = some 1 := by decide +kernel
theorem hdS_X8_isPlace : yX8_isPlace.cls ≠ "java/lang/invoke/MethodHandle" ∧ yX8_isPlace.cls ≠ "java/lang/invoke/VarHandle" ∧ (parseMethodDescriptor yX8_isPlace.desc).map (fun d => d.parameters.length) = some 1 := by decide +kernel
theorem hdS_X8_isRule : yX8_isRule.cls ≠ "java/lang/invoke/MethodHandle" ∧ yX8_isRule.cls ≠ "java/lang/invoke/VarHandle" ∧ (parseMethodDescriptor yX8_isRule.desc).map (fun d => d.parameters.length) = some 1 := by decide +kernel
theorem hdV_X8_isWell : yX8_isWell.cls = RX8 ∧ yX8_isWell.cls ≠ "java/lang/invoke/MethodHandle" ∧ yX8_isWell.cls ≠ "java/lang/invoke/VarHandle" ∧ (parseMethodDescriptor yX8_isWell.desc).map (fun d => d.parameters.length) = some 0 := by decide +kernel
theorem hdV_X8_line : yX8_line.cls = RX8 ∧ yX8_line.cls ≠ "java/lang/invoke/MethodHandle" ∧ yX8_line.cls ≠ "java/lang/invoke/VarHandle" ∧ (parseMethodDescriptor yX8_line.desc).map (fun d => d.parameters.length) = some 1 := by decide +kernel
theorem hdV_X8_meanTaste : yX8_meanTaste.cls = RX8 ∧ yX8_meanTaste.cls ≠ "java/lang/invoke/MethodHandle" ∧ yX8_meanTaste.cls ≠ "java/lang/invoke/VarHandle" ∧ (parseMethodDescriptor yX8_meanTaste.desc).map (fun d => d.parameters.length) = some 0 := by decide +kernel
theorem hdV_X8_merge : yX8_merge.cls = RX8 ∧ yX8_merge.cls ≠ "java/lang/invoke/MethodHandle" ∧ yX8_merge.cls ≠ "java/lang/invoke/VarHandle" ∧ (parseMethodDescriptor yX8_merge.desc).map (fun d => d.parameters.length) = some 3 := by decide +kernel
theorem hdV_X8_needAmount : yX8_needAmount.cls = RX8 ∧ yX8_needAmount.cls ≠ "java/lang/invoke/MethodHandle" ∧ yX8_needAmount.cls ≠ "java/lang/invoke/VarHandle" ∧ (parseMethodDescriptor yX8_needAmount.desc).map (fun d => d.parameters.length) = some 1 := by decide +kernel
theorem hdV_X8_needBranch : yX8_needBranch.cls = RX8 ∧ yX8_needBranch.cls ≠ "java/lang/invoke/MethodHandle" ∧ yX8_needBranch.cls ≠ "java/lang/invoke/VarHandle" ∧ (parseMethodDescriptor yX8_needBranch.desc).map (fun d => d.parameters.length) = some 1 := by decide +kernel
theorem hdV_X8_needCommit : yX8_needCommit.cls = RX8 ∧ yX8_needCommit.cls ≠ "java/lang/invoke/MethodHandle" ∧ yX8_needCommit.cls ≠ "java/lang/invoke/VarHandle" ∧ (parseMethodDescriptor yX8_needCommit.desc).map (fun d => d.parameters.length) = some 1 := by decide +kernel
theorem hdV_X8_needIngredient : yX8_needIngredient.cls = RX8 ∧ yX8_needIngredient.cls ≠ "java/lang/invoke/MethodHandle" ∧ yX8_needIngredient.cls ≠ "java/lang/invoke/VarHandle" ∧ (parseMethodDescriptor yX8_needIngredient.desc).map (fun d => d.parameters.length) = some 1 := by decide +kernel
theorem hdV_X8_onLine : yX8_onLine.cls = RX8 ∧ yX8_onLine.cls ≠ "java/lang/invoke/MethodHandle" ∧ yX8_onLine.cls ≠ "java/lang/invoke/VarHandle" ∧ (parseMethodDescriptor yX8_onLine.desc).map (fun d => d.parameters.length) = some 2 := by decide +kernel
theorem hdV_X8_pick : yX8_pick.cls = RX8 ∧ yX8_pick.cls ≠ "java/lang/invoke/MethodHandle" ∧ yX8_pick.cls ≠ "java/lang/invoke/VarHandle" ∧ (parseMethodDescriptor yX8_pick.desc).map (fun d => d.parameters.length) = some 3 := by decide +kernel
theorem hdV_X8_play : yX8_play.cls = RX8 ∧ yX8_play.cls ≠ "java/lang/invoke/MethodHandle" ∧ yX8_play.cls ≠ "java/lang/invoke/VarHandle" ∧ (parseMethodDescriptor yX8_play.desc).map (fun d => d.parameters.length) = some 2 := by decide +kernel
theorem hdV_X8_put : yX8_put.cls = RX8 ∧ yX8_put.cls ≠ "java/lang/invoke/MethodHandle" ∧ yX8_put.cls ≠ "java/lang/invoke/VarHandle" ∧ (parseMethodDescriptor yX8_put.desc).map (fun d => d.parameters.length) = some 2 := by decide +kernel
theorem hdV_X8_read : yX8_read.cls = RX8 ∧ yX8_read.cls ≠ "java/lang/invoke/MethodHandle" ∧ yX8_read.cls ≠ "java/lang/invoke/VarHandle" ∧ (parseMethodDescriptor yX8_read.desc).map (fun d => d.parameters.length) = some 0 := by decide +kernel
theorem hdV_X8_refusal : yX8_refusal.cls = RX8 ∧ yX8_refusal.cls ≠ "java/lang/invoke/MethodHandle" ∧ yX8_refusal.cls ≠ "java/lang/invoke/VarHandle" ∧ (parseMethodDescriptor yX8_refusal.desc).map (fun d => d.parameters.length) = some 1 := by decide +kernel
theorem hdV_X8_reset : yX8_reset.cls = RX8 ∧ yX8_reset.cls ≠ "java/lang/invoke/MethodHandle" ∧ yX8_reset.cls ≠ "java/lang/invoke/VarHandle" ∧ (parseMethodDescriptor yX8_reset.desc).map (fun d => d.parameters.length) = some 2 := by decide +kernel
theorem hdV_X8_restore : yX8_restore.cls = RX8 ∧ yX8_restore.cls ≠ "java/lang/invoke/MethodHandle" ∧ yX8_restore.cls ≠ "java/lang/invoke/VarHandle" ∧ (parseMethodDescriptor yX8_restore.desc).map (fun d => d.parameters.length) = some 0 := by decide +kernel
theorem hdV_X8_revert : yX8_revert.cls = RX8 ∧ yX8_revert.cls ≠ "java/lang/invoke/MethodHandle" ∧ yX8_revert.cls ≠ "java/lang/invoke/VarHandle" ∧ (parseMethodDescriptor yX8_revert.desc).map (fun d => d.parameters.length) = some 3 := by decide +kernel
theorem hdV_X8_save : yX8_save.cls = RX8 ∧ yX8_save.cls ≠ "java/lang/invoke/MethodHandle" ∧ yX8_save.cls ≠ "java/lang/invoke/VarHandle" ∧ (parseMethodDescriptor yX8_save.desc).map (fun d => d.parameters.length) = some 0 := by decide +kernel
theorem hdS_X8_setOf : yX8_setOf.cls ≠ "java/lang/invoke/MethodHandle" ∧ yX8_setOf.cls ≠ "java/lang/invoke/VarHandle" ∧ (parseMethodDescriptor yX8_setOf.desc).map (fun d => d.parameters.length) = some 1 := by decide +kernel
theorem hdV_X8_taste : yX8_taste.cls = RX8 ∧ yX8_taste.cls ≠ "java/lang/invoke/MethodHandle" ∧ yX8_taste.cls ≠ "java/lang/invoke/VarHandle" ∧ (parseMethodDescriptor yX8_taste.desc).map (fun d => d.parameters.length) = some 1 := by decide +kernel
theorem hdV_X8_tasteBits : yX8_tasteBits.cls = RX8 ∧ yX8_tasteBits.cls ≠ "java/lang/invoke/MethodHandle" ∧ yX8_tasteBits.cls ≠ "java/lang/invoke/VarHandle" ∧ (parseMethodDescriptor yX8_tasteBits.desc).map (fun d => d.parameters.length) = some 1 := by decide +kernel
theorem hdV_X8_tastiest : yX8_tastiest.cls = RX8 ∧ yX8_tastiest.cls ≠ "java/lang/invoke/MethodHandle" ∧ yX8_tastiest.cls ≠ "java/lang/invoke/VarHandle" ∧ (parseMethodDescriptor yX8_tastiest.desc).map (fun d => d.parameters.length) = some 1 := by decide +kernel
theorem hdV_X8_tip : yX8_tip.cls = RX8 ∧ yX8_tip.cls ≠ "java/lang/invoke/MethodHandle" ∧ yX8_tip.cls ≠ "java/lang/invoke/VarHandle" ∧ (parseMethodDescriptor yX8_tip.desc).map (fun d => d.parameters.length) = some 1 := by decide +kernel
theorem hdV_X8_undo : yX8_undo.cls = RX8 ∧ yX8_undo.cls ≠ "java/lang/invoke/MethodHandle" ∧ yX8_undo.cls ≠ "java/lang/invoke/VarHandle" ∧ (parseMethodDescriptor yX8_undo.desc).map (fun d => d.parameters.length) = some 0 := by decide +kernel
theorem hdV_X9_account : yX9_account.cls = RX9 ∧ yX9_account.cls ≠ "java/lang/invoke/MethodHandle" ∧ yX9_account.cls ≠ "java/lang/invoke/VarHandle" ∧ (parseMethodDescriptor yX9_account.desc).map (fun d => d.parameters.length) = some 1 := by decide +kernel
theorem hdV_X9_amount : yX9_amount.cls = RX9 ∧ yX9_amount.cls ≠ "java/lang/invoke/MethodHandle" ∧ yX9_amount.cls ≠ "java/lang/invoke/VarHandle" ∧ (parseMethodDescriptor yX9_amount.desc).map (fun d => d.parameters.length) = some 2 := by decide +kernel
theorem hdV_X9_append : yX9_append.cls = RX9 ∧ yX9_append.cls ≠ "java/lang/invoke/MethodHandle" ∧ yX9_append.cls ≠ "java/lang/invoke/VarHandle" ∧ (parseMethodDescriptor yX9_append.desc).map (fun d => d.parameters.length) = some 1 := by decide +kernel
theorem hdV_X9_base : yX9_base.cls = RX9 ∧ yX9_base.cls ≠ "java/lang/invoke/MethodHandle" ∧ yX9_base.cls ≠ "java/lang/invoke/VarHandle" ∧ (parseMethodDescriptor yX9_base.desc).map (fun d => d.parameters.length) = some 2 := by decide +kernel
theorem hdV_X9_baseAgain : yX9_baseAgain.cls = RX9 ∧ yX9_baseAgain.cls ≠ "java/lang/invoke/MethodHandle" ∧ yX9_baseAgain.cls ≠ "java/lang/invoke/VarHandle" ∧ (parseMethodDescriptor yX9_baseAgain.desc).map (fun d => d.parameters.length) = some 2 := by decide +kernel
theorem hdV_X9_blame : yX9_blame.cls = RX9 ∧ yX9_blame.cls ≠ "java/lang/invoke/MethodHandle" ∧ yX9_blame.cls ≠ "java/lang/invoke/VarHandle" ∧ (parseMethodDescriptor yX9_blame.desc).map (fun d => d.parameters.length) = some 2 := by decide +kernel
theorem hdV_X9_bundle : yX9_bundle.cls = RX9 ∧ yX9_bundle.cls ≠ "java/lang/invoke/MethodHandle" ∧ yX9_bundle.cls ≠ "java/lang/invoke/VarHandle" ∧ (parseMethodDescriptor yX9_bundle.desc).map (fun d => d.parameters.length) = some 1 := by decide +kernel
theorem hdV_X9_carries : yX9_carries.cls = RX9 ∧ yX9_carries.cls ≠ "java/lang/invoke/MethodHandle" ∧ yX9_carries.cls ≠ "java/lang/invoke/VarHandle" ∧ (parseMethodDescriptor yX9_carries.desc).map (fun d => d.parameters.length) = some 0 := by decide +kernel
theorem hdV_X9_character : yX9_character.cls = RX9 ∧ yX9_character.cls ≠ "java/lang/invoke/MethodHandle" ∧ yX9_character.cls ≠ "java/lang/invoke/VarHandle" ∧ (parseMethodDescriptor yX9_character.desc).map (fun d => d.parameters.length) = some 1 := by decide +kernel
theorem hdV_X9_comes : yX9_comes.cls = RX9 ∧ yX9_comes.cls ≠ "java/lang/invoke/MethodHandle" ∧ yX9_comes.cls ≠ "java/lang/invoke/VarHandle" ∧ (parseMethodDescriptor yX9_comes.desc).map (fun d => d.parameters.length) = some 3 := by decide +kernel
theorem hdV_X9_comesBack : yX9_comesBack.cls = RX9 ∧ yX9_comesBack.cls ≠ "java/lang/invoke/MethodHandle" ∧ yX9_comesBack.cls ≠ "java/lang/invoke/VarHandle" ∧ (parseMethodDescriptor yX9_comesBack.desc).map (fun d => d.parameters.length) = some 0 := by decide +kernel
theorem hdV_X9_commitOf : yX9_commitOf.cls = RX9 ∧ yX9_commitOf.cls ≠ "java/lang/invoke/MethodHandle" ∧ yX9_commitOf.cls ≠ "java/lang/invoke/VarHandle" ∧ (parseMethodDescriptor yX9_commitOf.desc).map (fun d => d.parameters.length) = some 2 := by decide +kernel
theorem hdV_X9_common : yX9_common.cls = RX9 ∧ yX9_common.cls ≠ "java/lang/invoke/MethodHandle" ∧ yX9_common.cls ≠ "java/lang/invoke/VarHandle" ∧ (parseMethodDescriptor yX9_common.desc).map (fun d => d.parameters.length) = some 2 := by decide +kernel
theorem hdV_X9_conflicts : yX9_conflicts.cls = RX9 ∧ yX9_conflicts.cls ≠ "java/lang/invoke/MethodHandle" ∧ yX9_conflicts.cls ≠ "java/lang/invoke/VarHandle" ∧ (parseMethodDescriptor yX9_conflicts.desc).map (fun d => d.parameters.length) = some 2 := by decide +kernel
theorem hdV_X9_deep : yX9_deep.cls = RX9 ∧ yX9_deep.cls ≠ "java/lang/invoke/MethodHandle" ∧ yX9_deep.cls ≠ "java/lang/invoke/VarHandle" ∧ (parseMethodDescriptor yX9_deep.desc).map (fun d => d.parameters.length) = some 1 := by decide +kernel
theorem hdV_X9_difference : yX9_difference.cls = RX9 ∧ yX9_difference.cls ≠ "java/lang/invoke/MethodHandle" ∧ yX9_difference.cls ≠ "java/lang/invoke/VarHandle" ∧ (parseMethodDescriptor yX9_difference.desc).map (fun d => d.parameters.length) = some 2 := by decide +kernel
theorem hdV_X9_digits : yX9_digits.cls = RX9 ∧ yX9_digits.cls ≠ "java/lang/invoke/MethodHandle" ∧ yX9_digits.cls ≠ "java/lang/invoke/VarHandle" ∧ (parseMethodDescriptor yX9_digits.desc).map (fun d => d.parameters.length) = some 2 := by decide +kernel
theorem hdV_X9_does : yX9_does.cls = RX9 ∧ yX9_does.cls ≠ "java/lang/invoke/MethodHandle" ∧ yX9_does.cls ≠ "java/lang/invoke/VarHandle" ∧ (parseMethodDescriptor yX9_does.desc).map (fun d => d.parameters.length) = some 1 := by decide +kernel
theorem hdV_X9_edit : yX9_edit.cls = RX9 ∧ yX9_edit.cls ≠ "java/lang/invoke/MethodHandle" ∧ yX9_edit.cls ≠ "java/lang/invoke/VarHandle" ∧ (parseMethodDescriptor yX9_edit.desc).map (fun d => d.parameters.length) = some 3 := by decide +kernel
theorem hdV_X9_editShare : yX9_editShare.cls = RX9 ∧ yX9_editShare.cls ≠ "java/lang/invoke/MethodHandle" ∧ yX9_editShare.cls ≠ "java/lang/invoke/VarHandle" ∧ (parseMethodDescriptor yX9_editShare.desc).map (fun d => d.parameters.length) = some 0 := by decide +kernel
theorem hdV_X9_edits : yX9_edits.cls = RX9 ∧ yX9_edits.cls ≠ "java/lang/invoke/MethodHandle" ∧ yX9_edits.cls ≠ "java/lang/invoke/VarHandle" ∧ (parseMethodDescriptor yX9_edits.desc).map (fun d => d.parameters.length) = some 3 := by decide +kernel
theorem hdV_X9_ends : yX9_ends.cls = RX9 ∧ yX9_ends.cls ≠ "java/lang/invoke/MethodHandle" ∧ yX9_ends.cls ≠ "java/lang/invoke/VarHandle" ∧ (parseMethodDescriptor yX9_ends.desc).map (fun d => d.parameters.length) = some 1 := by decide +kernel
theorem hdV_X9_endsAt : yX9_endsAt.cls = RX9 ∧ yX9_endsAt.cls ≠ "java/lang/invoke/MethodHandle" ∧ yX9_endsAt.cls ≠ "java/lang/invoke/VarHandle" ∧ (parseMethodDescriptor yX9_endsAt.desc).map (fun d => d.parameters.length) = some 1 := by decide +kernel
theorem hdV_X9_errorPosition : yX9_errorPosition.cls = RX9 ∧ yX9_errorPosition.cls ≠ "java/lang/invoke/MethodHandle" ∧ yX9_errorPosition.cls ≠ "java/lang/invoke/VarHandle" ∧ (parseMethodDescriptor yX9_errorPosition.desc).map (fun d => d.parameters.length) = some 0 := by decide +kernel
theorem hdV_X9_family : yX9_family.cls = RX9 ∧ yX9_family.cls ≠ "java/lang/invoke/MethodHandle" ∧ yX9_family.cls ≠ "java/lang/invoke/VarHandle" ∧ (parseMethodDescriptor yX9_family.desc).map (fun d => d.parameters.length) = some 1 := by decide +kernel
theorem hdV_X9_far : yX9_far.cls = RX9 ∧ yX9_far.cls ≠ "java/lang/invoke/MethodHandle" ∧ yX9_far.cls ≠ "java/lang/invoke/VarHandle" ∧ (parseMethodDescriptor yX9_far.desc).map (fun d => d.parameters.length) = some 1 := by decide +kernel
theorem hdV_X9_firstBad : yX9_firstBad.cls = RX9 ∧ yX9_firstBad.cls ≠ "java/lang/invoke/MethodHandle" ∧ yX9_firstBad.cls ≠ "java/lang/invoke/VarHandle" ∧ (parseMethodDescriptor yX9_firstBad.desc).map (fun d => d.parameters.length) = some 3 := by decide +kernel
theorem hdV_X9_fork : yX9_fork.cls = RX9 ∧ yX9_fork.cls ≠ "java/lang/invoke/MethodHandle" ∧ yX9_fork.cls ≠ "java/lang/invoke/VarHandle" ∧ (parseMethodDescriptor yX9_fork.desc).map (fun d => d.parameters.length) = some 1 := by decide +kernel
theorem hdV_X9_forks : yX9_forks.cls = RX9 ∧ yX9_forks.cls ≠ "java/lang/invoke/MethodHandle" ∧ yX9_forks.cls ≠ "java/lang/invoke/VarHandle" ∧ (parseMethodDescriptor yX9_forks.desc).map (fun d => d.parameters.length) = some 1 := by decide +kernel
theorem hdV_X9_halve : yX9_halve.cls = RX9 ∧ yX9_halve.cls ≠ "java/lang/invoke/MethodHandle" ∧ yX9_halve.cls ≠ "java/lang/invoke/VarHandle" ∧ (parseMethodDescriptor yX9_halve.desc).map (fun d => d.parameters.length) = some 4 := by decide +kernel
theorem hdV_X9_has : yX9_has.cls = RX9 ∧ yX9_has.cls ≠ "java/lang/invoke/MethodHandle" ∧ yX9_has.cls ≠ "java/lang/invoke/VarHandle" ∧ (parseMethodDescriptor yX9_has.desc).map (fun d => d.parameters.length) = some 2 := by decide +kernel
theorem hdS_X9_in : yX9_in.cls ≠ "java/lang/invoke/MethodHandle" ∧ yX9_in.cls ≠ "java/lang/invoke/VarHandle" ∧ (parseMethodDescriptor yX9_in.desc).map (fun d => d.parameters.length) = some 3 := by decide +kernel
theorem hdV_X9_inBundle : yX9_inBundle.cls = RX9 ∧ yX9_inBundle.cls ≠ "java/lang/invoke/MethodHandle" ∧ yX9_inBundle.cls ≠ "java/lang/invoke/VarHandle" ∧ (parseMethodDescriptor yX9_inBundle.desc).map (fun d => d.parameters.length) = some 0 := by decide +kernel
theorem hdV_X9_inBundle_ : yX9_inBundle_.cls = RX9 ∧ yX9_inBundle_.cls ≠ "java/lang/invoke/MethodHandle" ∧ yX9_inBundle_.cls ≠ "java/lang/invoke/VarHandle" ∧ (parseMethodDescriptor yX9_inBundle_.desc).map (fun d => d.parameters.length) = some 1 := by decide +kernel
theorem hdV_X9_isBad : yX9_isBad.cls = RX9 ∧ yX9_isBad.cls ≠ "java/lang/invoke/MethodHandle" ∧ yX9_isBad.cls ≠ "java/lang/invoke/VarHandle" ∧ (parseMethodDescriptor yX9_isBad.desc).map (fun d => d.parameters.length) = some 3 := by decide +kernel
theorem hdV_X9_isBranch : yX9_isBranch.cls = RX9 ∧ yX9_isBranch.cls ≠ "java/lang/invoke/MethodHandle" ∧ yX9_isBranch.cls ≠ "java/lang/invoke/VarHandle" ∧ (parseMethodDescriptor yX9_isBranch.desc).map (fun d => d.parameters.length) = some 1 := by decide +kernel
theorem hdV_X9_isCommit : yX9_isCommit.cls = RX9 ∧ yX9_isCommit.cls ≠ "java/lang/invoke/MethodHandle" ∧ yX9_isCommit.cls ≠ "java/lang/invoke/VarHandle" ∧ (parseMethodDescriptor yX9_isCommit.desc).map (fun d => d.parameters.length) = some 1 := by decide +kernel
theorem hdV_X9_isIn : yX9_isIn.cls = RX9 ∧ yX9_isIn.cls ≠ "java/lang/invoke/MethodHandle" ∧ yX9_isIn.cls ≠ "java/lang/invoke/VarHandle" ∧ (parseMethodDescriptor yX9_isIn.desc).map (fun d => d.parameters.length) = some 2 := by decide +kernel
theorem hdS_X9_isKind : yX9_isKind.cls ≠ "java/lang/invoke/MethodHandle" ∧ yX9_isKind.cls ≠ "java/lang/invoke/VarHandle" ∧ (parseMethodDescriptor yX9_isKind.desc).map (fun d => d.parameters.length) = some 1 := by decide +kernel
theorem hdV_X9_isOrder : yX9_isOrder.cls = RX9 ∧ yX9_isOrder.cls ≠ "java/lang/invoke/MethodHandle" ∧ yX9_isOrder.cls ≠ "java/lang/invoke/VarHandle" ∧ (parseMethodDescriptor yX9_isOrder.desc).map (fun d => d.parameters.length) = some 0 := by decide +kernel
theorem hdV_X9_isWell : yX9_isWell.cls = RX9 ∧ yX9_isWell.cls ≠ "java/lang/invoke/MethodHandle" ∧ yX9_isWell.cls ≠ "java/lang/invoke/VarHandle" ∧ (parseMethodDescriptor yX9_isWell.desc).map (fun d => d.parameters.length) = some 0 := by decide +kernel
theorem hdV_X9_isWithin : yX9_isWithin.cls = RX9 ∧ yX9_isWithin.cls ≠ "java/lang/invoke/MethodHandle" ∧ yX9_isWithin.cls ≠ "java/lang/invoke/VarHandle" ∧ (parseMethodDescriptor yX9_isWithin.desc).map (fun d => d.parameters.length) = some 2 := by decide +kernel
theorem hdV_X9_keeps : yX9_keeps.cls = RX9 ∧ yX9_keeps.cls ≠ "java/lang/invoke/MethodHandle" ∧ yX9_keeps.cls ≠ "java/lang/invoke/VarHandle" ∧ (parseMethodDescriptor yX9_keeps.desc).map (fun d => d.parameters.length) = some 1 := by decide +kernel
theorem hdV_X9_lays : yX9_lays.cls = RX9 ∧ yX9_lays.cls ≠ "java/lang/invoke/MethodHandle" ∧ yX9_lays.cls ≠ "java/lang/invoke/VarHandle" ∧ (parseMethodDescriptor yX9_lays.desc).map (fun d => d.parameters.length) = some 1 := by decide +kernel
theorem hdV_X9_line : yX9_line.cls = RX9 ∧ yX9_line.cls ≠ "java/lang/invoke/MethodHandle" ∧ yX9_line.cls ≠ "java/lang/invoke/VarHandle" ∧ (parseMethodDescriptor yX9_line.desc).map (fun d => d.parameters.length) = some 1 := by decide +kernel
theorem hdV_X9_meanTaste : yX9_meanTaste.cls = RX9 ∧ yX9_meanTaste.cls ≠ "java/lang/invoke/MethodHandle" ∧ yX9_meanTaste.cls ≠ "java/lang/invoke/VarHandle" ∧ (parseMethodDescriptor yX9_meanTaste.desc).map (fun d => d.parameters.length) = some 0 := by decide +kernel
theorem hdV_X9_merge : yX9_merge.cls = RX9 ∧ yX9_merge.cls ≠ "java/lang/invoke/MethodHandle" ∧ yX9_merge.cls ≠ "java/lang/invoke/VarHandle" ∧ (parseMethodDescriptor yX9_merge.desc).map (fun d => d.parameters.length) = some 3 := by decide +kernel
theorem hdV_X9_merges : yX9_merges.cls = RX9 ∧ yX9_merges.cls ≠ "java/lang/invoke/MethodHandle" ∧ yX9_merges.cls ≠ "java/lang/invoke/VarHandle" ∧ (parseMethodDescriptor yX9_merges.desc).map (fun d => d.parameters.length) = some 3 := by decide +kernel
theorem hdV_X9_mixes : yX9_mixes.cls = RX9 ∧ yX9_mixes.cls ≠ "java/lang/invoke/MethodHandle" ∧ yX9_mixes.cls ≠ "java/lang/invoke/VarHandle" ∧ (parseMethodDescriptor yX9_mixes.desc).map (fun d => d.parameters.length) = some 4 := by decide +kernel
theorem hdV_X9_of : yX9_of.cls = RX9 ∧ yX9_of.cls ≠ "java/lang/invoke/MethodHandle" ∧ yX9_of.cls ≠ "java/lang/invoke/VarHandle" ∧ (parseMethodDescriptor yX9_of.desc).map (fun d => d.parameters.length) = some 2 := by decide +kernel
theorem hdV_X9_onLine : yX9_onLine.cls = RX9 ∧ yX9_onLine.cls ≠ "java/lang/invoke/MethodHandle" ∧ yX9_onLine.cls ≠ "java/lang/invoke/VarHandle" ∧ (parseMethodDescriptor yX9_onLine.desc).map (fun d => d.parameters.length) = some 2 := by decide +kernel
theorem hdV_X9_onLineOf : yX9_onLineOf.cls = RX9 ∧ yX9_onLineOf.cls ≠ "java/lang/invoke/MethodHandle" ∧ yX9_onLineOf.cls ≠ "java/lang/invoke/VarHandle" ∧ (parseMethodDescriptor yX9_onLineOf.desc).map (fun d => d.parameters.length) = some 2 := by decide +kernel
theorem hdV_X9_pick : yX9_pick.cls = RX9 ∧ yX9_pick.cls ≠ "java/lang/invoke/MethodHandle" ∧ yX9_pick.cls ≠ "java/lang/invoke/VarHandle" ∧ (parseMethodDescriptor yX9_pick.desc).map (fun d => d.parameters.length) = some 3 := by decide +kernel
theorem hdV_X9_picked : yX9_picked.cls = RX9 ∧ yX9_picked.cls ≠ "java/lang/invoke/MethodHandle" ∧ yX9_picked.cls ≠ "java/lang/invoke/VarHandle" ∧ (parseMethodDescriptor yX9_picked.desc).map (fun d => d.parameters.length) = some 2 := by decide +kernel
theorem hdV_X9_picks : yX9_picks.cls = RX9 ∧ yX9_picks.cls ≠ "java/lang/invoke/MethodHandle" ∧ yX9_picks.cls ≠ "java/lang/invoke/VarHandle" ∧ (parseMethodDescriptor yX9_picks.desc).map (fun d => d.parameters.length) = some 3 := by decide +kernel
theorem hdV_X9_play : yX9_play.cls = RX9 ∧ yX9_play.cls ≠ "java/lang/invoke/MethodHandle" ∧ yX9_play.cls ≠ "java/lang/invoke/VarHandle" ∧ (parseMethodDescriptor yX9_play.desc).map (fun d => d.parameters.length) = some 2 := by decide +kernel
theorem hdV_X9_plays : yX9_plays.cls = RX9 ∧ yX9_plays.cls ≠ "java/lang/invoke/MethodHandle" ∧ yX9_plays.cls ≠ "java/lang/invoke/VarHandle" ∧ (parseMethodDescriptor yX9_plays.desc).map (fun d => d.parameters.length) = some 2 := by decide +kernel
theorem hdV_X9_put : yX9_put.cls = RX9 ∧ yX9_put.cls ≠ "java/lang/invoke/MethodHandle" ∧ yX9_put.cls ≠ "java/lang/invoke/VarHandle" ∧ (parseMethodDescriptor yX9_put.desc).map (fun d => d.parameters.length) = some 2 := by decide +kernel
theorem hdV_X9_puts : yX9_puts.cls = RX9 ∧ yX9_puts.cls ≠ "java/lang/invoke/MethodHandle" ∧ yX9_puts.cls ≠ "java/lang/invoke/VarHandle" ∧ (parseMethodDescriptor yX9_puts.desc).map (fun d => d.parameters.length) = some 2 := by decide +kernel
theorem hdV_X9_raises : yX9_raises.cls = RX9 ∧ yX9_raises.cls ≠ "java/lang/invoke/MethodHandle" ∧ yX9_raises.cls ≠ "java/lang/invoke/VarHandle" ∧ (parseMethodDescriptor yX9_raises.desc).map (fun d => d.parameters.length) = some 1 := by decide +kernel
theorem hdV_X9_read : yX9_read.cls = RX9 ∧ yX9_read.cls ≠ "java/lang/invoke/MethodHandle" ∧ yX9_read.cls ≠ "java/lang/invoke/VarHandle" ∧ (parseMethodDescriptor yX9_read.desc).map (fun d => d.parameters.length) = some 0 := by decide +kernel
theorem hdV_X9_refusal : yX9_refusal.cls = RX9 ∧ yX9_refusal.cls ≠ "java/lang/invoke/MethodHandle" ∧ yX9_refusal.cls ≠ "java/lang/invoke/VarHandle" ∧ (parseMethodDescriptor yX9_refusal.desc).map (fun d => d.parameters.length) = some 1 := by decide +kernel
theorem hdV_X9_refuses : yX9_refuses.cls = RX9 ∧ yX9_refuses.cls ≠ "java/lang/invoke/MethodHandle" ∧ yX9_refuses.cls ≠ "java/lang/invoke/VarHandle" ∧ (parseMethodDescriptor yX9_refuses.desc).map (fun d => d.parameters.length) = some 2 := by decide +kernel
theorem hdV_X9_reset : yX9_reset.cls = RX9 ∧ yX9_reset.cls ≠ "java/lang/invoke/MethodHandle" ∧ yX9_reset.cls ≠ "java/lang/invoke/VarHandle" ∧ (parseMethodDescriptor yX9_reset.desc).map (fun d => d.parameters.length) = some 2 := by decide +kernel
theorem hdV_X9_resets : yX9_resets.cls = RX9 ∧ yX9_resets.cls ≠ "java/lang/invoke/MethodHandle" ∧ yX9_resets.cls ≠ "java/lang/invoke/VarHandle" ∧ (parseMethodDescriptor yX9_resets.desc).map (fun d => d.parameters.length) = some 2 := by decide +kernel
theorem hdV_X9_restore : yX9_restore.cls = RX9 ∧ yX9_restore.cls ≠ "java/lang/invoke/MethodHandle" ∧ yX9_restore.cls ≠ "java/lang/invoke/VarHandle" ∧ (parseMethodDescriptor yX9_restore.desc).map (fun d => d.parameters.length) = some 0 := by decide +kernel
theorem hdV_X9_revert : yX9_revert.cls = RX9 ∧ yX9_revert.cls ≠ "java/lang/invoke/MethodHandle" ∧ yX9_revert.cls ≠ "java/lang/invoke/VarHandle" ∧ (parseMethodDescriptor yX9_revert.desc).map (fun d => d.parameters.length) = some 3 := by decide +kernel
theorem hdV_X9_reverts : yX9_reverts.cls = RX9 ∧ yX9_reverts.cls ≠ "java/lang/invoke/MethodHandle" ∧ yX9_reverts.cls ≠ "java/lang/invoke/VarHandle" ∧ (parseMethodDescriptor yX9_reverts.desc).map (fun d => d.parameters.length) = some 3 := by decide +kernel
theorem hdV_X9_save : yX9_save.cls = RX9 ∧ yX9_save.cls ≠ "java/lang/invoke/MethodHandle" ∧ yX9_save.cls ≠ "java/lang/invoke/VarHandle" ∧ (parseMethodDescriptor yX9_save.desc).map (fun d => d.parameters.length) = some 0 := by decide +kernel
theorem hdV_X9_sign : yX9_sign.cls = RX9 ∧ yX9_sign.cls ≠ "java/lang/invoke/MethodHandle" ∧ yX9_sign.cls ≠ "java/lang/invoke/VarHandle" ∧ (parseMethodDescriptor yX9_sign.desc).map (fun d => d.parameters.length) = some 1 := by decide +kernel
theorem hdV_X9_taste : yX9_taste.cls = RX9 ∧ yX9_taste.cls ≠ "java/lang/invoke/MethodHandle" ∧ yX9_taste.cls ≠ "java/lang/invoke/VarHandle" ∧ (parseMethodDescriptor yX9_taste.desc).map (fun d => d.parameters.length) = some 1 := by decide +kernel
theorem hdV_X9_tasteBits : yX9_tasteBits.cls = RX9 ∧ yX9_tasteBits.cls ≠ "java/lang/invoke/MethodHandle" ∧ yX9_tasteBits.cls ≠ "java/lang/invoke/VarHandle" ∧ (parseMethodDescriptor yX9_tasteBits.desc).map (fun d => d.parameters.length) = some 1 := by decide +kernel
theorem hdV_X9_tasteOf : yX9_tasteOf.cls = RX9 ∧ yX9_tasteOf.cls ≠ "java/lang/invoke/MethodHandle" ∧ yX9_tasteOf.cls ≠ "java/lang/invoke/VarHandle" ∧ (parseMethodDescriptor yX9_tasteOf.desc).map (fun d => d.parameters.length) = some 1 := by decide +kernel
theorem hdV_X9_tastiest : yX9_tastiest.cls = RX9 ∧ yX9_tastiest.cls ≠ "java/lang/invoke/MethodHandle" ∧ yX9_tastiest.cls ≠ "java/lang/invoke/VarHandle" ∧ (parseMethodDescriptor yX9_tastiest.desc).map (fun d => d.parameters.length) = some 1 := by decide +kernel
theorem hdV_X9_those : yX9_those.cls = RX9 ∧ yX9_those.cls ≠ "java/lang/invoke/MethodHandle" ∧ yX9_those.cls ≠ "java/lang/invoke/VarHandle" ∧ (parseMethodDescriptor yX9_those.desc).map (fun d => d.parameters.length) = some 1 := by decide +kernel
theorem hdV_X9_thrown : yX9_thrown.cls = RX9 ∧ yX9_thrown.cls ≠ "java/lang/invoke/MethodHandle" ∧ yX9_thrown.cls ≠ "java/lang/invoke/VarHandle" ∧ (parseMethodDescriptor yX9_thrown.desc).map (fun d => d.parameters.length) = some 0 := by decide +kernel
theorem hdV_X9_tip : yX9_tip.cls = RX9 ∧ yX9_tip.cls ≠ "java/lang/invoke/MethodHandle" ∧ yX9_tip.cls ≠ "java/lang/invoke/VarHandle" ∧ (parseMethodDescriptor yX9_tip.desc).map (fun d => d.parameters.length) = some 1 := by decide +kernel
theorem hdV_X9_top : yX9_top.cls = RX9 ∧ yX9_top.cls ≠ "java/lang/invoke/MethodHandle" ∧ yX9_top.cls ≠ "java/lang/invoke/VarHandle" ∧ (parseMethodDescriptor yX9_top.desc).map (fun d => d.parameters.length) = some 1 := by decide +kernel
theorem hdV_X9_tries : yX9_tries.cls = RX9 ∧ yX9_tries.cls ≠ "java/lang/invoke/MethodHandle" ∧ yX9_tries.cls ≠ "java/lang/invoke/VarHandle" ∧ (parseMethodDescriptor yX9_tries.desc).map (fun d => d.parameters.length) = some 0 := by decide +kernel
theorem hdV_X9_undo : yX9_undo.cls = RX9 ∧ yX9_undo.cls ≠ "java/lang/invoke/MethodHandle" ∧ yX9_undo.cls ≠ "java/lang/invoke/VarHandle" ∧ (parseMethodDescriptor yX9_undo.desc).map (fun d => d.parameters.length) = some 0 := by decide +kernel
theorem hdV_X9_unlike : yX9_unlike.cls = RX9 ∧ yX9_unlike.cls ≠ "java/lang/invoke/MethodHandle" ∧ yX9_unlike.cls ≠ "java/lang/invoke/VarHandle" ∧ (parseMethodDescriptor yX9_unlike.desc).map (fun d => d.parameters.length) = some 2 := by decide +kernel
theorem hdV_X9_writesNumber : yX9_writesNumber.cls = RX9 ∧ yX9_writesNumber.cls ≠ "java/lang/invoke/MethodHandle" ∧ yX9_writesNumber.cls ≠ "java/lang/invoke/VarHandle" ∧ (parseMethodDescriptor yX9_writesNumber.desc).map (fun d => d.parameters.length) = some 1 := by decide +kernel
abbrev Fo : Type := Int32 × Int32 × Int32 × AI × AI × AI × AI × AI × AI × AI × AI
def fo_commits (φ : Fo) : Int32 := φ.1
def fo_branches (φ : Fo) : Int32 := φ.2.1
def fo_purpose (φ : Fo) : Int32 := φ.2.2.1
def fo_kinds (φ : Fo) : AI := φ.2.2.2.1
def fo_firsts (φ : Fo) : AI := φ.2.2.2.2.1
def fo_seconds (φ : Fo) : AI := φ.2.2.2.2.2.1
def fo_families (φ : Fo) : AI := φ.2.2.2.2.2.2.1
def fo_depths (φ : Fo) : AI := φ.2.2.2.2.2.2.2.1
def fo_amounts (φ : Fo) : AI := φ.2.2.2.2.2.2.2.2.1
def fo_tips (φ : Fo) : AI := φ.2.2.2.2.2.2.2.2.2.1
def fo_bundled (φ : Fo) : AI := φ.2.2.2.2.2.2.2.2.2.2
def fo_s_commits (φ : Fo) (v : Int32) : Fo := (v, φ.2.1, φ.2.2.1, φ.2.2.2.1, φ.2.2.2.2.1, φ.2.2.2.2.2.1, φ.2.2.2.2.2.2.1, φ.2.2.2.2.2.2.2.1, φ.2.2.2.2.2.2.2.2.1, φ.2.2.2.2.2.2.2.2.2.1, φ.2.2.2.2.2.2.2.2.2.2)
def fo_s_branches (φ : Fo) (v : Int32) : Fo := (φ.1, v, φ.2.2.1, φ.2.2.2.1, φ.2.2.2.2.1, φ.2.2.2.2.2.1, φ.2.2.2.2.2.2.1, φ.2.2.2.2.2.2.2.1, φ.2.2.2.2.2.2.2.2.1, φ.2.2.2.2.2.2.2.2.2.1, φ.2.2.2.2.2.2.2.2.2.2)
def fo_s_purpose (φ : Fo) (v : Int32) : Fo := (φ.1, φ.2.1, v, φ.2.2.2.1, φ.2.2.2.2.1, φ.2.2.2.2.2.1, φ.2.2.2.2.2.2.1, φ.2.2.2.2.2.2.2.1, φ.2.2.2.2.2.2.2.2.1, φ.2.2.2.2.2.2.2.2.2.1, φ.2.2.2.2.2.2.2.2.2.2)
def fo_s_kinds (φ : Fo) (v : AI) : Fo := (φ.1, φ.2.1, φ.2.2.1, v, φ.2.2.2.2.1, φ.2.2.2.2.2.1, φ.2.2.2.2.2.2.1, φ.2.2.2.2.2.2.2.1, φ.2.2.2.2.2.2.2.2.1, φ.2.2.2.2.2.2.2.2.2.1, φ.2.2.2.2.2.2.2.2.2.2)
def fo_s_firsts (φ : Fo) (v : AI) : Fo := (φ.1, φ.2.1, φ.2.2.1, φ.2.2.2.1, v, φ.2.2.2.2.2.1, φ.2.2.2.2.2.2.1, φ.2.2.2.2.2.2.2.1, φ.2.2.2.2.2.2.2.2.1, φ.2.2.2.2.2.2.2.2.2.1, φ.2.2.2.2.2.2.2.2.2.2)
def fo_s_seconds (φ : Fo) (v : AI) : Fo := (φ.1, φ.2.1, φ.2.2.1, φ.2.2.2.1, φ.2.2.2.2.1, v, φ.2.2.2.2.2.2.1, φ.2.2.2.2.2.2.2.1, φ.2.2.2.2.2.2.2.2.1, φ.2.2.2.2.2.2.2.2.2.1, φ.2.2.2.2.2.2.2.2.2.2)
def fo_s_families (φ : Fo) (v : AI) : Fo := (φ.1, φ.2.1, φ.2.2.1, φ.2.2.2.1, φ.2.2.2.2.1, φ.2.2.2.2.2.1, v, φ.2.2.2.2.2.2.2.1, φ.2.2.2.2.2.2.2.2.1, φ.2.2.2.2.2.2.2.2.2.1, φ.2.2.2.2.2.2.2.2.2.2)
def fo_s_depths (φ : Fo) (v : AI) : Fo := (φ.1, φ.2.1, φ.2.2.1, φ.2.2.2.1, φ.2.2.2.2.1, φ.2.2.2.2.2.1, φ.2.2.2.2.2.2.1, v, φ.2.2.2.2.2.2.2.2.1, φ.2.2.2.2.2.2.2.2.2.1, φ.2.2.2.2.2.2.2.2.2.2)
def fo_s_amounts (φ : Fo) (v : AI) : Fo := (φ.1, φ.2.1, φ.2.2.1, φ.2.2.2.1, φ.2.2.2.2.1, φ.2.2.2.2.2.1, φ.2.2.2.2.2.2.1, φ.2.2.2.2.2.2.2.1, v, φ.2.2.2.2.2.2.2.2.2.1, φ.2.2.2.2.2.2.2.2.2.2)
def fo_s_tips (φ : Fo) (v : AI) : Fo := (φ.1, φ.2.1, φ.2.2.1, φ.2.2.2.1, φ.2.2.2.2.1, φ.2.2.2.2.2.1, φ.2.2.2.2.2.2.1, φ.2.2.2.2.2.2.2.1, φ.2.2.2.2.2.2.2.2.1, v, φ.2.2.2.2.2.2.2.2.2.2)
def fo_s_bundled (φ : Fo) (v : AI) : Fo := (φ.1, φ.2.1, φ.2.2.1, φ.2.2.2.1, φ.2.2.2.2.1, φ.2.2.2.2.2.1, φ.2.2.2.2.2.2.1, φ.2.2.2.2.2.2.2.1, φ.2.2.2.2.2.2.2.2.1, φ.2.2.2.2.2.2.2.2.2.1, v)
def gX0 (E : PE) (a : Nat → Nat) (r_forest : Nat) (r_mix : Nat) (v_reason : Int32) (v_detail : Int32) : va_W := [(a 0, .inr (0, [.ref r_forest, .ref r_mix, .int v_reason, .int v_detail]))]
def gX1 (E : PE) (a : Nat → Nat) (φ : Fo) : va_W := [(a 0, .inr (1, [.int (fo_commits φ), .int (fo_branches φ), .int (fo_purpose φ), .ref (a 1), .ref (a 2), .ref (a 3), .ref (a 4), .ref (a 5), .ref (a 6), .ref (a 7), .ref (a 8)])), (a 1, .inl (E.2.1, 24, .inl (fo_kinds φ))), (a 2, .inl (E.2.1, 24, .inl (fo_firsts φ))), (a 3, .inl (E.2.1, 24, .inl (fo_seconds φ))), (a 4, .inl (E.2.1, 24, .inl (fo_families φ))), (a 5, .inl (E.2.1, 24, .inl (fo_depths φ))), (a 6, .inl (E.2.1, 144, .inl (fo_amounts φ))), (a 7, .inl (E.2.1, 5, .inl (fo_tips φ))), (a 8, .inl (E.2.1, 4, .inl (fo_bundled φ)))]
def gX3 (E : PE) (a : Nat → Nat) (v_signs : AI) (v_length : Int32) : va_W := [(a 0, .inr (3, [.ref (a 1), .int v_length])), (a 1, .inl (E.2.2.1, 60, .inl (fun j => ch (v_signs j))))]
def gX4 (E : PE) (a : Nat → Nat) (v_signs : AI) (v_length : Int32) : va_W := [(a 0, .inr (4, [.ref (a 1), .int v_length])), (a 1, .inl (E.2.2.1, 24, .inl (fun j => ch (v_signs j))))]
def gX5 (E : PE) (a : Nat → Nat) (v_row : AI) (v_conflictCount : Int32) (v_lowest : Int32) : va_W := [(a 0, .inr (5, [.ref (a 1), .int v_conflictCount, .int v_lowest])), (a 1, .inl (E.2.1, 6, .inl (v_row)))]
def gX6 (E : PE) (a : Nat → Nat) (v_rows : AI) (v_count : Int32) (v_position : Int32) (v_column : Int32) : va_W := [(a 0, .inr (6, [.ref (a 1), .int v_count, .int v_position, .int v_column])), (a 1, .inl (E.2.1, 84, .inl (v_rows)))]
def gX7 (E : PE) (a : Nat → Nat) (v_commits : AI) (v_length : Int32) (v_looks : Int32) : va_W := [(a 0, .inr (7, [.ref (a 1), .int v_length, .int v_looks])), (a 1, .inl (E.2.1, 24, .inl (v_commits)))]
def gX9 (E : PE) (a : Nat → Nat) (v_now : AI) (v_tried : AI) (v_kept : AI) (v_undos : Int32) (v_saved : AI) (v_isSaved : Int32) (v_line : AI) (v_lined : Int32) (v_text : AI) (v_length : Int32) (v_at : Int32) (v_order : Int32) (v_told : AI) (v_error : Int32) (v_reason : Int32) (v_detail : Int32) (v_answer : Int32) (v_thrown : Int32) (v_mixed : AI) (v_conflicts : Int32) (v_firstConflict : Int32) : va_W := [(a 0, .inr (9, [.ref (a 1), .ref (a 2), .ref (a 3), .int v_undos, .ref (a 4), .int v_isSaved, .ref (a 5), .int v_lined, .ref (a 6), .int v_length, .int v_at, .int (ch v_order), .ref (a 7), .int v_error, .int v_reason, .int v_detail, .int v_answer, .int v_thrown, .ref (a 8), .int v_conflicts, .int v_firstConflict])), (a 1, .inl (E.2.1, 228, .inl (v_now))), (a 2, .inl (E.2.1, 228, .inl (v_tried))), (a 3, .inl (E.2.1, 1824, .inl (v_kept))), (a 4, .inl (E.2.1, 228, .inl (v_saved))), (a 5, .inl (E.2.2.1, 40, .inl (fun j => ch (v_line j)))), (a 6, .inl (E.2.2.1, 60, .inl (fun j => ch (v_text j)))), (a 7, .inl (E.2.1, 3, .inl (v_told))), (a 8, .inl (E.2.1, 6, .inl (v_mixed)))]
set_option maxRecDepth 20000 in
theorem iX0 : ∀ w ∈ u_ws RX0 TX0 4, w ∈ lw_all := show ∀ w ∈ [u_lay RX0 TX0 0, u_lay RX0 TX0 1, u_lay RX0 TX0 2, u_lay RX0 TX0 3], w ∈ lw_all from (List.forall_mem_cons.mpr ⟨lw_in 180 rfl rfl, (List.forall_mem_cons.mpr ⟨lw_in 182 rfl rfl, (List.forall_mem_cons.mpr ⟨lw_in 184 rfl rfl, (List.forall_mem_cons.mpr ⟨lw_in 186 rfl rfl, (fun _ h => absurd h List.not_mem_nil)⟩)⟩)⟩)⟩)
set_option maxRecDepth 20000 in
theorem iX1 : ∀ w ∈ u_ws RX1 TX1 11, w ∈ lw_all := show ∀ w ∈ [u_lay RX1 TX1 0, u_lay RX1 TX1 1, u_lay RX1 TX1 2, u_lay RX1 TX1 3, u_lay RX1 TX1 4, u_lay RX1 TX1 5, u_lay RX1 TX1 6, u_lay RX1 TX1 7, u_lay RX1 TX1 8, u_lay RX1 TX1 9, u_lay RX1 TX1 10], w ∈ lw_all from (List.forall_mem_cons.mpr ⟨lw_in 111 rfl rfl, (List.forall_mem_cons.mpr ⟨lw_in 113 rfl rfl, (List.forall_mem_cons.mpr ⟨lw_in 115 rfl rfl, (List.forall_mem_cons.mpr ⟨lw_in 117 rfl rfl, (List.forall_mem_cons.mpr ⟨lw_in 119 rfl rfl, (List.forall_mem_cons.mpr ⟨lw_in 121 rfl rfl, (List.forall_mem_cons.mpr ⟨lw_in 123 rfl rfl, (List.forall_mem_cons.mpr ⟨lw_in 125 rfl rfl, (List.forall_mem_cons.mpr ⟨lw_in 127 rfl rfl, (List.forall_mem_cons.mpr ⟨lw_in 129 rfl rfl, (List.forall_mem_cons.mpr ⟨lw_in 131 rfl rfl, (fun _ h => absurd h List.not_mem_nil)⟩)⟩)⟩)⟩)⟩)⟩)⟩)⟩)⟩)⟩)⟩)
set_option maxRecDepth 20000 in
theorem iX2 : ∀ w ∈ u_ws RX2 TX2 3, w ∈ lw_all := show ∀ w ∈ [u_lay RX2 TX2 0, u_lay RX2 TX2 1, u_lay RX2 TX2 2], w ∈ lw_all from (List.forall_mem_cons.mpr ⟨lw_in 147 rfl rfl, (List.forall_mem_cons.mpr ⟨lw_in 149 rfl rfl, (List.forall_mem_cons.mpr ⟨lw_in 151 rfl rfl, (fun _ h => absurd h List.not_mem_nil)⟩)⟩)⟩)
set_option maxRecDepth 20000 in
theorem iX3 : ∀ w ∈ u_ws RX3 TX3 2, w ∈ lw_all := show ∀ w ∈ [u_lay RX3 TX3 0, u_lay RX3 TX3 1], w ∈ lw_all from (List.forall_mem_cons.mpr ⟨lw_in 213 rfl rfl, (List.forall_mem_cons.mpr ⟨lw_in 215 rfl rfl, (fun _ h => absurd h List.not_mem_nil)⟩)⟩)
set_option maxRecDepth 20000 in
theorem iX4 : ∀ w ∈ u_ws RX4 TX4 2, w ∈ lw_all := show ∀ w ∈ [u_lay RX4 TX4 0, u_lay RX4 TX4 1], w ∈ lw_all from (List.forall_mem_cons.mpr ⟨lw_in 246 rfl rfl, (List.forall_mem_cons.mpr ⟨lw_in 248 rfl rfl, (fun _ h => absurd h List.not_mem_nil)⟩)⟩)
set_option maxRecDepth 20000 in
theorem iX5 : ∀ w ∈ u_ws RX5 TX5 3, w ∈ lw_all := show ∀ w ∈ [u_lay RX5 TX5 0, u_lay RX5 TX5 1, u_lay RX5 TX5 2], w ∈ lw_all from (List.forall_mem_cons.mpr ⟨lw_in 169 rfl rfl, (List.forall_mem_cons.mpr ⟨lw_in 171 rfl rfl, (List.forall_mem_cons.mpr ⟨lw_in 173 rfl rfl, (fun _ h => absurd h List.not_mem_nil)⟩)⟩)⟩)
set_option maxRecDepth 20000 in
theorem iX6 : ∀ w ∈ u_ws RX6 TX6 4, w ∈ lw_all := show ∀ w ∈ [u_lay RX6 TX6 0, u_lay RX6 TX6 1, u_lay RX6 TX6 2, u_lay RX6 TX6 3], w ∈ lw_all from (List.forall_mem_cons.mpr ⟨lw_in 229 rfl rfl, (List.forall_mem_cons.mpr ⟨lw_in 231 rfl rfl, (List.forall_mem_cons.mpr ⟨lw_in 233 rfl rfl, (List.forall_mem_cons.mpr ⟨lw_in 235 rfl rfl, (fun _ h => absurd h List.not_mem_nil)⟩)⟩)⟩)⟩)
set_option maxRecDepth 20000 in
theorem iX7 : ∀ w ∈ u_ws RX7 TX7 3, w ∈ lw_all := show ∀ w ∈ [u_lay RX7 TX7 0, u_lay RX7 TX7 1, u_lay RX7 TX7 2], w ∈ lw_all from (List.forall_mem_cons.mpr ⟨lw_in 198 rfl rfl, (List.forall_mem_cons.mpr ⟨lw_in 200 rfl rfl, (List.forall_mem_cons.mpr ⟨lw_in 202 rfl rfl, (fun _ h => absurd h List.not_mem_nil)⟩)⟩)⟩)
set_option maxRecDepth 20000 in
theorem iX8 : ∀ w ∈ u_ws RX8 TX8 11, w ∈ lw_all := show ∀ w ∈ [u_lay RX8 TX8 0, u_lay RX8 TX8 1, u_lay RX8 TX8 2, u_lay RX8 TX8 3, u_lay RX8 TX8 4, u_lay RX8 TX8 5, u_lay RX8 TX8 6, u_lay RX8 TX8 7, u_lay RX8 TX8 8, u_lay RX8 TX8 9, u_lay RX8 TX8 10], w ∈ lw_all from (List.forall_mem_cons.mpr ⟨lw_in 262 rfl rfl, (List.forall_mem_cons.mpr ⟨lw_in 264 rfl rfl, (List.forall_mem_cons.mpr ⟨lw_in 266 rfl rfl, (List.forall_mem_cons.mpr ⟨lw_in 268 rfl rfl, (List.forall_mem_cons.mpr ⟨lw_in 270 rfl rfl, (List.forall_mem_cons.mpr ⟨lw_in 272 rfl rfl, (List.forall_mem_cons.mpr ⟨lw_in 274 rfl rfl, (List.forall_mem_cons.mpr ⟨lw_in 276 rfl rfl, (List.forall_mem_cons.mpr ⟨lw_in 278 rfl rfl, (List.forall_mem_cons.mpr ⟨lw_in 280 rfl rfl, (List.forall_mem_cons.mpr ⟨lw_in 282 rfl rfl, (fun _ h => absurd h List.not_mem_nil)⟩)⟩)⟩)⟩)⟩)⟩)⟩)⟩)⟩)⟩)⟩)
set_option maxRecDepth 20000 in
theorem iX9 : ∀ w ∈ u_ws RX9 TX9 21, w ∈ lw_all := show ∀ w ∈ [u_lay RX9 TX9 0, u_lay RX9 TX9 1, u_lay RX9 TX9 2, u_lay RX9 TX9 3, u_lay RX9 TX9 4, u_lay RX9 TX9 5, u_lay RX9 TX9 6, u_lay RX9 TX9 7, u_lay RX9 TX9 8, u_lay RX9 TX9 9, u_lay RX9 TX9 10, u_lay RX9 TX9 11, u_lay RX9 TX9 12, u_lay RX9 TX9 13, u_lay RX9 TX9 14, u_lay RX9 TX9 15, u_lay RX9 TX9 16, u_lay RX9 TX9 17, u_lay RX9 TX9 18, u_lay RX9 TX9 19, u_lay RX9 TX9 20], w ∈ lw_all from (List.forall_mem_cons.mpr ⟨lw_in 1219 rfl rfl, (List.forall_mem_cons.mpr ⟨lw_in 1221 rfl rfl, (List.forall_mem_cons.mpr ⟨lw_in 1223 rfl rfl, (List.forall_mem_cons.mpr ⟨lw_in 1225 rfl rfl, (List.forall_mem_cons.mpr ⟨lw_in 1227 rfl rfl, (List.forall_mem_cons.mpr ⟨lw_in 1229 rfl rfl, (List.forall_mem_cons.mpr ⟨lw_in 1231 rfl rfl, (List.forall_mem_cons.mpr ⟨lw_in 1233 rfl rfl, (List.forall_mem_cons.mpr ⟨lw_in 1235 rfl rfl, (List.forall_mem_cons.mpr ⟨lw_in 1237 rfl rfl, (List.forall_mem_cons.mpr ⟨lw_in 1239 rfl rfl, (List.forall_mem_cons.mpr ⟨lw_in 1241 rfl rfl, (List.forall_mem_cons.mpr ⟨lw_in 1243 rfl rfl, (List.forall_mem_cons.mpr ⟨lw_in 1245 rfl rfl, (List.forall_mem_cons.mpr ⟨lw_in 1247 rfl rfl, (List.forall_mem_cons.mpr ⟨lw_in 1249 rfl rfl, (List.forall_mem_cons.mpr ⟨lw_in 1251 rfl rfl, (List.forall_mem_cons.mpr ⟨lw_in 1253 rfl rfl, (List.forall_mem_cons.mpr ⟨lw_in 1255 rfl rfl, (List.forall_mem_cons.mpr ⟨lw_in 1257 rfl rfl, (List.forall_mem_cons.mpr ⟨lw_in 1259 rfl rfl, (fun _ h => absurd h List.not_mem_nil)⟩)⟩)⟩)⟩)⟩)⟩)⟩)⟩)⟩)⟩)⟩)⟩)⟩)⟩)⟩)⟩)⟩)⟩)⟩)⟩)⟩)
