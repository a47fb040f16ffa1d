set_option maxRecDepth 20000 in
theorem q0 : Cond.selects RX0 yX0_refuse yX0_refuse ∈ lw_all := lw_in 0 rfl rfl
set_option maxRecDepth 20000 in
theorem q1 : Cond.selects RX8 yX8_finished yX8_finished ∈ lw_all := lw_in 1 rfl rfl
set_option maxRecDepth 20000 in
theorem q2 : Cond.selects RX2 yX2_rowAt yX2_rowAt ∈ lw_all := lw_in 2 rfl rfl
set_option maxRecDepth 20000 in
theorem q3 : Cond.selects "java/lang/Throwable" ⟨"java/lang/Throwable", "fillInStackTrace", "(I)Ljava/lang/Throwable;"⟩ ⟨"java/lang/Throwable", "fillInStackTrace", "(I)Ljava/lang/Throwable;"⟩ ∈ lw_all := lw_in 3 rfl rfl
set_option maxRecDepth 20000 in
theorem q4 : Cond.selects RX8 yX8_needBranch yX8_needBranch ∈ lw_all := lw_in 4 rfl rfl
set_option maxRecDepth 20000 in
theorem q5 : Cond.selects RX8 yX8_needCommit yX8_needCommit ∈ lw_all := lw_in 5 rfl rfl
set_option maxRecDepth 20000 in
theorem q6 : Cond.selects RX0 yX0_isStopped yX0_isStopped ∈ lw_all := lw_in 6 rfl rfl
set_option maxRecDepth 20000 in
theorem q7 : Cond.selects RX0 yX0_pickChange yX0_pickChange ∈ lw_all := lw_in 7 rfl rfl
set_option maxRecDepth 20000 in
theorem q8 : Cond.selects RX8 yX8_needIngredient yX8_needIngredient ∈ lw_all := lw_in 8 rfl rfl
set_option maxRecDepth 20000 in
theorem q9 : Cond.selects RX8 yX8_needAmount yX8_needAmount ∈ lw_all := lw_in 9 rfl rfl
set_option maxRecDepth 20000 in
theorem q10 : Cond.selects RX6 yX6_parseOrder yX6_parseOrder ∈ lw_all := lw_in 10 rfl rfl
set_option maxRecDepth 20000 in
theorem q11 : Cond.selects RX6 yX6_store yX6_store ∈ lw_all := lw_in 11 rfl rfl
set_option maxRecDepth 20000 in
theorem q12 : Cond.selects RX6 yX6_parseSign yX6_parseSign ∈ lw_all := lw_in 12 rfl rfl
set_option maxRecDepth 20000 in
theorem q13 : Cond.selects RX6 yX6_carryOutOrder yX6_carryOutOrder ∈ lw_all := lw_in 13 rfl rfl
set_option maxRecDepth 20000 in
theorem q14 : Cond.selects RX6 yX6_numberAt yX6_numberAt ∈ lw_all := lw_in 14 rfl rfl
set_option maxRecDepth 20000 in
theorem q15 : Cond.selects RX4 yX4_addNumber yX4_addNumber ∈ lw_all := lw_in 15 rfl rfl
set_option maxRecDepth 20000 in
theorem q16 : Cond.selects RX4 yX4_addSign yX4_addSign ∈ lw_all := lw_in 16 rfl rfl
set_option maxRecDepth 20000 in
theorem q17 : Cond.initialized RL ∈ lw_all := lw_in 17 rfl rfl
set_option maxRecDepth 20000 in
theorem q18 : Cond.initialized RX8 ∈ lw_all := lw_in 18 rfl rfl
set_option maxRecDepth 20000 in
theorem q19 : Cond.initialized RX1 ∈ lw_all := lw_in 19 rfl rfl
set_option maxRecDepth 20000 in
theorem q20 : Cond.initialized RX2 ∈ lw_all := lw_in 20 rfl rfl
set_option maxRecDepth 20000 in
theorem q21 : Cond.initialized RX0 ∈ lw_all := lw_in 21 rfl rfl
set_option maxRecDepth 20000 in
theorem q22 : Cond.initialized RX5 ∈ lw_all := lw_in 22 rfl rfl
set_option maxRecDepth 20000 in
theorem q23 : Cond.initialized RX7 ∈ lw_all := lw_in 23 rfl rfl
set_option maxRecDepth 20000 in
theorem q24 : Cond.initialized RX3 ∈ lw_all := lw_in 24 rfl rfl
set_option maxRecDepth 20000 in
theorem q25 : Cond.initialized RX6 ∈ lw_all := lw_in 25 rfl rfl
set_option maxRecDepth 20000 in
theorem q26 : Cond.initialized RX4 ∈ lw_all := lw_in 26 rfl rfl
set_option maxRecDepth 20000 in
theorem q27 : Cond.initialized "java/lang/Throwable" ∈ lw_all := lw_in 27 rfl rfl
set_option maxRecDepth 20000 in
theorem q28 : Cond.initialized "java/lang/Exception" ∈ lw_all := lw_in 28 rfl rfl
set_option maxRecDepth 20000 in
theorem q29 : Cond.initialized "java/lang/RuntimeException" ∈ lw_all := lw_in 29 rfl rfl
set_option maxRecDepth 20000 in
theorem q30 : Cond.initialized "java/lang/IllegalStateException" ∈ lw_all := lw_in 30 rfl rfl
set_option maxRecDepth 20000 in
theorem q31 : Cond.initialized RJ10 ∈ lw_all := lw_in 31 rfl rfl
set_option maxRecDepth 20000 in
theorem q32 : Cond.initialized RJ9 ∈ lw_all := lw_in 32 rfl rfl
set_option maxRecDepth 20000 in
theorem q33 : Cond.initialized "java/lang/IndexOutOfBoundsException" ∈ lw_all := lw_in 33 rfl rfl
set_option maxRecDepth 20000 in
theorem q34 : Cond.initialized "java/lang/IllegalArgumentException" ∈ lw_all := lw_in 34 rfl rfl
set_option maxRecDepth 20000 in
theorem q35 : Cond.initialized "java/lang/UnsupportedOperationException" ∈ lw_all := lw_in 35 rfl rfl
set_option maxRecDepth 20000 in
theorem q36 : Cond.initialized RJxd2413 ∈ lw_all := lw_in 36 rfl rfl
set_option maxRecDepth 20000 in
theorem q37 : Cond.initialized RJ6 ∈ lw_all := lw_in 37 rfl rfl
set_option maxRecDepth 20000 in
theorem q38 : Cond.initialized RJ0 ∈ lw_all := lw_in 38 rfl rfl
set_option maxRecDepth 20000 in
theorem q39 : Cond.initialized RJ1 ∈ lw_all := lw_in 39 rfl rfl
set_option maxRecDepth 20000 in
theorem q40 : Cond.initialized RJ3 ∈ lw_all := lw_in 40 rfl rfl
set_option maxRecDepth 20000 in
theorem q41 : Cond.initialized RJ2 ∈ lw_all := lw_in 41 rfl rfl
set_option maxRecDepth 20000 in
theorem q42 : Cond.initialized "java/util/NoSuchElementException" ∈ lw_all := lw_in 42 rfl rfl
set_option maxRecDepth 20000 in
theorem q43 : Cond.initialized RJxe99ae ∈ lw_all := lw_in 43 rfl rfl
set_option maxRecDepth 20000 in
theorem q44 : Cond.initialized RJxf58ca ∈ lw_all := lw_in 44 rfl rfl
set_option maxRecDepth 20000 in
theorem q45 : Cond.initialized RJ5 ∈ lw_all := lw_in 45 rfl rfl
set_option maxRecDepth 20000 in
theorem q46 : Cond.initialized RJ4 ∈ lw_all := lw_in 46 rfl rfl
set_option maxRecDepth 20000 in
theorem q47 : Cond.initialized RJ8 ∈ lw_all := lw_in 47 rfl rfl
set_option maxRecDepth 20000 in
theorem q48 : Cond.initialized RJ7 ∈ lw_all := lw_in 48 rfl rfl
set_option maxRecDepth 20000 in
theorem q49 : Cond.classLink RL 8 RX8 ∈ lw_all := lw_in 49 rfl rfl
set_option maxRecDepth 20000 in
theorem q50 : Cond.instantiable RX8 11 ∈ lw_all := lw_in 50 rfl rfl
set_option maxRecDepth 20000 in
theorem q51 : Cond.methodLink RL 293 yX8_init ∈ lw_all := lw_in 51 rfl rfl
set_option maxRecDepth 20000 in
theorem q52 : Cond.instanceMethod yX8_init ∈ lw_all := lw_in 52 rfl rfl
set_option maxRecDepth 20000 in
theorem q53 : Cond.code yX8_init cX8_init 2 none ∈ lw_all := lw_in 53 rfl rfl
set_option maxRecDepth 20000 in
theorem q54 : Cond.methodLink RX8 1 Lib.objectInit ∈ lw_all := lw_in 54 rfl rfl
set_option maxRecDepth 20000 in
theorem q55 : Cond.instanceMethod Lib.objectInit ∈ lw_all := lw_in 55 rfl rfl
set_option maxRecDepth 20000 in
theorem q56 : Cond.code Lib.objectInit ⟨#[0xb1]⟩ 1 none ∈ lw_all := lw_in 56 rfl rfl
set_option maxRecDepth 20000 in
theorem q57 : Cond.classLink RX8 7 RX1 ∈ lw_all := lw_in 57 rfl rfl
set_option maxRecDepth 20000 in
theorem q58 : Cond.instantiable RX1 11 ∈ lw_all := lw_in 58 rfl rfl
set_option maxRecDepth 20000 in
theorem q59 : Cond.methodLink RX8 9 yX1_init ∈ lw_all := lw_in 59 rfl rfl
set_option maxRecDepth 20000 in
theorem q60 : Cond.instanceMethod yX1_init ∈ lw_all := lw_in 60 rfl rfl
set_option maxRecDepth 20000 in
theorem q61 : Cond.code yX1_init cX1_init 2 none ∈ lw_all := lw_in 61 rfl rfl
set_option maxRecDepth 20000 in
theorem q62 : Cond.methodLink RX1 3 Lib.objectInit ∈ lw_all := lw_in 62 rfl rfl
set_option maxRecDepth 20000 in
theorem q63 : Cond.fieldLink RX1 36 "RecipeForests$Forest" "commits" "I" ∈ lw_all := lw_in 63 rfl rfl
set_option maxRecDepth 20000 in
theorem q64 : Cond.fieldLink RX1 40 "RecipeForests$Forest" "branches" "I" ∈ lw_all := lw_in 64 rfl rfl
set_option maxRecDepth 20000 in
theorem q65 : Cond.fieldLink RX1 43 "RecipeForests$Forest" "purpose" "I" ∈ lw_all := lw_in 65 rfl rfl
set_option maxRecDepth 20000 in
theorem q66 : Cond.fieldLink RX1 9 "RecipeForests$Forest" "kinds" "[I" ∈ lw_all := lw_in 66 rfl rfl
set_option maxRecDepth 20000 in
theorem q67 : Cond.fieldLink RX1 15 "RecipeForests$Forest" "firsts" "[I" ∈ lw_all := lw_in 67 rfl rfl
set_option maxRecDepth 20000 in
theorem q68 : Cond.fieldLink RX1 18 "RecipeForests$Forest" "seconds" "[I" ∈ lw_all := lw_in 68 rfl rfl
set_option maxRecDepth 20000 in
theorem q69 : Cond.fieldLink RX1 21 "RecipeForests$Forest" "families" "[I" ∈ lw_all := lw_in 69 rfl rfl
set_option maxRecDepth 20000 in
theorem q70 : Cond.fieldLink RX1 24 "RecipeForests$Forest" "depths" "[I" ∈ lw_all := lw_in 70 rfl rfl
set_option maxRecDepth 20000 in
theorem q71 : Cond.fieldLink RX1 27 "RecipeForests$Forest" "amounts" "[I" ∈ lw_all := lw_in 71 rfl rfl
set_option maxRecDepth 20000 in
theorem q72 : Cond.fieldLink RX1 30 "RecipeForests$Forest" "tips" "[I" ∈ lw_all := lw_in 72 rfl rfl
set_option maxRecDepth 20000 in
theorem q73 : Cond.fieldLink RX1 33 "RecipeForests$Forest" "bundled" "[I" ∈ lw_all := lw_in 73 rfl rfl
set_option maxRecDepth 20000 in
theorem q97 : Cond.arrayClass .int ∈ lw_all := lw_in 97 rfl rfl
set_option maxRecDepth 20000 in
theorem q98 : Cond.classLink RX8 26 RX2 ∈ lw_all := lw_in 98 rfl rfl
set_option maxRecDepth 20000 in
theorem q99 : Cond.instantiable RX2 3 ∈ lw_all := lw_in 99 rfl rfl
set_option maxRecDepth 20000 in
theorem q100 : Cond.methodLink RX8 28 yX2_init ∈ lw_all := lw_in 100 rfl rfl
set_option maxRecDepth 20000 in
theorem q101 : Cond.instanceMethod yX2_init ∈ lw_all := lw_in 101 rfl rfl
set_option maxRecDepth 20000 in
theorem q102 : Cond.code yX2_init cX2_init 2 none ∈ lw_all := lw_in 102 rfl rfl
set_option maxRecDepth 20000 in
theorem q103 : Cond.methodLink RX2 3 Lib.objectInit ∈ lw_all := lw_in 103 rfl rfl
set_option maxRecDepth 20000 in
theorem q104 : Cond.classLink RX2 9 RX1 ∈ lw_all := lw_in 104 rfl rfl
set_option maxRecDepth 20000 in
theorem q106 : Cond.methodLink RX2 17 yX1_init ∈ lw_all := lw_in 106 rfl rfl
set_option maxRecDepth 20000 in
theorem q107 : Cond.fieldLink RX2 11 "RecipeForests$History" "states" "[LRecipeForests$Forest;" ∈ lw_all := lw_in 107 rfl rfl
set_option maxRecDepth 20000 in
theorem q108 : Cond.fieldLink RX2 18 "RecipeForests$History" "next" "I" ∈ lw_all := lw_in 108 rfl rfl
set_option maxRecDepth 20000 in
theorem q109 : Cond.fieldLink RX2 22 "RecipeForests$History" "count" "I" ∈ lw_all := lw_in 109 rfl rfl
set_option maxRecDepth 20000 in
theorem q117 : Cond.classLink RX8 33 RX0 ∈ lw_all := lw_in 117 rfl rfl
set_option maxRecDepth 20000 in
theorem q118 : Cond.instantiable RX0 4 ∈ lw_all := lw_in 118 rfl rfl
set_option maxRecDepth 20000 in
theorem q119 : Cond.methodLink RX8 35 yX0_init ∈ lw_all := lw_in 119 rfl rfl
set_option maxRecDepth 20000 in
theorem q120 : Cond.instanceMethod yX0_init ∈ lw_all := lw_in 120 rfl rfl
set_option maxRecDepth 20000 in
theorem q121 : Cond.code yX0_init cX0_init 2 none ∈ lw_all := lw_in 121 rfl rfl
set_option maxRecDepth 20000 in
theorem q122 : Cond.methodLink RX0 3 Lib.objectInit ∈ lw_all := lw_in 122 rfl rfl
set_option maxRecDepth 20000 in
theorem q123 : Cond.classLink RX0 15 RX5 ∈ lw_all := lw_in 123 rfl rfl
set_option maxRecDepth 20000 in
theorem q124 : Cond.instantiable RX5 3 ∈ lw_all := lw_in 124 rfl rfl
set_option maxRecDepth 20000 in
theorem q125 : Cond.methodLink RX0 17 yX5_init ∈ lw_all := lw_in 125 rfl rfl
set_option maxRecDepth 20000 in
theorem q126 : Cond.instanceMethod yX5_init ∈ lw_all := lw_in 126 rfl rfl
set_option maxRecDepth 20000 in
theorem q127 : Cond.code yX5_init cX5_init 1 none ∈ lw_all := lw_in 127 rfl rfl
set_option maxRecDepth 20000 in
theorem q128 : Cond.methodLink RX5 3 Lib.objectInit ∈ lw_all := lw_in 128 rfl rfl
set_option maxRecDepth 20000 in
theorem q129 : Cond.fieldLink RX5 9 "RecipeForests$Mix" "row" "[I" ∈ lw_all := lw_in 129 rfl rfl
set_option maxRecDepth 20000 in
theorem q130 : Cond.fieldLink RX5 15 "RecipeForests$Mix" "conflictCount" "I" ∈ lw_all := lw_in 130 rfl rfl
set_option maxRecDepth 20000 in
theorem q131 : Cond.fieldLink RX5 19 "RecipeForests$Mix" "lowest" "I" ∈ lw_all := lw_in 131 rfl rfl
set_option maxRecDepth 20000 in
theorem q139 : Cond.fieldLink RX0 9 "RecipeForests$Desk" "forest" "LRecipeForests$Forest;" ∈ lw_all := lw_in 139 rfl rfl
set_option maxRecDepth 20000 in
theorem q140 : Cond.fieldLink RX0 18 "RecipeForests$Desk" "mix" "LRecipeForests$Mix;" ∈ lw_all := lw_in 140 rfl rfl
set_option maxRecDepth 20000 in
theorem q141 : Cond.fieldLink RX0 22 "RecipeForests$Desk" "reason" "I" ∈ lw_all := lw_in 141 rfl rfl
set_option maxRecDepth 20000 in
theorem q142 : Cond.fieldLink RX0 26 "RecipeForests$Desk" "detail" "I" ∈ lw_all := lw_in 142 rfl rfl
set_option maxRecDepth 20000 in
theorem q152 : Cond.classLink RX8 42 RX7 ∈ lw_all := lw_in 152 rfl rfl
set_option maxRecDepth 20000 in
theorem q153 : Cond.instantiable RX7 3 ∈ lw_all := lw_in 153 rfl rfl
set_option maxRecDepth 20000 in
theorem q154 : Cond.methodLink RX8 44 yX7_init ∈ lw_all := lw_in 154 rfl rfl
set_option maxRecDepth 20000 in
theorem q155 : Cond.instanceMethod yX7_init ∈ lw_all := lw_in 155 rfl rfl
set_option maxRecDepth 20000 in
theorem q156 : Cond.code yX7_init cX7_init 1 none ∈ lw_all := lw_in 156 rfl rfl
set_option maxRecDepth 20000 in
theorem q157 : Cond.methodLink RX7 3 Lib.objectInit ∈ lw_all := lw_in 157 rfl rfl
set_option maxRecDepth 20000 in
theorem q158 : Cond.fieldLink RX7 9 "RecipeForests$Walk" "commits" "[I" ∈ lw_all := lw_in 158 rfl rfl
set_option maxRecDepth 20000 in
theorem q159 : Cond.fieldLink RX7 15 "RecipeForests$Walk" "length" "I" ∈ lw_all := lw_in 159 rfl rfl
set_option maxRecDepth 20000 in
theorem q160 : Cond.fieldLink RX7 19 "RecipeForests$Walk" "looks" "I" ∈ lw_all := lw_in 160 rfl rfl
set_option maxRecDepth 20000 in
theorem q168 : Cond.classLink RX8 49 RX3 ∈ lw_all := lw_in 168 rfl rfl
set_option maxRecDepth 20000 in
theorem q169 : Cond.instantiable RX3 2 ∈ lw_all := lw_in 169 rfl rfl
set_option maxRecDepth 20000 in
theorem q170 : Cond.methodLink RX8 51 yX3_init ∈ lw_all := lw_in 170 rfl rfl
set_option maxRecDepth 20000 in
theorem q171 : Cond.instanceMethod yX3_init ∈ lw_all := lw_in 171 rfl rfl
set_option maxRecDepth 20000 in
theorem q172 : Cond.code yX3_init cX3_init 1 none ∈ lw_all := lw_in 172 rfl rfl
set_option maxRecDepth 20000 in
theorem q173 : Cond.methodLink RX3 3 Lib.objectInit ∈ lw_all := lw_in 173 rfl rfl
set_option maxRecDepth 20000 in
theorem q174 : Cond.fieldLink RX3 9 "RecipeForests$Input" "signs" "[C" ∈ lw_all := lw_in 174 rfl rfl
set_option maxRecDepth 20000 in
theorem q175 : Cond.fieldLink RX3 15 "RecipeForests$Input" "length" "I" ∈ lw_all := lw_in 175 rfl rfl
set_option maxRecDepth 20000 in
theorem q181 : Cond.arrayClass .char ∈ lw_all := lw_in 181 rfl rfl
set_option maxRecDepth 20000 in
theorem q182 : Cond.classLink RX8 56 RX6 ∈ lw_all := lw_in 182 rfl rfl
set_option maxRecDepth 20000 in
theorem q183 : Cond.instantiable RX6 4 ∈ lw_all := lw_in 183 rfl rfl
set_option maxRecDepth 20000 in
theorem q184 : Cond.methodLink RX8 58 yX6_init ∈ lw_all := lw_in 184 rfl rfl
set_option maxRecDepth 20000 in
theorem q185 : Cond.instanceMethod yX6_init ∈ lw_all := lw_in 185 rfl rfl
set_option maxRecDepth 20000 in
theorem q186 : Cond.code yX6_init cX6_init 1 none ∈ lw_all := lw_in 186 rfl rfl
set_option maxRecDepth 20000 in
theorem q187 : Cond.methodLink RX6 3 Lib.objectInit ∈ lw_all := lw_in 187 rfl rfl
set_option maxRecDepth 20000 in
theorem q188 : Cond.fieldLink RX6 9 "RecipeForests$Orders" "rows" "[I" ∈ lw_all := lw_in 188 rfl rfl
set_option maxRecDepth 20000 in
theorem q189 : Cond.fieldLink RX6 15 "RecipeForests$Orders" "count" "I" ∈ lw_all := lw_in 189 rfl rfl
set_option maxRecDepth 20000 in
theorem q190 : Cond.fieldLink RX6 19 "RecipeForests$Orders" "position" "I" ∈ lw_all := lw_in 190 rfl rfl
set_option maxRecDepth 20000 in
theorem q191 : Cond.fieldLink RX6 22 "RecipeForests$Orders" "column" "I" ∈ lw_all := lw_in 191 rfl rfl
set_option maxRecDepth 20000 in
theorem q201 : Cond.classLink RX8 63 RX4 ∈ lw_all := lw_in 201 rfl rfl
set_option maxRecDepth 20000 in
theorem q202 : Cond.instantiable RX4 2 ∈ lw_all := lw_in 202 rfl rfl
set_option maxRecDepth 20000 in
theorem q203 : Cond.methodLink RX8 65 yX4_init ∈ lw_all := lw_in 203 rfl rfl
set_option maxRecDepth 20000 in
theorem q204 : Cond.instanceMethod yX4_init ∈ lw_all := lw_in 204 rfl rfl
set_option maxRecDepth 20000 in
theorem q205 : Cond.code yX4_init cX4_init 1 none ∈ lw_all := lw_in 205 rfl rfl
set_option maxRecDepth 20000 in
theorem q206 : Cond.methodLink RX4 3 Lib.objectInit ∈ lw_all := lw_in 206 rfl rfl
set_option maxRecDepth 20000 in
theorem q207 : Cond.fieldLink RX4 9 "RecipeForests$Line" "signs" "[C" ∈ lw_all := lw_in 207 rfl rfl
set_option maxRecDepth 20000 in
theorem q208 : Cond.fieldLink RX4 15 "RecipeForests$Line" "length" "I" ∈ lw_all := lw_in 208 rfl rfl
set_option maxRecDepth 20000 in
theorem q214 : Cond.fieldLink RX8 10 "RecipeForests" "forest" "LRecipeForests$Forest;" ∈ lw_all := lw_in 214 rfl rfl
set_option maxRecDepth 20000 in
theorem q215 : Cond.fieldLink RX8 16 "RecipeForests" "before" "LRecipeForests$Forest;" ∈ lw_all := lw_in 215 rfl rfl
set_option maxRecDepth 20000 in
theorem q216 : Cond.fieldLink RX8 19 "RecipeForests" "saved" "LRecipeForests$Forest;" ∈ lw_all := lw_in 216 rfl rfl
set_option maxRecDepth 20000 in
theorem q217 : Cond.fieldLink RX8 22 "RecipeForests" "isSaved" "Z" ∈ lw_all := lw_in 217 rfl rfl
set_option maxRecDepth 20000 in
theorem q218 : Cond.fieldLink RX8 29 "RecipeForests" "history" "LRecipeForests$History;" ∈ lw_all := lw_in 218 rfl rfl
set_option maxRecDepth 20000 in
theorem q219 : Cond.fieldLink RX8 38 "RecipeForests" "desk" "LRecipeForests$Desk;" ∈ lw_all := lw_in 219 rfl rfl
set_option maxRecDepth 20000 in
theorem q220 : Cond.fieldLink RX8 45 "RecipeForests" "walk" "LRecipeForests$Walk;" ∈ lw_all := lw_in 220 rfl rfl
set_option maxRecDepth 20000 in
theorem q221 : Cond.fieldLink RX8 52 "RecipeForests" "input" "LRecipeForests$Input;" ∈ lw_all := lw_in 221 rfl rfl
set_option maxRecDepth 20000 in
theorem q222 : Cond.fieldLink RX8 59 "RecipeForests" "orders" "LRecipeForests$Orders;" ∈ lw_all := lw_in 222 rfl rfl
set_option maxRecDepth 20000 in
theorem q223 : Cond.fieldLink RX8 66 "RecipeForests" "written" "LRecipeForests$Line;" ∈ lw_all := lw_in 223 rfl rfl
set_option maxRecDepth 20000 in
theorem q224 : Cond.fieldLink RX8 70 "RecipeForests" "wrongPosition" "I" ∈ lw_all := lw_in 224 rfl rfl
set_option maxRecDepth 20000 in
theorem q248 : Cond.methodLink RL 284 yX8_errorPosition ∈ lw_all := lw_in 248 rfl rfl
set_option maxRecDepth 20000 in
theorem q249 : Cond.instanceMethod yX8_errorPosition ∈ lw_all := lw_in 249 rfl rfl
set_option maxRecDepth 20000 in
theorem q250 : Cond.selects RX8 yX8_errorPosition yX8_errorPosition ∈ lw_all := lw_in 250 rfl rfl
set_option maxRecDepth 20000 in
theorem q251 : Cond.code yX8_errorPosition cX8_errorPosition 1 (some .int) ∈ lw_all := lw_in 251 rfl rfl
set_option maxRecDepth 20000 in
theorem q252 : Cond.methodLink RL 298 yX8_save ∈ lw_all := lw_in 252 rfl rfl
set_option maxRecDepth 20000 in
theorem q253 : Cond.instanceMethod yX8_save ∈ lw_all := lw_in 253 rfl rfl
set_option maxRecDepth 20000 in
theorem q254 : Cond.selects RX8 yX8_save yX8_save ∈ lw_all := lw_in 254 rfl rfl
set_option maxRecDepth 20000 in
theorem q255 : Cond.code yX8_save cX8_save 1 (some .int) ∈ lw_all := lw_in 255 rfl rfl
set_option maxRecDepth 20000 in
theorem q256 : Cond.methodLink RX8 74 yX1_become ∈ lw_all := lw_in 256 rfl rfl
set_option maxRecDepth 20000 in
theorem q257 : Cond.instanceMethod yX1_become ∈ lw_all := lw_in 257 rfl rfl
set_option maxRecDepth 20000 in
theorem q258 : Cond.selects RX1 yX1_become yX1_become ∈ lw_all := lw_in 258 rfl rfl
set_option maxRecDepth 20000 in
theorem q259 : Cond.code yX1_become cX1_become 2 none ∈ lw_all := lw_in 259 rfl rfl
set_option maxRecDepth 20000 in
theorem q260 : Cond.methodLink RX1 46 arraycopyName ∈ lw_all := lw_in 260 rfl rfl
set_option maxRecDepth 20000 in
theorem q261 : Cond.static arraycopyName ∈ lw_all := lw_in 261 rfl rfl
set_option maxRecDepth 20000 in
theorem q262 : Cond.native arraycopyName ∈ lw_all := lw_in 262 rfl rfl
set_option maxRecDepth 20000 in
theorem q263 : Cond.methodLink RX8 278 yX1_commitCount ∈ lw_all := lw_in 263 rfl rfl
set_option maxRecDepth 20000 in
theorem q264 : Cond.instanceMethod yX1_commitCount ∈ lw_all := lw_in 264 rfl rfl
set_option maxRecDepth 20000 in
theorem q265 : Cond.selects RX1 yX1_commitCount yX1_commitCount ∈ lw_all := lw_in 265 rfl rfl
set_option maxRecDepth 20000 in
theorem q266 : Cond.code yX1_commitCount cX1_commitCount 1 (some .int) ∈ lw_all := lw_in 266 rfl rfl
set_option maxRecDepth 20000 in
theorem q267 : Cond.methodLink RL 153 yL_at ∈ lw_all := lw_in 267 rfl rfl
set_option maxRecDepth 20000 in
theorem q268 : Cond.static yL_at ∈ lw_all := lw_in 268 rfl rfl
set_option maxRecDepth 20000 in
theorem q269 : Cond.code yL_at cL_at 2 (some .int) ∈ lw_all := lw_in 269 rfl rfl
set_option maxRecDepth 20000 in
theorem q270 : Cond.methodLink RL 160 yL_edit ∈ lw_all := lw_in 270 rfl rfl
set_option maxRecDepth 20000 in
theorem q271 : Cond.static yL_edit ∈ lw_all := lw_in 271 rfl rfl
set_option maxRecDepth 20000 in
theorem q273 : Cond.classLink RL 13 "java/lang/IndexOutOfBoundsException" ∈ lw_all := lw_in 273 rfl rfl
set_option maxRecDepth 20000 in
theorem q274 : Cond.classLink RL 15 "java/lang/IllegalArgumentException" ∈ lw_all := lw_in 274 rfl rfl
set_option maxRecDepth 20000 in
theorem q275 : Cond.classLink RL 17 "java/lang/UnsupportedOperationException" ∈ lw_all := lw_in 275 rfl rfl
set_option maxRecDepth 20000 in
theorem q276 : Cond.methodLink RL 7 yX8_edit ∈ lw_all := lw_in 276 rfl rfl
set_option maxRecDepth 20000 in
theorem q277 : Cond.instanceMethod yX8_edit ∈ lw_all := lw_in 277 rfl rfl
set_option maxRecDepth 20000 in
theorem q278 : Cond.selects RX8 yX8_edit yX8_edit ∈ lw_all := lw_in 278 rfl rfl
set_option maxRecDepth 20000 in
theorem q279 : Cond.code yX8_edit cX8_edit 4 (some .int) ∈ lw_all := lw_in 279 rfl rfl
set_option maxRecDepth 20000 in
theorem q280 : Cond.methodLink RX8 77 yX0_tryEdit ∈ lw_all := lw_in 280 rfl rfl
set_option maxRecDepth 20000 in
theorem q281 : Cond.instanceMethod yX0_tryEdit ∈ lw_all := lw_in 281 rfl rfl
set_option maxRecDepth 20000 in
theorem q282 : Cond.selects RX0 yX0_tryEdit yX0_tryEdit ∈ lw_all := lw_in 282 rfl rfl
set_option maxRecDepth 20000 in
theorem q283 : Cond.code yX0_tryEdit cX0_tryEdit 5 (some .int) ∈ lw_all := lw_in 283 rfl rfl
set_option maxRecDepth 20000 in
theorem q284 : Cond.methodLink RX0 29 yX1_isBranch ∈ lw_all := lw_in 284 rfl rfl
set_option maxRecDepth 20000 in
theorem q285 : Cond.instanceMethod yX1_isBranch ∈ lw_all := lw_in 285 rfl rfl
set_option maxRecDepth 20000 in
theorem q286 : Cond.selects RX1 yX1_isBranch yX1_isBranch ∈ lw_all := lw_in 286 rfl rfl
set_option maxRecDepth 20000 in
theorem q287 : Cond.code yX1_isBranch cX1_isBranch 2 (some .boolean) ∈ lw_all := lw_in 287 rfl rfl
set_option maxRecDepth 20000 in
theorem q289 : Cond.static yX8_isIngredient ∈ lw_all := lw_in 289 rfl rfl
set_option maxRecDepth 20000 in
theorem q290 : Cond.code yX8_isIngredient cX8_isIngredient 1 (some .boolean) ∈ lw_all := lw_in 290 rfl rfl
set_option maxRecDepth 20000 in
theorem q292 : Cond.static yX8_isAmount ∈ lw_all := lw_in 292 rfl rfl
set_option maxRecDepth 20000 in
theorem q293 : Cond.code yX8_isAmount cX8_isAmount 1 (some .boolean) ∈ lw_all := lw_in 293 rfl rfl
set_option maxRecDepth 20000 in
theorem q294 : Cond.methodLink RX0 41 yX1_tipOf ∈ lw_all := lw_in 294 rfl rfl
set_option maxRecDepth 20000 in
theorem q295 : Cond.instanceMethod yX1_tipOf ∈ lw_all := lw_in 295 rfl rfl
set_option maxRecDepth 20000 in
theorem q296 : Cond.selects RX1 yX1_tipOf yX1_tipOf ∈ lw_all := lw_in 296 rfl rfl
set_option maxRecDepth 20000 in
theorem q297 : Cond.code yX1_tipOf cX1_tipOf 2 (some .int) ∈ lw_all := lw_in 297 rfl rfl
set_option maxRecDepth 20000 in
theorem q298 : Cond.methodLink RX0 45 yX1_amountIn ∈ lw_all := lw_in 298 rfl rfl
set_option maxRecDepth 20000 in
theorem q299 : Cond.instanceMethod yX1_amountIn ∈ lw_all := lw_in 299 rfl rfl
set_option maxRecDepth 20000 in
theorem q300 : Cond.selects RX1 yX1_amountIn yX1_amountIn ∈ lw_all := lw_in 300 rfl rfl
set_option maxRecDepth 20000 in
theorem q301 : Cond.code yX1_amountIn cX1_amountIn 3 (some .int) ∈ lw_all := lw_in 301 rfl rfl
set_option maxRecDepth 20000 in
theorem q302 : Cond.methodLink RX0 49 yX0_refuse ∈ lw_all := lw_in 302 rfl rfl
set_option maxRecDepth 20000 in
theorem q304 : Cond.instanceMethod yX0_refuse ∈ lw_all := lw_in 304 rfl rfl
set_option maxRecDepth 20000 in
theorem q305 : Cond.code yX0_refuse cX0_refuse 3 (some .int) ∈ lw_all := lw_in 305 rfl rfl
set_option maxRecDepth 20000 in
theorem q306 : Cond.methodLink RX0 52 yX1_isFull ∈ lw_all := lw_in 306 rfl rfl
set_option maxRecDepth 20000 in
theorem q307 : Cond.instanceMethod yX1_isFull ∈ lw_all := lw_in 307 rfl rfl
set_option maxRecDepth 20000 in
theorem q308 : Cond.selects RX1 yX1_isFull yX1_isFull ∈ lw_all := lw_in 308 rfl rfl
set_option maxRecDepth 20000 in
theorem q309 : Cond.code yX1_isFull cX1_isFull 1 (some .boolean) ∈ lw_all := lw_in 309 rfl rfl
set_option maxRecDepth 20000 in
theorem q310 : Cond.methodLink RX0 56 yX5_change ∈ lw_all := lw_in 310 rfl rfl
set_option maxRecDepth 20000 in
theorem q311 : Cond.instanceMethod yX5_change ∈ lw_all := lw_in 311 rfl rfl
set_option maxRecDepth 20000 in
theorem q312 : Cond.selects RX5 yX5_change yX5_change ∈ lw_all := lw_in 312 rfl rfl
set_option maxRecDepth 20000 in
theorem q313 : Cond.code yX5_change cX5_change 6 none ∈ lw_all := lw_in 313 rfl rfl
set_option maxRecDepth 20000 in
theorem q314 : Cond.methodLink RX5 22 yX1_amountIn ∈ lw_all := lw_in 314 rfl rfl
set_option maxRecDepth 20000 in
theorem q315 : Cond.methodLink RX0 60 yX5_amounts ∈ lw_all := lw_in 315 rfl rfl
set_option maxRecDepth 20000 in
theorem q316 : Cond.instanceMethod yX5_amounts ∈ lw_all := lw_in 316 rfl rfl
set_option maxRecDepth 20000 in
theorem q317 : Cond.selects RX5 yX5_amounts yX5_amounts ∈ lw_all := lw_in 317 rfl rfl
set_option maxRecDepth 20000 in
theorem q318 : Cond.code yX5_amounts cX5_amounts 1 (some (.array .int)) ∈ lw_all := lw_in 318 rfl rfl
set_option maxRecDepth 20000 in
theorem q319 : Cond.methodLink RX0 64 yX1_addCommit ∈ lw_all := lw_in 319 rfl rfl
set_option maxRecDepth 20000 in
theorem q320 : Cond.instanceMethod yX1_addCommit ∈ lw_all := lw_in 320 rfl rfl
set_option maxRecDepth 20000 in
theorem q321 : Cond.selects RX1 yX1_addCommit yX1_addCommit ∈ lw_all := lw_in 321 rfl rfl
set_option maxRecDepth 20000 in
theorem q322 : Cond.code yX1_addCommit cX1_addCommit 8 (some .int) ∈ lw_all := lw_in 322 rfl rfl
set_option maxRecDepth 20000 in
theorem q323 : Cond.methodLink RX1 60 yX1_isBranch ∈ lw_all := lw_in 323 rfl rfl
set_option maxRecDepth 20000 in
theorem q325 : Cond.static yX8_setOf ∈ lw_all := lw_in 325 rfl rfl
set_option maxRecDepth 20000 in
theorem q326 : Cond.code yX8_setOf cX8_setOf 1 (some .int) ∈ lw_all := lw_in 326 rfl rfl
set_option maxRecDepth 20000 in
theorem q327 : Cond.methodLink RX1 67 yX1_familyOf ∈ lw_all := lw_in 327 rfl rfl
set_option maxRecDepth 20000 in
theorem q328 : Cond.instanceMethod yX1_familyOf ∈ lw_all := lw_in 328 rfl rfl
set_option maxRecDepth 20000 in
theorem q329 : Cond.selects RX1 yX1_familyOf yX1_familyOf ∈ lw_all := lw_in 329 rfl rfl
set_option maxRecDepth 20000 in
theorem q330 : Cond.code yX1_familyOf cX1_familyOf 2 (some .int) ∈ lw_all := lw_in 330 rfl rfl
set_option maxRecDepth 20000 in
theorem q331 : Cond.methodLink RX1 70 yX1_depthOf ∈ lw_all := lw_in 331 rfl rfl
set_option maxRecDepth 20000 in
theorem q332 : Cond.instanceMethod yX1_depthOf ∈ lw_all := lw_in 332 rfl rfl
set_option maxRecDepth 20000 in
theorem q333 : Cond.selects RX1 yX1_depthOf yX1_depthOf ∈ lw_all := lw_in 333 rfl rfl
set_option maxRecDepth 20000 in
theorem q334 : Cond.code yX1_depthOf cX1_depthOf 2 (some .int) ∈ lw_all := lw_in 334 rfl rfl
set_option maxRecDepth 20000 in
theorem q335 : Cond.methodLink RX1 73 Lib.Math.max.name ∈ lw_all := lw_in 335 rfl rfl
set_option maxRecDepth 20000 in
theorem q336 : Cond.static Lib.Math.max.name ∈ lw_all := lw_in 336 rfl rfl
set_option maxRecDepth 20000 in
theorem q337 : Cond.code Lib.Math.max.name Lib.Math.max.code 2 (some .int) ∈ lw_all := lw_in 337 rfl rfl
set_option maxRecDepth 20000 in
theorem q338 : Cond.methodLink RX8 81 yX8_finished ∈ lw_all := lw_in 338 rfl rfl
set_option maxRecDepth 20000 in
theorem q340 : Cond.instanceMethod yX8_finished ∈ lw_all := lw_in 340 rfl rfl
set_option maxRecDepth 20000 in
theorem q341 : Cond.code yX8_finished cX8_finished 2 (some .int) ∈ lw_all := lw_in 341 rfl rfl
set_option maxRecDepth 20000 in
theorem q342 : Cond.methodLink RX8 321 yX2_keep ∈ lw_all := lw_in 342 rfl rfl
set_option maxRecDepth 20000 in
theorem q343 : Cond.instanceMethod yX2_keep ∈ lw_all := lw_in 343 rfl rfl
set_option maxRecDepth 20000 in
theorem q344 : Cond.selects RX2 yX2_keep yX2_keep ∈ lw_all := lw_in 344 rfl rfl
set_option maxRecDepth 20000 in
theorem q345 : Cond.code yX2_keep cX2_keep 3 none ∈ lw_all := lw_in 345 rfl rfl
set_option maxRecDepth 20000 in
theorem q346 : Cond.methodLink RX2 25 yX2_rowAt ∈ lw_all := lw_in 346 rfl rfl
set_option maxRecDepth 20000 in
theorem q348 : Cond.instanceMethod yX2_rowAt ∈ lw_all := lw_in 348 rfl rfl
set_option maxRecDepth 20000 in
theorem q349 : Cond.code yX2_rowAt cX2_rowAt 2 (some (.object "RecipeForests$Forest")) ∈ lw_all := lw_in 349 rfl rfl
set_option maxRecDepth 20000 in
theorem q350 : Cond.methodLink RX2 29 yX1_become ∈ lw_all := lw_in 350 rfl rfl
set_option maxRecDepth 20000 in
theorem q351 : Cond.methodLink RX2 33 Lib.Math.min.name ∈ lw_all := lw_in 351 rfl rfl
set_option maxRecDepth 20000 in
theorem q352 : Cond.static Lib.Math.min.name ∈ lw_all := lw_in 352 rfl rfl
set_option maxRecDepth 20000 in
theorem q353 : Cond.code Lib.Math.min.name Lib.Math.min.code 2 (some .int) ∈ lw_all := lw_in 353 rfl rfl
set_option maxRecDepth 20000 in
theorem q354 : Cond.classLink RX8 221 "java/lang/IndexOutOfBoundsException" ∈ lw_all := lw_in 354 rfl rfl
set_option maxRecDepth 20000 in
theorem q355 : Cond.instantiable "java/lang/IndexOutOfBoundsException" 6 ∈ lw_all := lw_in 355 rfl rfl
set_option maxRecDepth 20000 in
theorem q363 : Cond.selects "java/lang/IndexOutOfBoundsException" ⟨"java/lang/Throwable", "fillInStackTrace", "(I)Ljava/lang/Throwable;"⟩ ⟨"java/lang/Throwable", "fillInStackTrace", "(I)Ljava/lang/Throwable;"⟩ ∈ lw_all := lw_in 363 rfl rfl
set_option maxRecDepth 20000 in
theorem q364 : Cond.selects "java/lang/IndexOutOfBoundsException" ⟨"java/lang/Throwable", "fillInStackTrace", "()Ljava/lang/Throwable;"⟩ ⟨"java/lang/Throwable", "fillInStackTrace", "()Ljava/lang/Throwable;"⟩ ∈ lw_all := lw_in 364 rfl rfl
set_option maxRecDepth 20000 in
theorem q375 : Cond.fieldLink "java/lang/Throwable" 198 "java/lang/Throwable" "backtrace" "Ljava/lang/Object;" ∈ lw_all := lw_in 375 rfl rfl
set_option maxRecDepth 20000 in
theorem q377 : Cond.instanceMethod ⟨"java/lang/Throwable", "<init>", "()V"⟩ ∈ lw_all := lw_in 377 rfl rfl
set_option maxRecDepth 20000 in
theorem q379 : Cond.methodLink "java/lang/Throwable" 1 Lib.objectInit ∈ lw_all := lw_in 379 rfl rfl
set_option maxRecDepth 20000 in
theorem q380 : Cond.fieldLink "java/lang/Throwable" 13 "java/lang/Throwable" "UNASSIGNED_STACK" "[Ljava/lang/StackTraceElement;" ∈ lw_all := lw_in 380 rfl rfl
set_option maxRecDepth 20000 in
theorem q382 : Cond.fieldLink "java/lang/Throwable" 20 "java/lang/Throwable" "SUPPRESSED_SENTINEL" "Ljava/util/List;" ∈ lw_all := lw_in 382 rfl rfl
set_option maxRecDepth 20000 in
theorem q384 : Cond.methodLink "java/lang/Throwable" 27 ⟨"java/lang/Throwable", "fillInStackTrace", "()Ljava/lang/Throwable;"⟩ ∈ lw_all := lw_in 384 rfl rfl
set_option maxRecDepth 20000 in
theorem q385 : Cond.instanceMethod ⟨"java/lang/Throwable", "fillInStackTrace", "()Ljava/lang/Throwable;"⟩ ∈ lw_all := lw_in 385 rfl rfl
set_option maxRecDepth 20000 in
theorem q387 : Cond.selects "java/lang/IllegalArgumentException" ⟨"java/lang/Throwable", "fillInStackTrace", "()Ljava/lang/Throwable;"⟩ ⟨"java/lang/Throwable", "fillInStackTrace", "()Ljava/lang/Throwable;"⟩ ∈ lw_all := lw_in 387 rfl rfl
set_option maxRecDepth 20000 in
theorem q388 : Cond.selects "java/lang/IllegalStateException" ⟨"java/lang/Throwable", "fillInStackTrace", "()Ljava/lang/Throwable;"⟩ ⟨"java/lang/Throwable", "fillInStackTrace", "()Ljava/lang/Throwable;"⟩ ∈ lw_all := lw_in 388 rfl rfl
set_option maxRecDepth 20000 in
theorem q389 : Cond.selects "java/lang/UnsupportedOperationException" ⟨"java/lang/Throwable", "fillInStackTrace", "()Ljava/lang/Throwable;"⟩ ⟨"java/lang/Throwable", "fillInStackTrace", "()Ljava/lang/Throwable;"⟩ ∈ lw_all := lw_in 389 rfl rfl
set_option maxRecDepth 20000 in
theorem q390 : Cond.selects "java/util/NoSuchElementException" ⟨"java/lang/Throwable", "fillInStackTrace", "()Ljava/lang/Throwable;"⟩ ⟨"java/lang/Throwable", "fillInStackTrace", "()Ljava/lang/Throwable;"⟩ ∈ lw_all := lw_in 390 rfl rfl
set_option maxRecDepth 20000 in
theorem q392 : Cond.methodLink "java/lang/Throwable" 202 ⟨"java/lang/Throwable", "fillInStackTrace", "(I)Ljava/lang/Throwable;"⟩ ∈ lw_all := lw_in 392 rfl rfl
set_option maxRecDepth 20000 in
theorem q394 : Cond.instanceMethod ⟨"java/lang/Throwable", "fillInStackTrace", "(I)Ljava/lang/Throwable;"⟩ ∈ lw_all := lw_in 394 rfl rfl
set_option maxRecDepth 20000 in
theorem q395 : Cond.instantiable "java/lang/Throwable" 6 ∈ lw_all := lw_in 395 rfl rfl
set_option maxRecDepth 20000 in
theorem q396 : Cond.native ⟨"java/lang/Throwable", "fillInStackTrace", "(I)Ljava/lang/Throwable;"⟩ ∈ lw_all := lw_in 396 rfl rfl
set_option maxRecDepth 20000 in
theorem q398 : Cond.methodLink RX8 223 ⟨"java/lang/IndexOutOfBoundsException", "<init>", "(Ljava/lang/String;)V"⟩ ∈ lw_all := lw_in 398 rfl rfl
set_option maxRecDepth 20000 in
theorem q399 : Cond.instanceMethod ⟨"java/lang/IndexOutOfBoundsException", "<init>", "(Ljava/lang/String;)V"⟩ ∈ lw_all := lw_in 399 rfl rfl
set_option maxRecDepth 20000 in
theorem q401 : Cond.methodLink "java/lang/IndexOutOfBoundsException" 7 ⟨"java/lang/RuntimeException", "<init>", "(Ljava/lang/String;)V"⟩ ∈ lw_all := lw_in 401 rfl rfl
set_option maxRecDepth 20000 in
theorem q402 : Cond.instanceMethod ⟨"java/lang/RuntimeException", "<init>", "(Ljava/lang/String;)V"⟩ ∈ lw_all := lw_in 402 rfl rfl
set_option maxRecDepth 20000 in
theorem q404 : Cond.methodLink "java/lang/RuntimeException" 7 ⟨"java/lang/Exception", "<init>", "(Ljava/lang/String;)V"⟩ ∈ lw_all := lw_in 404 rfl rfl
set_option maxRecDepth 20000 in
theorem q405 : Cond.instanceMethod ⟨"java/lang/Exception", "<init>", "(Ljava/lang/String;)V"⟩ ∈ lw_all := lw_in 405 rfl rfl
set_option maxRecDepth 20000 in
theorem q407 : Cond.methodLink "java/lang/Exception" 7 ⟨"java/lang/Throwable", "<init>", "(Ljava/lang/String;)V"⟩ ∈ lw_all := lw_in 407 rfl rfl
set_option maxRecDepth 20000 in
theorem q408 : Cond.instanceMethod ⟨"java/lang/Throwable", "<init>", "(Ljava/lang/String;)V"⟩ ∈ lw_all := lw_in 408 rfl rfl
set_option maxRecDepth 20000 in
theorem q411 : Cond.fieldLink "java/lang/Throwable" 31 "java/lang/Throwable" "detailMessage" "Ljava/lang/String;" ∈ lw_all := lw_in 411 rfl rfl
set_option maxRecDepth 20000 in
theorem q412 : Cond.fieldLink "java/lang/Throwable" 7 "java/lang/Throwable" "cause" "Ljava/lang/Throwable;" ∈ lw_all := lw_in 412 rfl rfl
set_option maxRecDepth 20000 in
theorem q413 : Cond.fieldLink "java/lang/Throwable" 17 "java/lang/Throwable" "stackTrace" "[Ljava/lang/StackTraceElement;" ∈ lw_all := lw_in 413 rfl rfl
set_option maxRecDepth 20000 in
theorem q414 : Cond.fieldLink "java/lang/Throwable" 24 "java/lang/Throwable" "suppressedExceptions" "Ljava/util/List;" ∈ lw_all := lw_in 414 rfl rfl
set_option maxRecDepth 20000 in
theorem q423 : Cond.arrayClass .byte ∈ lw_all := lw_in 423 rfl rfl
set_option maxRecDepth 20000 in
theorem q424 : Cond.classLink RX8 131 "java/lang/IllegalArgumentException" ∈ lw_all := lw_in 424 rfl rfl
set_option maxRecDepth 20000 in
theorem q425 : Cond.instantiable "java/lang/IllegalArgumentException" 6 ∈ lw_all := lw_in 425 rfl rfl
set_option maxRecDepth 20000 in
theorem q427 : Cond.selects "java/lang/IllegalArgumentException" ⟨"java/lang/Throwable", "fillInStackTrace", "(I)Ljava/lang/Throwable;"⟩ ⟨"java/lang/Throwable", "fillInStackTrace", "(I)Ljava/lang/Throwable;"⟩ ∈ lw_all := lw_in 427 rfl rfl
set_option maxRecDepth 20000 in
theorem q434 : Cond.methodLink RX8 135 ⟨"java/lang/IllegalArgumentException", "<init>", "(Ljava/lang/String;)V"⟩ ∈ lw_all := lw_in 434 rfl rfl
set_option maxRecDepth 20000 in
theorem q435 : Cond.instanceMethod ⟨"java/lang/IllegalArgumentException", "<init>", "(Ljava/lang/String;)V"⟩ ∈ lw_all := lw_in 435 rfl rfl
set_option maxRecDepth 20000 in
theorem q437 : Cond.methodLink "java/lang/IllegalArgumentException" 7 ⟨"java/lang/RuntimeException", "<init>", "(Ljava/lang/String;)V"⟩ ∈ lw_all := lw_in 437 rfl rfl
set_option maxRecDepth 20000 in
theorem q440 : Cond.classLink RX8 328 "java/lang/UnsupportedOperationException" ∈ lw_all := lw_in 440 rfl rfl
set_option maxRecDepth 20000 in
theorem q441 : Cond.instantiable "java/lang/UnsupportedOperationException" 6 ∈ lw_all := lw_in 441 rfl rfl
set_option maxRecDepth 20000 in
theorem q443 : Cond.selects "java/lang/UnsupportedOperationException" ⟨"java/lang/Throwable", "fillInStackTrace", "(I)Ljava/lang/Throwable;"⟩ ⟨"java/lang/Throwable", "fillInStackTrace", "(I)Ljava/lang/Throwable;"⟩ ∈ lw_all := lw_in 443 rfl rfl
set_option maxRecDepth 20000 in
theorem q450 : Cond.methodLink RX8 332 ⟨"java/lang/UnsupportedOperationException", "<init>", "(Ljava/lang/String;)V"⟩ ∈ lw_all := lw_in 450 rfl rfl
set_option maxRecDepth 20000 in
theorem q451 : Cond.instanceMethod ⟨"java/lang/UnsupportedOperationException", "<init>", "(Ljava/lang/String;)V"⟩ ∈ lw_all := lw_in 451 rfl rfl
set_option maxRecDepth 20000 in
theorem q453 : Cond.methodLink "java/lang/UnsupportedOperationException" 7 ⟨"java/lang/RuntimeException", "<init>", "(Ljava/lang/String;)V"⟩ ∈ lw_all := lw_in 453 rfl rfl
set_option maxRecDepth 20000 in
theorem q456 : Cond.methodLink RL 163 yL_fork ∈ lw_all := lw_in 456 rfl rfl
set_option maxRecDepth 20000 in
theorem q457 : Cond.static yL_fork ∈ lw_all := lw_in 457 rfl rfl
set_option maxRecDepth 20000 in
theorem q459 : Cond.methodLink RL 19 yX8_fork ∈ lw_all := lw_in 459 rfl rfl
set_option maxRecDepth 20000 in
theorem q460 : Cond.instanceMethod yX8_fork ∈ lw_all := lw_in 460 rfl rfl
set_option maxRecDepth 20000 in
theorem q461 : Cond.selects RX8 yX8_fork yX8_fork ∈ lw_all := lw_in 461 rfl rfl
set_option maxRecDepth 20000 in
theorem q462 : Cond.code yX8_fork cX8_fork 2 (some .int) ∈ lw_all := lw_in 462 rfl rfl
set_option maxRecDepth 20000 in
theorem q463 : Cond.methodLink RX8 85 yX0_tryFork ∈ lw_all := lw_in 463 rfl rfl
set_option maxRecDepth 20000 in
theorem q464 : Cond.instanceMethod yX0_tryFork ∈ lw_all := lw_in 464 rfl rfl
set_option maxRecDepth 20000 in
theorem q465 : Cond.selects RX0 yX0_tryFork yX0_tryFork ∈ lw_all := lw_in 465 rfl rfl
set_option maxRecDepth 20000 in
theorem q466 : Cond.code yX0_tryFork cX0_tryFork 2 (some .int) ∈ lw_all := lw_in 466 rfl rfl
set_option maxRecDepth 20000 in
theorem q467 : Cond.methodLink RX0 68 yX1_branchCount ∈ lw_all := lw_in 467 rfl rfl
set_option maxRecDepth 20000 in
theorem q468 : Cond.instanceMethod yX1_branchCount ∈ lw_all := lw_in 468 rfl rfl
set_option maxRecDepth 20000 in
theorem q469 : Cond.selects RX1 yX1_branchCount yX1_branchCount ∈ lw_all := lw_in 469 rfl rfl
set_option maxRecDepth 20000 in
theorem q470 : Cond.code yX1_branchCount cX1_branchCount 1 (some .int) ∈ lw_all := lw_in 470 rfl rfl
set_option maxRecDepth 20000 in
theorem q471 : Cond.methodLink RX0 72 yX1_addBranch ∈ lw_all := lw_in 471 rfl rfl
set_option maxRecDepth 20000 in
theorem q472 : Cond.instanceMethod yX1_addBranch ∈ lw_all := lw_in 472 rfl rfl
set_option maxRecDepth 20000 in
theorem q473 : Cond.selects RX1 yX1_addBranch yX1_addBranch ∈ lw_all := lw_in 473 rfl rfl
set_option maxRecDepth 20000 in
theorem q474 : Cond.code yX1_addBranch cX1_addBranch 3 (some .int) ∈ lw_all := lw_in 474 rfl rfl
set_option maxRecDepth 20000 in
theorem q475 : Cond.methodLink RL 233 yL_reset ∈ lw_all := lw_in 475 rfl rfl
set_option maxRecDepth 20000 in
theorem q476 : Cond.static yL_reset ∈ lw_all := lw_in 476 rfl rfl
set_option maxRecDepth 20000 in
theorem q478 : Cond.methodLink RL 23 yX8_reset ∈ lw_all := lw_in 478 rfl rfl
set_option maxRecDepth 20000 in
theorem q479 : Cond.instanceMethod yX8_reset ∈ lw_all := lw_in 479 rfl rfl
set_option maxRecDepth 20000 in
theorem q480 : Cond.selects RX8 yX8_reset yX8_reset ∈ lw_all := lw_in 480 rfl rfl
set_option maxRecDepth 20000 in
theorem q481 : Cond.code yX8_reset cX8_reset 3 (some .int) ∈ lw_all := lw_in 481 rfl rfl
set_option maxRecDepth 20000 in
theorem q482 : Cond.methodLink RX8 88 yX0_tryReset ∈ lw_all := lw_in 482 rfl rfl
set_option maxRecDepth 20000 in
theorem q483 : Cond.instanceMethod yX0_tryReset ∈ lw_all := lw_in 483 rfl rfl
set_option maxRecDepth 20000 in
theorem q484 : Cond.selects RX0 yX0_tryReset yX0_tryReset ∈ lw_all := lw_in 484 rfl rfl
set_option maxRecDepth 20000 in
theorem q485 : Cond.code yX0_tryReset cX0_tryReset 4 (some .int) ∈ lw_all := lw_in 485 rfl rfl
set_option maxRecDepth 20000 in
theorem q486 : Cond.methodLink RX0 75 yX1_isCommit ∈ lw_all := lw_in 486 rfl rfl
set_option maxRecDepth 20000 in
theorem q487 : Cond.instanceMethod yX1_isCommit ∈ lw_all := lw_in 487 rfl rfl
set_option maxRecDepth 20000 in
theorem q488 : Cond.selects RX1 yX1_isCommit yX1_isCommit ∈ lw_all := lw_in 488 rfl rfl
set_option maxRecDepth 20000 in
theorem q489 : Cond.code yX1_isCommit cX1_isCommit 2 (some .boolean) ∈ lw_all := lw_in 489 rfl rfl
set_option maxRecDepth 20000 in
theorem q490 : Cond.methodLink RX0 78 yX1_moveTip ∈ lw_all := lw_in 490 rfl rfl
set_option maxRecDepth 20000 in
theorem q491 : Cond.instanceMethod yX1_moveTip ∈ lw_all := lw_in 491 rfl rfl
set_option maxRecDepth 20000 in
theorem q492 : Cond.selects RX1 yX1_moveTip yX1_moveTip ∈ lw_all := lw_in 492 rfl rfl
set_option maxRecDepth 20000 in
theorem q493 : Cond.code yX1_moveTip cX1_moveTip 3 none ∈ lw_all := lw_in 493 rfl rfl
set_option maxRecDepth 20000 in
theorem q494 : Cond.methodLink RL 216 yL_tip ∈ lw_all := lw_in 494 rfl rfl
set_option maxRecDepth 20000 in
theorem q495 : Cond.static yL_tip ∈ lw_all := lw_in 495 rfl rfl
set_option maxRecDepth 20000 in
theorem q497 : Cond.methodLink RL 27 yX8_tip ∈ lw_all := lw_in 497 rfl rfl
set_option maxRecDepth 20000 in
theorem q498 : Cond.instanceMethod yX8_tip ∈ lw_all := lw_in 498 rfl rfl
set_option maxRecDepth 20000 in
theorem q499 : Cond.selects RX8 yX8_tip yX8_tip ∈ lw_all := lw_in 499 rfl rfl
set_option maxRecDepth 20000 in
theorem q500 : Cond.code yX8_tip cX8_tip 2 (some .int) ∈ lw_all := lw_in 500 rfl rfl
set_option maxRecDepth 20000 in
theorem q501 : Cond.methodLink RX8 92 yX8_needBranch ∈ lw_all := lw_in 501 rfl rfl
set_option maxRecDepth 20000 in
theorem q503 : Cond.instanceMethod yX8_needBranch ∈ lw_all := lw_in 503 rfl rfl
set_option maxRecDepth 20000 in
theorem q504 : Cond.code yX8_needBranch cX8_needBranch 2 none ∈ lw_all := lw_in 504 rfl rfl
set_option maxRecDepth 20000 in
theorem q505 : Cond.methodLink RX8 333 yX1_isBranch ∈ lw_all := lw_in 505 rfl rfl
set_option maxRecDepth 20000 in
theorem q507 : Cond.methodLink RX8 96 yX1_tipOf ∈ lw_all := lw_in 507 rfl rfl
set_option maxRecDepth 20000 in
theorem q508 : Cond.methodLink RL 197 yL_commitOf ∈ lw_all := lw_in 508 rfl rfl
set_option maxRecDepth 20000 in
theorem q509 : Cond.static yL_commitOf ∈ lw_all := lw_in 509 rfl rfl
set_option maxRecDepth 20000 in
theorem q511 : Cond.methodLink RL 33 yX8_commitOf ∈ lw_all := lw_in 511 rfl rfl
set_option maxRecDepth 20000 in
theorem q512 : Cond.instanceMethod yX8_commitOf ∈ lw_all := lw_in 512 rfl rfl
set_option maxRecDepth 20000 in
theorem q513 : Cond.selects RX8 yX8_commitOf yX8_commitOf ∈ lw_all := lw_in 513 rfl rfl
set_option maxRecDepth 20000 in
theorem q514 : Cond.code yX8_commitOf cX8_commitOf 3 (some .int) ∈ lw_all := lw_in 514 rfl rfl
set_option maxRecDepth 20000 in
theorem q515 : Cond.methodLink RX8 99 yX8_needCommit ∈ lw_all := lw_in 515 rfl rfl
set_option maxRecDepth 20000 in
theorem q517 : Cond.instanceMethod yX8_needCommit ∈ lw_all := lw_in 517 rfl rfl
set_option maxRecDepth 20000 in
theorem q518 : Cond.code yX8_needCommit cX8_needCommit 2 none ∈ lw_all := lw_in 518 rfl rfl
set_option maxRecDepth 20000 in
theorem q519 : Cond.methodLink RX8 338 yX1_isCommit ∈ lw_all := lw_in 519 rfl rfl
set_option maxRecDepth 20000 in
theorem q521 : Cond.methodLink RX8 108 yX1_kindOf ∈ lw_all := lw_in 521 rfl rfl
set_option maxRecDepth 20000 in
theorem q522 : Cond.instanceMethod yX1_kindOf ∈ lw_all := lw_in 522 rfl rfl
set_option maxRecDepth 20000 in
theorem q523 : Cond.selects RX1 yX1_kindOf yX1_kindOf ∈ lw_all := lw_in 523 rfl rfl
set_option maxRecDepth 20000 in
theorem q524 : Cond.code yX1_kindOf cX1_kindOf 2 (some .int) ∈ lw_all := lw_in 524 rfl rfl
set_option maxRecDepth 20000 in
theorem q525 : Cond.methodLink RX8 111 yX1_firstOf ∈ lw_all := lw_in 525 rfl rfl
set_option maxRecDepth 20000 in
theorem q526 : Cond.instanceMethod yX1_firstOf ∈ lw_all := lw_in 526 rfl rfl
set_option maxRecDepth 20000 in
theorem q527 : Cond.selects RX1 yX1_firstOf yX1_firstOf ∈ lw_all := lw_in 527 rfl rfl
set_option maxRecDepth 20000 in
theorem q528 : Cond.code yX1_firstOf cX1_firstOf 2 (some .int) ∈ lw_all := lw_in 528 rfl rfl
set_option maxRecDepth 20000 in
theorem q529 : Cond.methodLink RX8 114 yX1_secondOf ∈ lw_all := lw_in 529 rfl rfl
set_option maxRecDepth 20000 in
theorem q530 : Cond.instanceMethod yX1_secondOf ∈ lw_all := lw_in 530 rfl rfl
set_option maxRecDepth 20000 in
theorem q531 : Cond.selects RX1 yX1_secondOf yX1_secondOf ∈ lw_all := lw_in 531 rfl rfl
set_option maxRecDepth 20000 in
theorem q532 : Cond.code yX1_secondOf cX1_secondOf 2 (some .int) ∈ lw_all := lw_in 532 rfl rfl
set_option maxRecDepth 20000 in
theorem q533 : Cond.methodLink RX8 117 yX1_changedIn ∈ lw_all := lw_in 533 rfl rfl
set_option maxRecDepth 20000 in
theorem q534 : Cond.instanceMethod yX1_changedIn ∈ lw_all := lw_in 534 rfl rfl
set_option maxRecDepth 20000 in
theorem q535 : Cond.selects RX1 yX1_changedIn yX1_changedIn ∈ lw_all := lw_in 535 rfl rfl
set_option maxRecDepth 20000 in
theorem q536 : Cond.code yX1_changedIn cX1_changedIn 5 (some .int) ∈ lw_all := lw_in 536 rfl rfl
set_option maxRecDepth 20000 in
theorem q537 : Cond.methodLink RX1 52 yX1_firstOf ∈ lw_all := lw_in 537 rfl rfl
set_option maxRecDepth 20000 in
theorem q538 : Cond.methodLink RX1 56 yX1_amountIn ∈ lw_all := lw_in 538 rfl rfl
set_option maxRecDepth 20000 in
theorem q539 : Cond.methodLink RX8 120 yX1_familyOf ∈ lw_all := lw_in 539 rfl rfl
set_option maxRecDepth 20000 in
theorem q540 : Cond.methodLink RX8 123 yJ6_bitCount_0f7a4 ∈ lw_all := lw_in 540 rfl rfl
set_option maxRecDepth 20000 in
theorem q541 : Cond.static yJ6_bitCount_0f7a4 ∈ lw_all := lw_in 541 rfl rfl
set_option maxRecDepth 20000 in
theorem q542 : Cond.code yJ6_bitCount_0f7a4 cJ6_bitCount_0f7a4 1 (some .int) ∈ lw_all := lw_in 542 rfl rfl
set_option maxRecDepth 20000 in
theorem q543 : Cond.constant RJ6 265 1431655765 ∈ lw_all := lw_in 543 rfl rfl
set_option maxRecDepth 20000 in
theorem q544 : Cond.constant RJ6 266 858993459 ∈ lw_all := lw_in 544 rfl rfl
set_option maxRecDepth 20000 in
theorem q545 : Cond.constant RJ6 267 252645135 ∈ lw_all := lw_in 545 rfl rfl
set_option maxRecDepth 20000 in
theorem q546 : Cond.methodLink RX8 128 yX1_depthOf ∈ lw_all := lw_in 546 rfl rfl
set_option maxRecDepth 20000 in
theorem q548 : Cond.methodLink RL 165 yL_merge ∈ lw_all := lw_in 548 rfl rfl
set_option maxRecDepth 20000 in
theorem q549 : Cond.static yL_merge ∈ lw_all := lw_in 549 rfl rfl
set_option maxRecDepth 20000 in
theorem q551 : Cond.methodLink RL 36 yX8_merge ∈ lw_all := lw_in 551 rfl rfl
set_option maxRecDepth 20000 in
theorem q552 : Cond.instanceMethod yX8_merge ∈ lw_all := lw_in 552 rfl rfl
set_option maxRecDepth 20000 in
theorem q553 : Cond.selects RX8 yX8_merge yX8_merge ∈ lw_all := lw_in 553 rfl rfl
set_option maxRecDepth 20000 in
theorem q554 : Cond.code yX8_merge cX8_merge 4 (some .int) ∈ lw_all := lw_in 554 rfl rfl
set_option maxRecDepth 20000 in
theorem q555 : Cond.methodLink RX8 138 yX0_tryMerge ∈ lw_all := lw_in 555 rfl rfl
set_option maxRecDepth 20000 in
theorem q556 : Cond.instanceMethod yX0_tryMerge ∈ lw_all := lw_in 556 rfl rfl
set_option maxRecDepth 20000 in
theorem q557 : Cond.selects RX0 yX0_tryMerge yX0_tryMerge ∈ lw_all := lw_in 557 rfl rfl
set_option maxRecDepth 20000 in
theorem q558 : Cond.code yX0_tryMerge cX0_tryMerge 6 (some .int) ∈ lw_all := lw_in 558 rfl rfl
set_option maxRecDepth 20000 in
theorem q560 : Cond.static yX8_isRule ∈ lw_all := lw_in 560 rfl rfl
set_option maxRecDepth 20000 in
theorem q561 : Cond.code yX8_isRule cX8_isRule 1 (some .boolean) ∈ lw_all := lw_in 561 rfl rfl
set_option maxRecDepth 20000 in
theorem q562 : Cond.methodLink RX0 85 yX1_hasInFamily ∈ lw_all := lw_in 562 rfl rfl
set_option maxRecDepth 20000 in
theorem q563 : Cond.instanceMethod yX1_hasInFamily ∈ lw_all := lw_in 563 rfl rfl
set_option maxRecDepth 20000 in
theorem q564 : Cond.selects RX1 yX1_hasInFamily yX1_hasInFamily ∈ lw_all := lw_in 564 rfl rfl
set_option maxRecDepth 20000 in
theorem q565 : Cond.code yX1_hasInFamily cX1_hasInFamily 3 (some .boolean) ∈ lw_all := lw_in 565 rfl rfl
set_option maxRecDepth 20000 in
theorem q567 : Cond.static yX8_isInSet ∈ lw_all := lw_in 567 rfl rfl
set_option maxRecDepth 20000 in
theorem q568 : Cond.code yX8_isInSet cX8_isInSet 2 (some .boolean) ∈ lw_all := lw_in 568 rfl rfl
set_option maxRecDepth 20000 in
theorem q569 : Cond.methodLink RX0 89 yX1_commonGround ∈ lw_all := lw_in 569 rfl rfl
set_option maxRecDepth 20000 in
theorem q570 : Cond.instanceMethod yX1_commonGround ∈ lw_all := lw_in 570 rfl rfl
set_option maxRecDepth 20000 in
theorem q571 : Cond.selects RX1 yX1_commonGround yX1_commonGround ∈ lw_all := lw_in 571 rfl rfl
set_option maxRecDepth 20000 in
theorem q572 : Cond.code yX1_commonGround cX1_commonGround 5 (some .int) ∈ lw_all := lw_in 572 rfl rfl
set_option maxRecDepth 20000 in
theorem q573 : Cond.methodLink RX1 82 Lib.Math.min.name ∈ lw_all := lw_in 573 rfl rfl
set_option maxRecDepth 20000 in
theorem q574 : Cond.methodLink RX0 92 yX5_putTogether ∈ lw_all := lw_in 574 rfl rfl
set_option maxRecDepth 20000 in
theorem q575 : Cond.instanceMethod yX5_putTogether ∈ lw_all := lw_in 575 rfl rfl
set_option maxRecDepth 20000 in
theorem q576 : Cond.selects RX5 yX5_putTogether yX5_putTogether ∈ lw_all := lw_in 576 rfl rfl
set_option maxRecDepth 20000 in
theorem q577 : Cond.code yX5_putTogether cX5_putTogether 10 none ∈ lw_all := lw_in 577 rfl rfl
set_option maxRecDepth 20000 in
theorem q578 : Cond.methodLink RX5 28 yX5_byRule ∈ lw_all := lw_in 578 rfl rfl
set_option maxRecDepth 20000 in
theorem q579 : Cond.static yX5_byRule ∈ lw_all := lw_in 579 rfl rfl
set_option maxRecDepth 20000 in
theorem q580 : Cond.code yX5_byRule cX5_byRule 3 (some .int) ∈ lw_all := lw_in 580 rfl rfl
set_option maxRecDepth 20000 in
theorem q581 : Cond.methodLink RX0 96 yX0_isStopped ∈ lw_all := lw_in 581 rfl rfl
set_option maxRecDepth 20000 in
theorem q583 : Cond.instanceMethod yX0_isStopped ∈ lw_all := lw_in 583 rfl rfl
set_option maxRecDepth 20000 in
theorem q584 : Cond.code yX0_isStopped cX0_isStopped 2 (some .boolean) ∈ lw_all := lw_in 584 rfl rfl
set_option maxRecDepth 20000 in
theorem q585 : Cond.methodLink RX0 138 yX5_conflictsFound ∈ lw_all := lw_in 585 rfl rfl
set_option maxRecDepth 20000 in
theorem q586 : Cond.instanceMethod yX5_conflictsFound ∈ lw_all := lw_in 586 rfl rfl
set_option maxRecDepth 20000 in
theorem q587 : Cond.selects RX5 yX5_conflictsFound yX5_conflictsFound ∈ lw_all := lw_in 587 rfl rfl
set_option maxRecDepth 20000 in
theorem q588 : Cond.code yX5_conflictsFound cX5_conflictsFound 1 (some .int) ∈ lw_all := lw_in 588 rfl rfl
set_option maxRecDepth 20000 in
theorem q589 : Cond.methodLink RX0 99 yX5_lowestConflict ∈ lw_all := lw_in 589 rfl rfl
set_option maxRecDepth 20000 in
theorem q590 : Cond.instanceMethod yX5_lowestConflict ∈ lw_all := lw_in 590 rfl rfl
set_option maxRecDepth 20000 in
theorem q591 : Cond.selects RX5 yX5_lowestConflict yX5_lowestConflict ∈ lw_all := lw_in 591 rfl rfl
set_option maxRecDepth 20000 in
theorem q592 : Cond.code yX5_lowestConflict cX5_lowestConflict 1 (some .int) ∈ lw_all := lw_in 592 rfl rfl
set_option maxRecDepth 20000 in
theorem q593 : Cond.methodLink RL 235 yL_revert ∈ lw_all := lw_in 593 rfl rfl
set_option maxRecDepth 20000 in
theorem q594 : Cond.static yL_revert ∈ lw_all := lw_in 594 rfl rfl
set_option maxRecDepth 20000 in
theorem q596 : Cond.methodLink RL 42 yX8_revert ∈ lw_all := lw_in 596 rfl rfl
set_option maxRecDepth 20000 in
theorem q597 : Cond.instanceMethod yX8_revert ∈ lw_all := lw_in 597 rfl rfl
set_option maxRecDepth 20000 in
theorem q598 : Cond.selects RX8 yX8_revert yX8_revert ∈ lw_all := lw_in 598 rfl rfl
set_option maxRecDepth 20000 in
theorem q599 : Cond.code yX8_revert cX8_revert 4 (some .int) ∈ lw_all := lw_in 599 rfl rfl
set_option maxRecDepth 20000 in
theorem q600 : Cond.methodLink RX8 144 yX0_tryRevert ∈ lw_all := lw_in 600 rfl rfl
set_option maxRecDepth 20000 in
theorem q601 : Cond.instanceMethod yX0_tryRevert ∈ lw_all := lw_in 601 rfl rfl
set_option maxRecDepth 20000 in
theorem q602 : Cond.selects RX0 yX0_tryRevert yX0_tryRevert ∈ lw_all := lw_in 602 rfl rfl
set_option maxRecDepth 20000 in
theorem q603 : Cond.code yX0_tryRevert cX0_tryRevert 5 (some .int) ∈ lw_all := lw_in 603 rfl rfl
set_option maxRecDepth 20000 in
theorem q604 : Cond.methodLink RX0 102 yX1_firstOf ∈ lw_all := lw_in 604 rfl rfl
set_option maxRecDepth 20000 in
theorem q605 : Cond.methodLink RX0 105 yX0_pickChange ∈ lw_all := lw_in 605 rfl rfl
set_option maxRecDepth 20000 in
theorem q607 : Cond.instanceMethod yX0_pickChange ∈ lw_all := lw_in 607 rfl rfl
set_option maxRecDepth 20000 in
theorem q608 : Cond.code yX0_pickChange cX0_pickChange 6 (some .int) ∈ lw_all := lw_in 608 rfl rfl
set_option maxRecDepth 20000 in
theorem q609 : Cond.methodLink RX0 141 yX5_isRowOf ∈ lw_all := lw_in 609 rfl rfl
set_option maxRecDepth 20000 in
theorem q610 : Cond.instanceMethod yX5_isRowOf ∈ lw_all := lw_in 610 rfl rfl
set_option maxRecDepth 20000 in
theorem q611 : Cond.selects RX5 yX5_isRowOf yX5_isRowOf ∈ lw_all := lw_in 611 rfl rfl
set_option maxRecDepth 20000 in
theorem q612 : Cond.code yX5_isRowOf cX5_isRowOf 4 (some .boolean) ∈ lw_all := lw_in 612 rfl rfl
set_option maxRecDepth 20000 in
theorem q613 : Cond.methodLink RL 228 yL_halve ∈ lw_all := lw_in 613 rfl rfl
set_option maxRecDepth 20000 in
theorem q614 : Cond.static yL_halve ∈ lw_all := lw_in 614 rfl rfl
set_option maxRecDepth 20000 in
theorem q616 : Cond.classLink RL 64 "java/util/NoSuchElementException" ∈ lw_all := lw_in 616 rfl rfl
set_option maxRecDepth 20000 in
theorem q617 : Cond.methodLink RL 66 yX8_halve ∈ lw_all := lw_in 617 rfl rfl
set_option maxRecDepth 20000 in
theorem q618 : Cond.instanceMethod yX8_halve ∈ lw_all := lw_in 618 rfl rfl
set_option maxRecDepth 20000 in
theorem q619 : Cond.selects RX8 yX8_halve yX8_halve ∈ lw_all := lw_in 619 rfl rfl
set_option maxRecDepth 20000 in
theorem q620 : Cond.code yX8_halve cX8_halve 7 (some .int) ∈ lw_all := lw_in 620 rfl rfl
set_option maxRecDepth 20000 in
theorem q621 : Cond.methodLink RX8 102 yX8_needIngredient ∈ lw_all := lw_in 621 rfl rfl
set_option maxRecDepth 20000 in
theorem q623 : Cond.instanceMethod yX8_needIngredient ∈ lw_all := lw_in 623 rfl rfl
set_option maxRecDepth 20000 in
theorem q624 : Cond.code yX8_needIngredient cX8_needIngredient 2 none ∈ lw_all := lw_in 624 rfl rfl
set_option maxRecDepth 20000 in
theorem q625 : Cond.methodLink RX8 343 yX8_isIngredient ∈ lw_all := lw_in 625 rfl rfl
set_option maxRecDepth 20000 in
theorem q627 : Cond.methodLink RX8 177 yX8_needAmount ∈ lw_all := lw_in 627 rfl rfl
set_option maxRecDepth 20000 in
theorem q629 : Cond.instanceMethod yX8_needAmount ∈ lw_all := lw_in 629 rfl rfl
set_option maxRecDepth 20000 in
theorem q630 : Cond.code yX8_needAmount cX8_needAmount 2 none ∈ lw_all := lw_in 630 rfl rfl
set_option maxRecDepth 20000 in
theorem q631 : Cond.methodLink RX8 348 yX8_isAmount ∈ lw_all := lw_in 631 rfl rfl
set_option maxRecDepth 20000 in
theorem q633 : Cond.methodLink RX8 105 yX1_amountIn ∈ lw_all := lw_in 633 rfl rfl
set_option maxRecDepth 20000 in
theorem q634 : Cond.classLink RX8 172 "java/util/NoSuchElementException" ∈ lw_all := lw_in 634 rfl rfl
set_option maxRecDepth 20000 in
theorem q635 : Cond.instantiable "java/util/NoSuchElementException" 6 ∈ lw_all := lw_in 635 rfl rfl
set_option maxRecDepth 20000 in
theorem q637 : Cond.selects "java/util/NoSuchElementException" ⟨"java/lang/Throwable", "fillInStackTrace", "(I)Ljava/lang/Throwable;"⟩ ⟨"java/lang/Throwable", "fillInStackTrace", "(I)Ljava/lang/Throwable;"⟩ ∈ lw_all := lw_in 637 rfl rfl
set_option maxRecDepth 20000 in
theorem q644 : Cond.methodLink RX8 176 ⟨"java/util/NoSuchElementException", "<init>", "(Ljava/lang/String;)V"⟩ ∈ lw_all := lw_in 644 rfl rfl
set_option maxRecDepth 20000 in
theorem q645 : Cond.instanceMethod ⟨"java/util/NoSuchElementException", "<init>", "(Ljava/lang/String;)V"⟩ ∈ lw_all := lw_in 645 rfl rfl
set_option maxRecDepth 20000 in
theorem q647 : Cond.methodLink "java/util/NoSuchElementException" 13 ⟨"java/lang/RuntimeException", "<init>", "(Ljava/lang/String;)V"⟩ ∈ lw_all := lw_in 647 rfl rfl
set_option maxRecDepth 20000 in
theorem q650 : Cond.methodLink RX8 165 yX7_follow ∈ lw_all := lw_in 650 rfl rfl
set_option maxRecDepth 20000 in
theorem q651 : Cond.instanceMethod yX7_follow ∈ lw_all := lw_in 651 rfl rfl
set_option maxRecDepth 20000 in
theorem q652 : Cond.selects RX7 yX7_follow yX7_follow ∈ lw_all := lw_in 652 rfl rfl
set_option maxRecDepth 20000 in
theorem q653 : Cond.code yX7_follow cX7_follow 5 none ∈ lw_all := lw_in 653 rfl rfl
set_option maxRecDepth 20000 in
theorem q654 : Cond.methodLink RX7 22 yX1_firstOf ∈ lw_all := lw_in 654 rfl rfl
set_option maxRecDepth 20000 in
theorem q655 : Cond.methodLink RX8 182 yX7_searchByHalves ∈ lw_all := lw_in 655 rfl rfl
set_option maxRecDepth 20000 in
theorem q656 : Cond.instanceMethod yX7_searchByHalves ∈ lw_all := lw_in 656 rfl rfl
set_option maxRecDepth 20000 in
theorem q657 : Cond.selects RX7 yX7_searchByHalves yX7_searchByHalves ∈ lw_all := lw_in 657 rfl rfl
set_option maxRecDepth 20000 in
theorem q658 : Cond.code yX7_searchByHalves cX7_searchByHalves 8 (some .int) ∈ lw_all := lw_in 658 rfl rfl
set_option maxRecDepth 20000 in
theorem q659 : Cond.methodLink RX7 28 yX7_at ∈ lw_all := lw_in 659 rfl rfl
set_option maxRecDepth 20000 in
theorem q660 : Cond.instanceMethod yX7_at ∈ lw_all := lw_in 660 rfl rfl
set_option maxRecDepth 20000 in
theorem q661 : Cond.selects RX7 yX7_at yX7_at ∈ lw_all := lw_in 661 rfl rfl
set_option maxRecDepth 20000 in
theorem q662 : Cond.code yX7_at cX7_at 2 (some .int) ∈ lw_all := lw_in 662 rfl rfl
set_option maxRecDepth 20000 in
theorem q663 : Cond.methodLink RX7 31 yX1_amountIn ∈ lw_all := lw_in 663 rfl rfl
set_option maxRecDepth 20000 in
theorem q664 : Cond.methodLink RX8 186 yX7_looksTaken ∈ lw_all := lw_in 664 rfl rfl
set_option maxRecDepth 20000 in
theorem q665 : Cond.instanceMethod yX7_looksTaken ∈ lw_all := lw_in 665 rfl rfl
set_option maxRecDepth 20000 in
theorem q666 : Cond.selects RX7 yX7_looksTaken yX7_looksTaken ∈ lw_all := lw_in 666 rfl rfl
set_option maxRecDepth 20000 in
theorem q667 : Cond.code yX7_looksTaken cX7_looksTaken 1 (some .int) ∈ lw_all := lw_in 667 rfl rfl
set_option maxRecDepth 20000 in
theorem q668 : Cond.methodLink RL 226 yL_firstBad ∈ lw_all := lw_in 668 rfl rfl
set_option maxRecDepth 20000 in
theorem q669 : Cond.static yL_firstBad ∈ lw_all := lw_in 669 rfl rfl
set_option maxRecDepth 20000 in
theorem q671 : Cond.methodLink RL 70 yX8_firstBad ∈ lw_all := lw_in 671 rfl rfl
set_option maxRecDepth 20000 in
theorem q672 : Cond.instanceMethod yX8_firstBad ∈ lw_all := lw_in 672 rfl rfl
set_option maxRecDepth 20000 in
theorem q673 : Cond.selects RX8 yX8_firstBad yX8_firstBad ∈ lw_all := lw_in 673 rfl rfl
set_option maxRecDepth 20000 in
theorem q674 : Cond.code yX8_firstBad cX8_firstBad 5 (some .int) ∈ lw_all := lw_in 674 rfl rfl
set_option maxRecDepth 20000 in
theorem q675 : Cond.methodLink RX8 190 yX7_farthestBad ∈ lw_all := lw_in 675 rfl rfl
set_option maxRecDepth 20000 in
theorem q676 : Cond.instanceMethod yX7_farthestBad ∈ lw_all := lw_in 676 rfl rfl
set_option maxRecDepth 20000 in
theorem q677 : Cond.selects RX7 yX7_farthestBad yX7_farthestBad ∈ lw_all := lw_in 677 rfl rfl
set_option maxRecDepth 20000 in
theorem q678 : Cond.code yX7_farthestBad cX7_farthestBad 5 (some .int) ∈ lw_all := lw_in 678 rfl rfl
set_option maxRecDepth 20000 in
theorem q680 : Cond.methodLink RL 237 yL_bundle ∈ lw_all := lw_in 680 rfl rfl
set_option maxRecDepth 20000 in
theorem q681 : Cond.static yL_bundle ∈ lw_all := lw_in 681 rfl rfl
set_option maxRecDepth 20000 in
theorem q683 : Cond.methodLink RL 87 yX8_bundle ∈ lw_all := lw_in 683 rfl rfl
set_option maxRecDepth 20000 in
theorem q684 : Cond.instanceMethod yX8_bundle ∈ lw_all := lw_in 684 rfl rfl
set_option maxRecDepth 20000 in
theorem q685 : Cond.selects RX8 yX8_bundle yX8_bundle ∈ lw_all := lw_in 685 rfl rfl
set_option maxRecDepth 20000 in
theorem q686 : Cond.code yX8_bundle cX8_bundle 2 (some .int) ∈ lw_all := lw_in 686 rfl rfl
set_option maxRecDepth 20000 in
theorem q687 : Cond.methodLink RX8 211 yX0_tryBundle ∈ lw_all := lw_in 687 rfl rfl
set_option maxRecDepth 20000 in
theorem q688 : Cond.instanceMethod yX0_tryBundle ∈ lw_all := lw_in 688 rfl rfl
set_option maxRecDepth 20000 in
theorem q689 : Cond.selects RX0 yX0_tryBundle yX0_tryBundle ∈ lw_all := lw_in 689 rfl rfl
set_option maxRecDepth 20000 in
theorem q690 : Cond.code yX0_tryBundle cX0_tryBundle 3 (some .int) ∈ lw_all := lw_in 690 rfl rfl
set_option maxRecDepth 20000 in
theorem q691 : Cond.methodLink RX0 109 yX1_bundledCount ∈ lw_all := lw_in 691 rfl rfl
set_option maxRecDepth 20000 in
theorem q692 : Cond.instanceMethod yX1_bundledCount ∈ lw_all := lw_in 692 rfl rfl
set_option maxRecDepth 20000 in
theorem q693 : Cond.selects RX1 yX1_bundledCount yX1_bundledCount ∈ lw_all := lw_in 693 rfl rfl
set_option maxRecDepth 20000 in
theorem q694 : Cond.code yX1_bundledCount cX1_bundledCount 3 (some .int) ∈ lw_all := lw_in 694 rfl rfl
set_option maxRecDepth 20000 in
theorem q695 : Cond.methodLink RX0 112 yX1_takeBundle ∈ lw_all := lw_in 695 rfl rfl
set_option maxRecDepth 20000 in
theorem q696 : Cond.instanceMethod yX1_takeBundle ∈ lw_all := lw_in 696 rfl rfl
set_option maxRecDepth 20000 in
theorem q697 : Cond.selects RX1 yX1_takeBundle yX1_takeBundle ∈ lw_all := lw_in 697 rfl rfl
set_option maxRecDepth 20000 in
theorem q698 : Cond.code yX1_takeBundle cX1_takeBundle 3 none ∈ lw_all := lw_in 698 rfl rfl
set_option maxRecDepth 20000 in
theorem q699 : Cond.methodLink RL 137 yL_append ∈ lw_all := lw_in 699 rfl rfl
set_option maxRecDepth 20000 in
theorem q700 : Cond.static yL_append ∈ lw_all := lw_in 700 rfl rfl
set_option maxRecDepth 20000 in
theorem q702 : Cond.classLink RL 110 "java/lang/IllegalStateException" ∈ lw_all := lw_in 702 rfl rfl
set_option maxRecDepth 20000 in
theorem q703 : Cond.methodLink RL 106 yX8_append ∈ lw_all := lw_in 703 rfl rfl
set_option maxRecDepth 20000 in
theorem q704 : Cond.instanceMethod yX8_append ∈ lw_all := lw_in 704 rfl rfl
set_option maxRecDepth 20000 in
theorem q705 : Cond.selects RX8 yX8_append yX8_append ∈ lw_all := lw_in 705 rfl rfl
set_option maxRecDepth 20000 in
theorem q706 : Cond.code yX8_append cX8_append 2 (some .int) ∈ lw_all := lw_in 706 rfl rfl
set_option maxRecDepth 20000 in
theorem q707 : Cond.methodLink RX8 244 yX3_isFull ∈ lw_all := lw_in 707 rfl rfl
set_option maxRecDepth 20000 in
theorem q708 : Cond.instanceMethod yX3_isFull ∈ lw_all := lw_in 708 rfl rfl
set_option maxRecDepth 20000 in
theorem q709 : Cond.selects RX3 yX3_isFull yX3_isFull ∈ lw_all := lw_in 709 rfl rfl
set_option maxRecDepth 20000 in
theorem q710 : Cond.code yX3_isFull cX3_isFull 1 (some .boolean) ∈ lw_all := lw_in 710 rfl rfl
set_option maxRecDepth 20000 in
theorem q711 : Cond.classLink RX8 248 "java/lang/IllegalStateException" ∈ lw_all := lw_in 711 rfl rfl
set_option maxRecDepth 20000 in
theorem q712 : Cond.instantiable "java/lang/IllegalStateException" 6 ∈ lw_all := lw_in 712 rfl rfl
set_option maxRecDepth 20000 in
theorem q714 : Cond.selects "java/lang/IllegalStateException" ⟨"java/lang/Throwable", "fillInStackTrace", "(I)Ljava/lang/Throwable;"⟩ ⟨"java/lang/Throwable", "fillInStackTrace", "(I)Ljava/lang/Throwable;"⟩ ∈ lw_all := lw_in 714 rfl rfl
set_option maxRecDepth 20000 in
theorem q721 : Cond.methodLink RX8 252 ⟨"java/lang/IllegalStateException", "<init>", "(Ljava/lang/String;)V"⟩ ∈ lw_all := lw_in 721 rfl rfl
set_option maxRecDepth 20000 in
theorem q722 : Cond.instanceMethod ⟨"java/lang/IllegalStateException", "<init>", "(Ljava/lang/String;)V"⟩ ∈ lw_all := lw_in 722 rfl rfl
set_option maxRecDepth 20000 in
theorem q724 : Cond.methodLink "java/lang/IllegalStateException" 7 ⟨"java/lang/RuntimeException", "<init>", "(Ljava/lang/String;)V"⟩ ∈ lw_all := lw_in 724 rfl rfl
set_option maxRecDepth 20000 in
theorem q727 : Cond.methodLink RX8 253 yX3_add ∈ lw_all := lw_in 727 rfl rfl
set_option maxRecDepth 20000 in
theorem q728 : Cond.instanceMethod yX3_add ∈ lw_all := lw_in 728 rfl rfl
set_option maxRecDepth 20000 in
theorem q729 : Cond.selects RX3 yX3_add yX3_add ∈ lw_all := lw_in 729 rfl rfl
set_option maxRecDepth 20000 in
theorem q730 : Cond.code yX3_add cX3_add 2 (some .int) ∈ lw_all := lw_in 730 rfl rfl
set_option maxRecDepth 20000 in
theorem q731 : Cond.methodLink RL 142 yL_read ∈ lw_all := lw_in 731 rfl rfl
set_option maxRecDepth 20000 in
theorem q732 : Cond.static yL_read ∈ lw_all := lw_in 732 rfl rfl
set_option maxRecDepth 20000 in
theorem q734 : Cond.methodLink RL 112 yX8_read ∈ lw_all := lw_in 734 rfl rfl
set_option maxRecDepth 20000 in
theorem q735 : Cond.instanceMethod yX8_read ∈ lw_all := lw_in 735 rfl rfl
set_option maxRecDepth 20000 in
theorem q736 : Cond.selects RX8 yX8_read yX8_read ∈ lw_all := lw_in 736 rfl rfl
set_option maxRecDepth 20000 in
theorem q737 : Cond.code yX8_read cX8_read 1 (some .int) ∈ lw_all := lw_in 737 rfl rfl
set_option maxRecDepth 20000 in
theorem q738 : Cond.methodLink RX8 257 yX6_parse ∈ lw_all := lw_in 738 rfl rfl
set_option maxRecDepth 20000 in
theorem q739 : Cond.instanceMethod yX6_parse ∈ lw_all := lw_in 739 rfl rfl
set_option maxRecDepth 20000 in
theorem q740 : Cond.selects RX6 yX6_parse yX6_parse ∈ lw_all := lw_in 740 rfl rfl
set_option maxRecDepth 20000 in
theorem q741 : Cond.code yX6_parse cX6_parse 4 (some .int) ∈ lw_all := lw_in 741 rfl rfl
set_option maxRecDepth 20000 in
theorem q742 : Cond.methodLink RX6 25 yX6_parseOrder ∈ lw_all := lw_in 742 rfl rfl
set_option maxRecDepth 20000 in
theorem q744 : Cond.instanceMethod yX6_parseOrder ∈ lw_all := lw_in 744 rfl rfl
set_option maxRecDepth 20000 in
theorem q745 : Cond.code yX6_parseOrder cX6_parseOrder 5 (some .boolean) ∈ lw_all := lw_in 745 rfl rfl
set_option maxRecDepth 20000 in
theorem q746 : Cond.methodLink RX6 29 yX3_signAt ∈ lw_all := lw_in 746 rfl rfl
set_option maxRecDepth 20000 in
theorem q747 : Cond.instanceMethod yX3_signAt ∈ lw_all := lw_in 747 rfl rfl
set_option maxRecDepth 20000 in
theorem q748 : Cond.selects RX3 yX3_signAt yX3_signAt ∈ lw_all := lw_in 748 rfl rfl
set_option maxRecDepth 20000 in
theorem q749 : Cond.code yX3_signAt cX3_signAt 2 (some .int) ∈ lw_all := lw_in 749 rfl rfl
set_option maxRecDepth 20000 in
theorem q750 : Cond.methodLink RX6 39 yX6_shapeOf ∈ lw_all := lw_in 750 rfl rfl
set_option maxRecDepth 20000 in
theorem q751 : Cond.static yX6_shapeOf ∈ lw_all := lw_in 751 rfl rfl
set_option maxRecDepth 20000 in
theorem q752 : Cond.code yX6_shapeOf cX6_shapeOf 1 (some (.object "java/lang/String")) ∈ lw_all := lw_in 752 rfl rfl
set_option maxRecDepth 20000 in
theorem q759 : Cond.methodLink RX6 43 yJ0_isEmpty_aae02 ∈ lw_all := lw_in 759 rfl rfl
set_option maxRecDepth 20000 in
theorem q760 : Cond.instanceMethod yJ0_isEmpty_aae02 ∈ lw_all := lw_in 760 rfl rfl
set_option maxRecDepth 20000 in
theorem q761 : Cond.selects RJ0 yJ0_isEmpty_aae02 yJ0_isEmpty_aae02 ∈ lw_all := lw_in 761 rfl rfl
set_option maxRecDepth 20000 in
theorem q762 : Cond.code yJ0_isEmpty_aae02 cJ0_isEmpty_aae02 1 (some .boolean) ∈ lw_all := lw_in 762 rfl rfl
set_option maxRecDepth 20000 in
theorem q763 : Cond.methodLink RX6 49 yX6_store ∈ lw_all := lw_in 763 rfl rfl
set_option maxRecDepth 20000 in
theorem q765 : Cond.instanceMethod yX6_store ∈ lw_all := lw_in 765 rfl rfl
set_option maxRecDepth 20000 in
theorem q766 : Cond.code yX6_store cX6_store 3 none ∈ lw_all := lw_in 766 rfl rfl
set_option maxRecDepth 20000 in
theorem q767 : Cond.methodLink RX6 53 yJ0_length_8abf5 ∈ lw_all := lw_in 767 rfl rfl
set_option maxRecDepth 20000 in
theorem q768 : Cond.instanceMethod yJ0_length_8abf5 ∈ lw_all := lw_in 768 rfl rfl
set_option maxRecDepth 20000 in
theorem q769 : Cond.selects RJ0 yJ0_length_8abf5 yJ0_length_8abf5 ∈ lw_all := lw_in 769 rfl rfl
set_option maxRecDepth 20000 in
theorem q770 : Cond.code yJ0_length_8abf5 cJ0_length_8abf5 1 (some .int) ∈ lw_all := lw_in 770 rfl rfl
set_option maxRecDepth 20000 in
theorem q771 : Cond.methodLink RJ0 335 yJ0_coder_7d493 ∈ lw_all := lw_in 771 rfl rfl
set_option maxRecDepth 20000 in
theorem q772 : Cond.instanceMethod yJ0_coder_7d493 ∈ lw_all := lw_in 772 rfl rfl
set_option maxRecDepth 20000 in
theorem q773 : Cond.selects RJ0 yJ0_coder_7d493 yJ0_coder_7d493 ∈ lw_all := lw_in 773 rfl rfl
set_option maxRecDepth 20000 in
theorem q774 : Cond.code yJ0_coder_7d493 cJ0_coder_7d493 1 (some .byte) ∈ lw_all := lw_in 774 rfl rfl
set_option maxRecDepth 20000 in
theorem q775 : Cond.fieldLink RJ0 38 "java/lang/String" "COMPACT_STRINGS" "Z" ∈ lw_all := lw_in 775 rfl rfl
set_option maxRecDepth 20000 in
theorem q777 : Cond.methodLink RX6 57 yJ0_charAt_5068e ∈ lw_all := lw_in 777 rfl rfl
set_option maxRecDepth 20000 in
theorem q778 : Cond.instanceMethod yJ0_charAt_5068e ∈ lw_all := lw_in 778 rfl rfl
set_option maxRecDepth 20000 in
theorem q779 : Cond.selects RJ0 yJ0_charAt_5068e yJ0_charAt_5068e ∈ lw_all := lw_in 779 rfl rfl
set_option maxRecDepth 20000 in
theorem q780 : Cond.code yJ0_charAt_5068e cJ0_charAt_5068e 2 (some .char) ∈ lw_all := lw_in 780 rfl rfl
set_option maxRecDepth 20000 in
theorem q781 : Cond.methodLink RJ0 492 yJ0_isLatin1_aae02 ∈ lw_all := lw_in 781 rfl rfl
set_option maxRecDepth 20000 in
theorem q782 : Cond.instanceMethod yJ0_isLatin1_aae02 ∈ lw_all := lw_in 782 rfl rfl
set_option maxRecDepth 20000 in
theorem q783 : Cond.selects RJ0 yJ0_isLatin1_aae02 yJ0_isLatin1_aae02 ∈ lw_all := lw_in 783 rfl rfl
set_option maxRecDepth 20000 in
theorem q784 : Cond.code yJ0_isLatin1_aae02 cJ0_isLatin1_aae02 1 (some .boolean) ∈ lw_all := lw_in 784 rfl rfl
set_option maxRecDepth 20000 in
theorem q785 : Cond.methodLink RJ0 495 yJ1_charAt_3b067 ∈ lw_all := lw_in 785 rfl rfl
set_option maxRecDepth 20000 in
theorem q786 : Cond.static yJ1_charAt_3b067 ∈ lw_all := lw_in 786 rfl rfl
set_option maxRecDepth 20000 in
theorem q787 : Cond.code yJ1_charAt_3b067 cJ1_charAt_3b067 2 (some .char) ∈ lw_all := lw_in 787 rfl rfl
set_option maxRecDepth 20000 in
theorem q788 : Cond.methodLink RJ1 9 yJ0_checkIndex_df160 ∈ lw_all := lw_in 788 rfl rfl
set_option maxRecDepth 20000 in
theorem q789 : Cond.static yJ0_checkIndex_df160 ∈ lw_all := lw_in 789 rfl rfl
set_option maxRecDepth 20000 in
theorem q790 : Cond.code yJ0_checkIndex_df160 cJ0_checkIndex_df160 2 none ∈ lw_all := lw_in 790 rfl rfl
set_option maxRecDepth 20000 in
theorem q791 : Cond.fieldLink RJ0 1053 "jdk/internal/util/Preconditions" "SIOOBE_FORMATTER" "Ljava/util/function/BiFunction;" ∈ lw_all := lw_in 791 rfl rfl
set_option maxRecDepth 20000 in
theorem q793 : Cond.methodLink RJ0 1059 yJ3_checkIndex_8e157 ∈ lw_all := lw_in 793 rfl rfl
set_option maxRecDepth 20000 in
theorem q794 : Cond.static yJ3_checkIndex_8e157 ∈ lw_all := lw_in 794 rfl rfl
set_option maxRecDepth 20000 in
theorem q795 : Cond.code yJ3_checkIndex_8e157 cJ3_checkIndex_8e157 3 (some .int) ∈ lw_all := lw_in 795 rfl rfl
set_option maxRecDepth 20000 in
theorem q796 : Cond.methodLink RJ0 498 yJ2_charAt_3b067 ∈ lw_all := lw_in 796 rfl rfl
set_option maxRecDepth 20000 in
theorem q797 : Cond.static yJ2_charAt_3b067 ∈ lw_all := lw_in 797 rfl rfl
set_option maxRecDepth 20000 in
theorem q798 : Cond.code yJ2_charAt_3b067 cJ2_charAt_3b067 2 (some .char) ∈ lw_all := lw_in 798 rfl rfl
set_option maxRecDepth 20000 in
theorem q799 : Cond.methodLink RJ2 67 yJ2_checkIndex_2214a ∈ lw_all := lw_in 799 rfl rfl
set_option maxRecDepth 20000 in
theorem q800 : Cond.static yJ2_checkIndex_2214a ∈ lw_all := lw_in 800 rfl rfl
set_option maxRecDepth 20000 in
theorem q801 : Cond.code yJ2_checkIndex_2214a cJ2_checkIndex_2214a 2 none ∈ lw_all := lw_in 801 rfl rfl
set_option maxRecDepth 20000 in
theorem q802 : Cond.methodLink RJ2 48 yJ2_length_9d52b ∈ lw_all := lw_in 802 rfl rfl
set_option maxRecDepth 20000 in
theorem q803 : Cond.static yJ2_length_9d52b ∈ lw_all := lw_in 803 rfl rfl
set_option maxRecDepth 20000 in
theorem q804 : Cond.code yJ2_length_9d52b cJ2_length_9d52b 1 (some .int) ∈ lw_all := lw_in 804 rfl rfl
set_option maxRecDepth 20000 in
theorem q805 : Cond.methodLink RJ2 414 yJ0_checkIndex_df160 ∈ lw_all := lw_in 805 rfl rfl
set_option maxRecDepth 20000 in
theorem q806 : Cond.methodLink RJ2 71 yJ2_getChar_3b067 ∈ lw_all := lw_in 806 rfl rfl
set_option maxRecDepth 20000 in
theorem q807 : Cond.static yJ2_getChar_3b067 ∈ lw_all := lw_in 807 rfl rfl
set_option maxRecDepth 20000 in
theorem q808 : Cond.code yJ2_getChar_3b067 cJ2_getChar_3b067 2 (some .char) ∈ lw_all := lw_in 808 rfl rfl
set_option maxRecDepth 20000 in
theorem q809 : Cond.fieldLink RJ2 44 "java/lang/StringUTF16" "$assertionsDisabled" "Z" ∈ lw_all := lw_in 809 rfl rfl
set_option maxRecDepth 20000 in
theorem q811 : Cond.fieldLink RJ2 59 "java/lang/StringUTF16" "HI_BYTE_SHIFT" "I" ∈ lw_all := lw_in 811 rfl rfl
set_option maxRecDepth 20000 in
theorem q813 : Cond.fieldLink RJ2 63 "java/lang/StringUTF16" "LO_BYTE_SHIFT" "I" ∈ lw_all := lw_in 813 rfl rfl
set_option maxRecDepth 20000 in
theorem q815 : Cond.methodLink RX6 61 yX6_parseSign ∈ lw_all := lw_in 815 rfl rfl
set_option maxRecDepth 20000 in
theorem q817 : Cond.instanceMethod yX6_parseSign ∈ lw_all := lw_in 817 rfl rfl
set_option maxRecDepth 20000 in
theorem q818 : Cond.code yX6_parseSign cX6_parseSign 6 (some .boolean) ∈ lw_all := lw_in 818 rfl rfl
set_option maxRecDepth 20000 in
theorem q819 : Cond.methodLink RX6 77 yX6_isDigit ∈ lw_all := lw_in 819 rfl rfl
set_option maxRecDepth 20000 in
theorem q820 : Cond.static yX6_isDigit ∈ lw_all := lw_in 820 rfl rfl
set_option maxRecDepth 20000 in
theorem q821 : Cond.code yX6_isDigit cX6_isDigit 1 (some .boolean) ∈ lw_all := lw_in 821 rfl rfl
set_option maxRecDepth 20000 in
theorem q822 : Cond.methodLink RX8 261 yX3_clear ∈ lw_all := lw_in 822 rfl rfl
set_option maxRecDepth 20000 in
theorem q823 : Cond.instanceMethod yX3_clear ∈ lw_all := lw_in 823 rfl rfl
set_option maxRecDepth 20000 in
theorem q824 : Cond.selects RX3 yX3_clear yX3_clear ∈ lw_all := lw_in 824 rfl rfl
set_option maxRecDepth 20000 in
theorem q825 : Cond.code yX3_clear cX3_clear 1 none ∈ lw_all := lw_in 825 rfl rfl
set_option maxRecDepth 20000 in
theorem q827 : Cond.methodLink RX8 266 yX6_carryOut ∈ lw_all := lw_in 827 rfl rfl
set_option maxRecDepth 20000 in
theorem q828 : Cond.instanceMethod yX6_carryOut ∈ lw_all := lw_in 828 rfl rfl
set_option maxRecDepth 20000 in
theorem q829 : Cond.selects RX6 yX6_carryOut yX6_carryOut ∈ lw_all := lw_in 829 rfl rfl
set_option maxRecDepth 20000 in
theorem q830 : Cond.code yX6_carryOut cX6_carryOut 4 (some .int) ∈ lw_all := lw_in 830 rfl rfl
set_option maxRecDepth 20000 in
theorem q831 : Cond.methodLink RX6 35 yX6_carryOutOrder ∈ lw_all := lw_in 831 rfl rfl
set_option maxRecDepth 20000 in
theorem q833 : Cond.instanceMethod yX6_carryOutOrder ∈ lw_all := lw_in 833 rfl rfl
set_option maxRecDepth 20000 in
theorem q834 : Cond.code yX6_carryOutOrder cX6_carryOutOrder 6 (some .int) ∈ lw_all := lw_in 834 rfl rfl
set_option maxRecDepth 20000 in
theorem q835 : Cond.methodLink RX6 81 yX6_numberAt ∈ lw_all := lw_in 835 rfl rfl
set_option maxRecDepth 20000 in
theorem q837 : Cond.instanceMethod yX6_numberAt ∈ lw_all := lw_in 837 rfl rfl
set_option maxRecDepth 20000 in
theorem q838 : Cond.code yX6_numberAt cX6_numberAt 4 (some .int) ∈ lw_all := lw_in 838 rfl rfl
set_option maxRecDepth 20000 in
theorem q839 : Cond.methodLink RX6 85 yX0_tryEdit ∈ lw_all := lw_in 839 rfl rfl
set_option maxRecDepth 20000 in
theorem q840 : Cond.methodLink RX6 91 yX0_tryFork ∈ lw_all := lw_in 840 rfl rfl
set_option maxRecDepth 20000 in
theorem q841 : Cond.methodLink RX6 94 yX0_tryMerge ∈ lw_all := lw_in 841 rfl rfl
set_option maxRecDepth 20000 in
theorem q842 : Cond.methodLink RX6 97 yX0_tryPick ∈ lw_all := lw_in 842 rfl rfl
set_option maxRecDepth 20000 in
theorem q843 : Cond.instanceMethod yX0_tryPick ∈ lw_all := lw_in 843 rfl rfl
set_option maxRecDepth 20000 in
theorem q844 : Cond.selects RX0 yX0_tryPick yX0_tryPick ∈ lw_all := lw_in 844 rfl rfl
set_option maxRecDepth 20000 in
theorem q845 : Cond.code yX0_tryPick cX0_tryPick 4 (some .int) ∈ lw_all := lw_in 845 rfl rfl
set_option maxRecDepth 20000 in
theorem q846 : Cond.methodLink RX6 100 yX0_tryRevert ∈ lw_all := lw_in 846 rfl rfl
set_option maxRecDepth 20000 in
theorem q847 : Cond.methodLink RX6 103 yX0_tryReset ∈ lw_all := lw_in 847 rfl rfl
set_option maxRecDepth 20000 in
theorem q848 : Cond.methodLink RL 167 yL_account ∈ lw_all := lw_in 848 rfl rfl
set_option maxRecDepth 20000 in
theorem q849 : Cond.static yL_account ∈ lw_all := lw_in 849 rfl rfl
set_option maxRecDepth 20000 in
theorem q851 : Cond.methodLink RL 120 yX8_account ∈ lw_all := lw_in 851 rfl rfl
set_option maxRecDepth 20000 in
theorem q852 : Cond.instanceMethod yX8_account ∈ lw_all := lw_in 852 rfl rfl
set_option maxRecDepth 20000 in
theorem q853 : Cond.selects RX8 yX8_account yX8_account ∈ lw_all := lw_in 853 rfl rfl
set_option maxRecDepth 20000 in
theorem q854 : Cond.code yX8_account cX8_account 2 (some .int) ∈ lw_all := lw_in 854 rfl rfl
set_option maxRecDepth 20000 in
theorem q855 : Cond.methodLink RX8 281 yX1_branchCount ∈ lw_all := lw_in 855 rfl rfl
set_option maxRecDepth 20000 in
theorem q856 : Cond.methodLink RX8 284 yX1_countKind ∈ lw_all := lw_in 856 rfl rfl
set_option maxRecDepth 20000 in
theorem q857 : Cond.instanceMethod yX1_countKind ∈ lw_all := lw_in 857 rfl rfl
set_option maxRecDepth 20000 in
theorem q858 : Cond.selects RX1 yX1_countKind yX1_countKind ∈ lw_all := lw_in 858 rfl rfl
set_option maxRecDepth 20000 in
theorem q859 : Cond.code yX1_countKind cX1_countKind 4 (some .int) ∈ lw_all := lw_in 859 rfl rfl
set_option maxRecDepth 20000 in
theorem q860 : Cond.methodLink RX1 88 yX1_kindOf ∈ lw_all := lw_in 860 rfl rfl
set_option maxRecDepth 20000 in
theorem q861 : Cond.methodLink RX8 287 yX1_countLost ∈ lw_all := lw_in 861 rfl rfl
set_option maxRecDepth 20000 in
theorem q862 : Cond.instanceMethod yX1_countLost ∈ lw_all := lw_in 862 rfl rfl
set_option maxRecDepth 20000 in
theorem q863 : Cond.selects RX1 yX1_countLost yX1_countLost ∈ lw_all := lw_in 863 rfl rfl
set_option maxRecDepth 20000 in
theorem q864 : Cond.code yX1_countLost cX1_countLost 3 (some .int) ∈ lw_all := lw_in 864 rfl rfl
set_option maxRecDepth 20000 in
theorem q865 : Cond.methodLink RX1 101 yX1_tipOf ∈ lw_all := lw_in 865 rfl rfl
set_option maxRecDepth 20000 in
theorem q866 : Cond.methodLink RX1 104 yJ6_bitCount_0f7a4 ∈ lw_all := lw_in 866 rfl rfl
set_option maxRecDepth 20000 in
theorem q867 : Cond.methodLink RX8 290 yX1_bundleKind ∈ lw_all := lw_in 867 rfl rfl
set_option maxRecDepth 20000 in
theorem q868 : Cond.instanceMethod yX1_bundleKind ∈ lw_all := lw_in 868 rfl rfl
set_option maxRecDepth 20000 in
theorem q869 : Cond.selects RX1 yX1_bundleKind yX1_bundleKind ∈ lw_all := lw_in 869 rfl rfl
set_option maxRecDepth 20000 in
theorem q870 : Cond.code yX1_bundleKind cX1_bundleKind 1 (some .int) ∈ lw_all := lw_in 870 rfl rfl
set_option maxRecDepth 20000 in
theorem q871 : Cond.methodLink RX8 293 yX1_bundledCount ∈ lw_all := lw_in 871 rfl rfl
set_option maxRecDepth 20000 in
theorem q872 : Cond.methodLink RX8 296 yX1_sumOfTips ∈ lw_all := lw_in 872 rfl rfl
set_option maxRecDepth 20000 in
theorem q873 : Cond.instanceMethod yX1_sumOfTips ∈ lw_all := lw_in 873 rfl rfl
set_option maxRecDepth 20000 in
theorem q874 : Cond.selects RX1 yX1_sumOfTips yX1_sumOfTips ∈ lw_all := lw_in 874 rfl rfl
set_option maxRecDepth 20000 in
theorem q875 : Cond.code yX1_sumOfTips cX1_sumOfTips 4 (some .int) ∈ lw_all := lw_in 875 rfl rfl
set_option maxRecDepth 20000 in
theorem q876 : Cond.methodLink RX8 299 yX3_size ∈ lw_all := lw_in 876 rfl rfl
set_option maxRecDepth 20000 in
theorem q877 : Cond.instanceMethod yX3_size ∈ lw_all := lw_in 877 rfl rfl
set_option maxRecDepth 20000 in
theorem q878 : Cond.selects RX3 yX3_size yX3_size ∈ lw_all := lw_in 878 rfl rfl
set_option maxRecDepth 20000 in
theorem q879 : Cond.code yX3_size cX3_size 1 (some .int) ∈ lw_all := lw_in 879 rfl rfl
set_option maxRecDepth 20000 in
theorem q880 : Cond.methodLink RX8 302 yX2_size ∈ lw_all := lw_in 880 rfl rfl
set_option maxRecDepth 20000 in
theorem q881 : Cond.instanceMethod yX2_size ∈ lw_all := lw_in 881 rfl rfl
set_option maxRecDepth 20000 in
theorem q882 : Cond.selects RX2 yX2_size yX2_size ∈ lw_all := lw_in 882 rfl rfl
set_option maxRecDepth 20000 in
theorem q883 : Cond.code yX2_size cX2_size 1 (some .int) ∈ lw_all := lw_in 883 rfl rfl
set_option maxRecDepth 20000 in
theorem q885 : Cond.methodLink RL 294 yL_undo ∈ lw_all := lw_in 885 rfl rfl
set_option maxRecDepth 20000 in
theorem q886 : Cond.static yL_undo ∈ lw_all := lw_in 886 rfl rfl
set_option maxRecDepth 20000 in
theorem q888 : Cond.methodLink RL 123 yX8_undo ∈ lw_all := lw_in 888 rfl rfl
set_option maxRecDepth 20000 in
theorem q889 : Cond.instanceMethod yX8_undo ∈ lw_all := lw_in 889 rfl rfl
set_option maxRecDepth 20000 in
theorem q890 : Cond.selects RX8 yX8_undo yX8_undo ∈ lw_all := lw_in 890 rfl rfl
set_option maxRecDepth 20000 in
theorem q891 : Cond.code yX8_undo cX8_undo 1 (some .int) ∈ lw_all := lw_in 891 rfl rfl
set_option maxRecDepth 20000 in
theorem q893 : Cond.methodLink RX8 313 yX2_takeBack ∈ lw_all := lw_in 893 rfl rfl
set_option maxRecDepth 20000 in
theorem q894 : Cond.instanceMethod yX2_takeBack ∈ lw_all := lw_in 894 rfl rfl
set_option maxRecDepth 20000 in
theorem q895 : Cond.selects RX2 yX2_takeBack yX2_takeBack ∈ lw_all := lw_in 895 rfl rfl
set_option maxRecDepth 20000 in
theorem q896 : Cond.code yX2_takeBack cX2_takeBack 4 (some .int) ∈ lw_all := lw_in 896 rfl rfl
set_option maxRecDepth 20000 in
theorem q897 : Cond.methodLink RL 296 yL_restore ∈ lw_all := lw_in 897 rfl rfl
set_option maxRecDepth 20000 in
theorem q898 : Cond.static yL_restore ∈ lw_all := lw_in 898 rfl rfl
set_option maxRecDepth 20000 in
theorem q900 : Cond.methodLink RL 126 yX8_restore ∈ lw_all := lw_in 900 rfl rfl
set_option maxRecDepth 20000 in
theorem q901 : Cond.instanceMethod yX8_restore ∈ lw_all := lw_in 901 rfl rfl
set_option maxRecDepth 20000 in
theorem q902 : Cond.selects RX8 yX8_restore yX8_restore ∈ lw_all := lw_in 902 rfl rfl
set_option maxRecDepth 20000 in
theorem q903 : Cond.code yX8_restore cX8_restore 1 (some .int) ∈ lw_all := lw_in 903 rfl rfl
set_option maxRecDepth 20000 in
theorem q905 : Cond.methodLink RX8 318 yX2_forgetAll ∈ lw_all := lw_in 905 rfl rfl
set_option maxRecDepth 20000 in
theorem q906 : Cond.instanceMethod yX2_forgetAll ∈ lw_all := lw_in 906 rfl rfl
set_option maxRecDepth 20000 in
theorem q907 : Cond.selects RX2 yX2_forgetAll yX2_forgetAll ∈ lw_all := lw_in 907 rfl rfl
set_option maxRecDepth 20000 in
theorem q908 : Cond.code yX2_forgetAll cX2_forgetAll 1 none ∈ lw_all := lw_in 908 rfl rfl
set_option maxRecDepth 20000 in
theorem q909 : Cond.methodLink RL 278 yL_is ∈ lw_all := lw_in 909 rfl rfl
set_option maxRecDepth 20000 in
theorem q910 : Cond.static yL_is ∈ lw_all := lw_in 910 rfl rfl
set_option maxRecDepth 20000 in
theorem q911 : Cond.code yL_is cL_is 3 (some .boolean) ∈ lw_all := lw_in 911 rfl rfl
set_option maxRecDepth 20000 in
theorem q912 : Cond.methodLink RL 145 yL_refusal ∈ lw_all := lw_in 912 rfl rfl
set_option maxRecDepth 20000 in
theorem q913 : Cond.static yL_refusal ∈ lw_all := lw_in 913 rfl rfl
set_option maxRecDepth 20000 in
theorem q915 : Cond.methodLink RL 116 yX8_refusal ∈ lw_all := lw_in 915 rfl rfl
set_option maxRecDepth 20000 in
theorem q916 : Cond.instanceMethod yX8_refusal ∈ lw_all := lw_in 916 rfl rfl
set_option maxRecDepth 20000 in
theorem q917 : Cond.selects RX8 yX8_refusal yX8_refusal ∈ lw_all := lw_in 917 rfl rfl
set_option maxRecDepth 20000 in
theorem q918 : Cond.code yX8_refusal cX8_refusal 2 (some .int) ∈ lw_all := lw_in 918 rfl rfl
set_option maxRecDepth 20000 in
theorem q919 : Cond.methodLink RX8 270 yX0_latestReason ∈ lw_all := lw_in 919 rfl rfl
set_option maxRecDepth 20000 in
theorem q920 : Cond.instanceMethod yX0_latestReason ∈ lw_all := lw_in 920 rfl rfl
set_option maxRecDepth 20000 in
theorem q921 : Cond.selects RX0 yX0_latestReason yX0_latestReason ∈ lw_all := lw_in 921 rfl rfl
set_option maxRecDepth 20000 in
theorem q922 : Cond.code yX0_latestReason cX0_latestReason 1 (some .int) ∈ lw_all := lw_in 922 rfl rfl
set_option maxRecDepth 20000 in
theorem q924 : Cond.methodLink RX8 275 yX0_latestDetail ∈ lw_all := lw_in 924 rfl rfl
set_option maxRecDepth 20000 in
theorem q925 : Cond.instanceMethod yX0_latestDetail ∈ lw_all := lw_in 925 rfl rfl
set_option maxRecDepth 20000 in
theorem q926 : Cond.selects RX0 yX0_latestDetail yX0_latestDetail ∈ lw_all := lw_in 926 rfl rfl
set_option maxRecDepth 20000 in
theorem q927 : Cond.code yX0_latestDetail cX0_latestDetail 1 (some .int) ∈ lw_all := lw_in 927 rfl rfl
set_option maxRecDepth 20000 in
theorem q928 : Cond.methodLink RL 301 yL_makes ∈ lw_all := lw_in 928 rfl rfl
set_option maxRecDepth 20000 in
theorem q929 : Cond.static yL_makes ∈ lw_all := lw_in 929 rfl rfl
set_option maxRecDepth 20000 in
theorem q930 : Cond.code yL_makes cL_makes 5 (some .boolean) ∈ lw_all := lw_in 930 rfl rfl
set_option maxRecDepth 20000 in
theorem q931 : Cond.methodLink RL 157 yL_some ∈ lw_all := lw_in 931 rfl rfl
set_option maxRecDepth 20000 in
theorem q932 : Cond.static yL_some ∈ lw_all := lw_in 932 rfl rfl
set_option maxRecDepth 20000 in
theorem q933 : Cond.code yL_some cL_some 3 (some .int) ∈ lw_all := lw_in 933 rfl rfl
set_option maxRecDepth 20000 in
theorem q934 : Cond.methodLink RL 169 yL_pick ∈ lw_all := lw_in 934 rfl rfl
set_option maxRecDepth 20000 in
theorem q935 : Cond.static yL_pick ∈ lw_all := lw_in 935 rfl rfl
set_option maxRecDepth 20000 in
theorem q937 : Cond.methodLink RL 39 yX8_pick ∈ lw_all := lw_in 937 rfl rfl
set_option maxRecDepth 20000 in
theorem q938 : Cond.instanceMethod yX8_pick ∈ lw_all := lw_in 938 rfl rfl
set_option maxRecDepth 20000 in
theorem q939 : Cond.selects RX8 yX8_pick yX8_pick ∈ lw_all := lw_in 939 rfl rfl
set_option maxRecDepth 20000 in
theorem q940 : Cond.code yX8_pick cX8_pick 4 (some .int) ∈ lw_all := lw_in 940 rfl rfl
set_option maxRecDepth 20000 in
theorem q941 : Cond.methodLink RX8 141 yX0_tryPick ∈ lw_all := lw_in 941 rfl rfl
set_option maxRecDepth 20000 in
theorem q942 : Cond.methodLink RL 274 yL_asks ∈ lw_all := lw_in 942 rfl rfl
set_option maxRecDepth 20000 in
theorem q943 : Cond.static yL_asks ∈ lw_all := lw_in 943 rfl rfl
set_option maxRecDepth 20000 in
theorem q944 : Cond.code yL_asks cL_asks 8 (some .long) ∈ lw_all := lw_in 944 rfl rfl
set_option maxRecDepth 20000 in
theorem q945 : Cond.constantLong RL 171 31 ∈ lw_all := lw_in 945 rfl rfl
set_option maxRecDepth 20000 in
theorem q946 : Cond.methodLink RL 173 yX8_meanTaste ∈ lw_all := lw_in 946 rfl rfl
set_option maxRecDepth 20000 in
theorem q947 : Cond.instanceMethod yX8_meanTaste ∈ lw_all := lw_in 947 rfl rfl
set_option maxRecDepth 20000 in
theorem q948 : Cond.selects RX8 yX8_meanTaste yX8_meanTaste ∈ lw_all := lw_in 948 rfl rfl
set_option maxRecDepth 20000 in
theorem q949 : Cond.code yX8_meanTaste cX8_meanTaste 5 (some .double) ∈ lw_all := lw_in 949 rfl rfl
set_option maxRecDepth 20000 in
theorem q950 : Cond.methodLink RX8 199 yX1_tasteOf ∈ lw_all := lw_in 950 rfl rfl
set_option maxRecDepth 20000 in
theorem q951 : Cond.instanceMethod yX1_tasteOf ∈ lw_all := lw_in 951 rfl rfl
set_option maxRecDepth 20000 in
theorem q952 : Cond.selects RX1 yX1_tasteOf yX1_tasteOf ∈ lw_all := lw_in 952 rfl rfl
set_option maxRecDepth 20000 in
theorem q953 : Cond.code yX1_tasteOf cX1_tasteOf 6 (some .float) ∈ lw_all := lw_in 953 rfl rfl
set_option maxRecDepth 20000 in
theorem q954 : Cond.constantFloat RX1 100 1090519040 ∈ lw_all := lw_in 954 rfl rfl
set_option maxRecDepth 20000 in
theorem q955 : Cond.methodLink RL 177 yJxe99ae_doubleToLongBits_ccdee ∈ lw_all := lw_in 955 rfl rfl
set_option maxRecDepth 20000 in
theorem q956 : Cond.static yJxe99ae_doubleToLongBits_ccdee ∈ lw_all := lw_in 956 rfl rfl
set_option maxRecDepth 20000 in
theorem q957 : Cond.code yJxe99ae_doubleToLongBits_ccdee cJxe99ae_doubleToLongBits_ccdee 2 (some .long) ∈ lw_all := lw_in 957 rfl rfl
set_option maxRecDepth 20000 in
theorem q958 : Cond.methodLink RJxe99ae 122 yJxe99ae_isNaN_b9ae7 ∈ lw_all := lw_in 958 rfl rfl
set_option maxRecDepth 20000 in
theorem q959 : Cond.static yJxe99ae_isNaN_b9ae7 ∈ lw_all := lw_in 959 rfl rfl
set_option maxRecDepth 20000 in
theorem q960 : Cond.code yJxe99ae_isNaN_b9ae7 cJxe99ae_isNaN_b9ae7 2 (some .boolean) ∈ lw_all := lw_in 960 rfl rfl
set_option maxRecDepth 20000 in
theorem q961 : Cond.methodLink RJxe99ae 134 ⟨"java/lang/Double", "doubleToRawLongBits", "(D)J"⟩ ∈ lw_all := lw_in 961 rfl rfl
set_option maxRecDepth 20000 in
theorem q962 : Cond.static ⟨"java/lang/Double", "doubleToRawLongBits", "(D)J"⟩ ∈ lw_all := lw_in 962 rfl rfl
set_option maxRecDepth 20000 in
theorem q963 : Cond.native ⟨"java/lang/Double", "doubleToRawLongBits", "(D)J"⟩ ∈ lw_all := lw_in 963 rfl rfl
set_option maxRecDepth 20000 in
theorem q964 : Cond.constantLong RJxe99ae 137 9221120237041090560 ∈ lw_all := lw_in 964 rfl rfl
set_option maxRecDepth 20000 in
theorem q965 : Cond.methodLink RL 183 yX8_editShare ∈ lw_all := lw_in 965 rfl rfl
set_option maxRecDepth 20000 in
theorem q966 : Cond.instanceMethod yX8_editShare ∈ lw_all := lw_in 966 rfl rfl
set_option maxRecDepth 20000 in
theorem q967 : Cond.selects RX8 yX8_editShare yX8_editShare ∈ lw_all := lw_in 967 rfl rfl
set_option maxRecDepth 20000 in
theorem q968 : Cond.code yX8_editShare cX8_editShare 2 (some .float) ∈ lw_all := lw_in 968 rfl rfl
set_option maxRecDepth 20000 in
theorem q969 : Cond.methodLink RL 187 yJxf58ca_floatToIntBits_5c35a ∈ lw_all := lw_in 969 rfl rfl
set_option maxRecDepth 20000 in
theorem q970 : Cond.static yJxf58ca_floatToIntBits_5c35a ∈ lw_all := lw_in 970 rfl rfl
set_option maxRecDepth 20000 in
theorem q971 : Cond.code yJxf58ca_floatToIntBits_5c35a cJxf58ca_floatToIntBits_5c35a 1 (some .int) ∈ lw_all := lw_in 971 rfl rfl
set_option maxRecDepth 20000 in
theorem q972 : Cond.methodLink RJxf58ca 59 yJxf58ca_isNaN_12338 ∈ lw_all := lw_in 972 rfl rfl
set_option maxRecDepth 20000 in
theorem q973 : Cond.static yJxf58ca_isNaN_12338 ∈ lw_all := lw_in 973 rfl rfl
set_option maxRecDepth 20000 in
theorem q974 : Cond.code yJxf58ca_isNaN_12338 cJxf58ca_isNaN_12338 1 (some .boolean) ∈ lw_all := lw_in 974 rfl rfl
set_option maxRecDepth 20000 in
theorem q975 : Cond.methodLink RJxf58ca 74 ⟨"java/lang/Float", "floatToRawIntBits", "(F)I"⟩ ∈ lw_all := lw_in 975 rfl rfl
set_option maxRecDepth 20000 in
theorem q976 : Cond.static ⟨"java/lang/Float", "floatToRawIntBits", "(F)I"⟩ ∈ lw_all := lw_in 976 rfl rfl
set_option maxRecDepth 20000 in
theorem q977 : Cond.native ⟨"java/lang/Float", "floatToRawIntBits", "(F)I"⟩ ∈ lw_all := lw_in 977 rfl rfl
set_option maxRecDepth 20000 in
theorem q978 : Cond.constant RJxf58ca 77 2143289344 ∈ lw_all := lw_in 978 rfl rfl
set_option maxRecDepth 20000 in
theorem q979 : Cond.methodLink RL 193 yX8_isWell ∈ lw_all := lw_in 979 rfl rfl
set_option maxRecDepth 20000 in
theorem q980 : Cond.instanceMethod yX8_isWell ∈ lw_all := lw_in 980 rfl rfl
set_option maxRecDepth 20000 in
theorem q981 : Cond.selects RX8 yX8_isWell yX8_isWell ∈ lw_all := lw_in 981 rfl rfl
set_option maxRecDepth 20000 in
theorem q982 : Cond.code yX8_isWell cX8_isWell 2 (some .boolean) ∈ lw_all := lw_in 982 rfl rfl
set_option maxRecDepth 20000 in
theorem q983 : Cond.methodLink RX8 305 yX1_isBornWell ∈ lw_all := lw_in 983 rfl rfl
set_option maxRecDepth 20000 in
theorem q984 : Cond.instanceMethod yX1_isBornWell ∈ lw_all := lw_in 984 rfl rfl
set_option maxRecDepth 20000 in
theorem q985 : Cond.selects RX1 yX1_isBornWell yX1_isBornWell ∈ lw_all := lw_in 985 rfl rfl
set_option maxRecDepth 20000 in
theorem q986 : Cond.code yX1_isBornWell cX1_isBornWell 3 (some .boolean) ∈ lw_all := lw_in 986 rfl rfl
set_option maxRecDepth 20000 in
theorem q987 : Cond.methodLink RX1 85 yX1_secondOf ∈ lw_all := lw_in 987 rfl rfl
set_option maxRecDepth 20000 in
theorem q988 : Cond.methodLink RX1 91 yX1_changedIn ∈ lw_all := lw_in 988 rfl rfl
set_option maxRecDepth 20000 in
theorem q989 : Cond.methodLink RX8 308 yX1_areBasesSame ∈ lw_all := lw_in 989 rfl rfl
set_option maxRecDepth 20000 in
theorem q990 : Cond.instanceMethod yX1_areBasesSame ∈ lw_all := lw_in 990 rfl rfl
set_option maxRecDepth 20000 in
theorem q991 : Cond.selects RX1 yX1_areBasesSame yX1_areBasesSame ∈ lw_all := lw_in 991 rfl rfl
set_option maxRecDepth 20000 in
theorem q992 : Cond.code yX1_areBasesSame cX1_areBasesSame 4 (some .boolean) ∈ lw_all := lw_in 992 rfl rfl
set_option maxRecDepth 20000 in
theorem q993 : Cond.methodLink RX1 94 yX1_commonGround ∈ lw_all := lw_in 993 rfl rfl
set_option maxRecDepth 20000 in
theorem q994 : Cond.methodLink RX1 97 yX1_meetingPoint ∈ lw_all := lw_in 994 rfl rfl
set_option maxRecDepth 20000 in
theorem q995 : Cond.instanceMethod yX1_meetingPoint ∈ lw_all := lw_in 995 rfl rfl
set_option maxRecDepth 20000 in
theorem q996 : Cond.selects RX1 yX1_meetingPoint yX1_meetingPoint ∈ lw_all := lw_in 996 rfl rfl
set_option maxRecDepth 20000 in
theorem q997 : Cond.code yX1_meetingPoint cX1_meetingPoint 9 (some .int) ∈ lw_all := lw_in 997 rfl rfl
set_option maxRecDepth 20000 in
theorem q998 : Cond.methodLink RL 200 yL_amount ∈ lw_all := lw_in 998 rfl rfl
set_option maxRecDepth 20000 in
theorem q999 : Cond.static yL_amount ∈ lw_all := lw_in 999 rfl rfl
set_option maxRecDepth 20000 in
theorem q1001 : Cond.methodLink RL 30 yX8_amount ∈ lw_all := lw_in 1001 rfl rfl
set_option maxRecDepth 20000 in
theorem q1002 : Cond.instanceMethod yX8_amount ∈ lw_all := lw_in 1002 rfl rfl
set_option maxRecDepth 20000 in
theorem q1003 : Cond.selects RX8 yX8_amount yX8_amount ∈ lw_all := lw_in 1003 rfl rfl
set_option maxRecDepth 20000 in
theorem q1004 : Cond.code yX8_amount cX8_amount 3 (some .int) ∈ lw_all := lw_in 1004 rfl rfl
set_option maxRecDepth 20000 in
theorem q1005 : Cond.methodLink RL 202 yL_tasteBits ∈ lw_all := lw_in 1005 rfl rfl
set_option maxRecDepth 20000 in
theorem q1006 : Cond.static yL_tasteBits ∈ lw_all := lw_in 1006 rfl rfl
set_option maxRecDepth 20000 in
theorem q1008 : Cond.methodLink RL 81 yX8_tasteBits ∈ lw_all := lw_in 1008 rfl rfl
set_option maxRecDepth 20000 in
theorem q1009 : Cond.instanceMethod yX8_tasteBits ∈ lw_all := lw_in 1009 rfl rfl
set_option maxRecDepth 20000 in
theorem q1010 : Cond.selects RX8 yX8_tasteBits yX8_tasteBits ∈ lw_all := lw_in 1010 rfl rfl
set_option maxRecDepth 20000 in
theorem q1011 : Cond.code yX8_tasteBits cX8_tasteBits 2 (some .int) ∈ lw_all := lw_in 1011 rfl rfl
set_option maxRecDepth 20000 in
theorem q1012 : Cond.methodLink RX8 203 yX8_bitsOf ∈ lw_all := lw_in 1012 rfl rfl
set_option maxRecDepth 20000 in
theorem q1013 : Cond.static yX8_bitsOf ∈ lw_all := lw_in 1013 rfl rfl
set_option maxRecDepth 20000 in
theorem q1014 : Cond.code yX8_bitsOf cX8_bitsOf 4 (some .int) ∈ lw_all := lw_in 1014 rfl rfl
set_option maxRecDepth 20000 in
theorem q1015 : Cond.constantFloat RX8 353 1258291200 ∈ lw_all := lw_in 1015 rfl rfl
set_option maxRecDepth 20000 in
theorem q1016 : Cond.methodLink RL 204 yL_taste ∈ lw_all := lw_in 1016 rfl rfl
set_option maxRecDepth 20000 in
theorem q1017 : Cond.static yL_taste ∈ lw_all := lw_in 1017 rfl rfl
set_option maxRecDepth 20000 in
theorem q1019 : Cond.methodLink RL 76 yX8_taste ∈ lw_all := lw_in 1019 rfl rfl
set_option maxRecDepth 20000 in
theorem q1020 : Cond.instanceMethod yX8_taste ∈ lw_all := lw_in 1020 rfl rfl
set_option maxRecDepth 20000 in
theorem q1021 : Cond.selects RX8 yX8_taste yX8_taste ∈ lw_all := lw_in 1021 rfl rfl
set_option maxRecDepth 20000 in
theorem q1022 : Cond.code yX8_taste cX8_taste 2 (some .float) ∈ lw_all := lw_in 1022 rfl rfl
set_option maxRecDepth 20000 in
theorem q1023 : Cond.constantFloat RL 80 3296346112 ∈ lw_all := lw_in 1023 rfl rfl
set_option maxRecDepth 20000 in
theorem q1024 : Cond.methodLink RL 207 yL_in ∈ lw_all := lw_in 1024 rfl rfl
set_option maxRecDepth 20000 in
theorem q1025 : Cond.static yL_in ∈ lw_all := lw_in 1025 rfl rfl
set_option maxRecDepth 20000 in
theorem q1027 : Cond.methodLink RL 48 yX8_isIn ∈ lw_all := lw_in 1027 rfl rfl
set_option maxRecDepth 20000 in
theorem q1028 : Cond.instanceMethod yX8_isIn ∈ lw_all := lw_in 1028 rfl rfl
set_option maxRecDepth 20000 in
theorem q1029 : Cond.selects RX8 yX8_isIn yX8_isIn ∈ lw_all := lw_in 1029 rfl rfl
set_option maxRecDepth 20000 in
theorem q1030 : Cond.code yX8_isIn cX8_isIn 3 (some .boolean) ∈ lw_all := lw_in 1030 rfl rfl
set_option maxRecDepth 20000 in
theorem q1031 : Cond.methodLink RX8 150 yX1_hasInFamily ∈ lw_all := lw_in 1031 rfl rfl
set_option maxRecDepth 20000 in
theorem q1032 : Cond.methodLink RL 210 yL_base ∈ lw_all := lw_in 1032 rfl rfl
set_option maxRecDepth 20000 in
theorem q1033 : Cond.static yL_base ∈ lw_all := lw_in 1033 rfl rfl
set_option maxRecDepth 20000 in
theorem q1035 : Cond.methodLink RL 52 yX8_base ∈ lw_all := lw_in 1035 rfl rfl
set_option maxRecDepth 20000 in
theorem q1036 : Cond.instanceMethod yX8_base ∈ lw_all := lw_in 1036 rfl rfl
set_option maxRecDepth 20000 in
theorem q1037 : Cond.selects RX8 yX8_base yX8_base ∈ lw_all := lw_in 1037 rfl rfl
set_option maxRecDepth 20000 in
theorem q1038 : Cond.code yX8_base cX8_base 3 (some .int) ∈ lw_all := lw_in 1038 rfl rfl
set_option maxRecDepth 20000 in
theorem q1039 : Cond.methodLink RX8 154 yX1_commonGround ∈ lw_all := lw_in 1039 rfl rfl
set_option maxRecDepth 20000 in
theorem q1040 : Cond.methodLink RL 212 yL_baseAgain ∈ lw_all := lw_in 1040 rfl rfl
set_option maxRecDepth 20000 in
theorem q1041 : Cond.static yL_baseAgain ∈ lw_all := lw_in 1041 rfl rfl
set_option maxRecDepth 20000 in
theorem q1043 : Cond.methodLink RL 55 yX8_baseAgain ∈ lw_all := lw_in 1043 rfl rfl
set_option maxRecDepth 20000 in
theorem q1044 : Cond.instanceMethod yX8_baseAgain ∈ lw_all := lw_in 1044 rfl rfl
set_option maxRecDepth 20000 in
theorem q1045 : Cond.selects RX8 yX8_baseAgain yX8_baseAgain ∈ lw_all := lw_in 1045 rfl rfl
set_option maxRecDepth 20000 in
theorem q1046 : Cond.code yX8_baseAgain cX8_baseAgain 3 (some .int) ∈ lw_all := lw_in 1046 rfl rfl
set_option maxRecDepth 20000 in
theorem q1047 : Cond.methodLink RX8 157 yX1_meetingPoint ∈ lw_all := lw_in 1047 rfl rfl
set_option maxRecDepth 20000 in
theorem q1048 : Cond.methodLink RL 214 yL_difference ∈ lw_all := lw_in 1048 rfl rfl
set_option maxRecDepth 20000 in
theorem q1049 : Cond.static yL_difference ∈ lw_all := lw_in 1049 rfl rfl
set_option maxRecDepth 20000 in
theorem q1051 : Cond.methodLink RL 58 yX8_difference ∈ lw_all := lw_in 1051 rfl rfl
set_option maxRecDepth 20000 in
theorem q1052 : Cond.instanceMethod yX8_difference ∈ lw_all := lw_in 1052 rfl rfl
set_option maxRecDepth 20000 in
theorem q1053 : Cond.selects RX8 yX8_difference yX8_difference ∈ lw_all := lw_in 1053 rfl rfl
set_option maxRecDepth 20000 in
theorem q1054 : Cond.code yX8_difference cX8_difference 5 (some .int) ∈ lw_all := lw_in 1054 rfl rfl
set_option maxRecDepth 20000 in
theorem q1055 : Cond.methodLink RX8 160 Lib.Math.abs.name ∈ lw_all := lw_in 1055 rfl rfl
set_option maxRecDepth 20000 in
theorem q1056 : Cond.static Lib.Math.abs.name ∈ lw_all := lw_in 1056 rfl rfl
set_option maxRecDepth 20000 in
theorem q1057 : Cond.code Lib.Math.abs.name Lib.Math.abs.code 1 (some .int) ∈ lw_all := lw_in 1057 rfl rfl
set_option maxRecDepth 20000 in
theorem q1058 : Cond.methodLink RL 148 yL_line ∈ lw_all := lw_in 1058 rfl rfl
set_option maxRecDepth 20000 in
theorem q1059 : Cond.static yL_line ∈ lw_all := lw_in 1059 rfl rfl
set_option maxRecDepth 20000 in
theorem q1061 : Cond.methodLink RL 99 yX8_line ∈ lw_all := lw_in 1061 rfl rfl
set_option maxRecDepth 20000 in
theorem q1062 : Cond.instanceMethod yX8_line ∈ lw_all := lw_in 1062 rfl rfl
set_option maxRecDepth 20000 in
theorem q1063 : Cond.selects RX8 yX8_line yX8_line ∈ lw_all := lw_in 1063 rfl rfl
set_option maxRecDepth 20000 in
theorem q1064 : Cond.code yX8_line cX8_line 2 (some .int) ∈ lw_all := lw_in 1064 rfl rfl
set_option maxRecDepth 20000 in
theorem q1065 : Cond.methodLink RX8 232 yX4_write ∈ lw_all := lw_in 1065 rfl rfl
set_option maxRecDepth 20000 in
theorem q1066 : Cond.instanceMethod yX4_write ∈ lw_all := lw_in 1066 rfl rfl
set_option maxRecDepth 20000 in
theorem q1067 : Cond.selects RX4 yX4_write yX4_write ∈ lw_all := lw_in 1067 rfl rfl
set_option maxRecDepth 20000 in
theorem q1068 : Cond.code yX4_write cX4_write 4 (some .int) ∈ lw_all := lw_in 1068 rfl rfl
set_option maxRecDepth 20000 in
theorem q1069 : Cond.methodLink RX4 23 yX4_addNumber ∈ lw_all := lw_in 1069 rfl rfl
set_option maxRecDepth 20000 in
theorem q1071 : Cond.instanceMethod yX4_addNumber ∈ lw_all := lw_in 1071 rfl rfl
set_option maxRecDepth 20000 in
theorem q1072 : Cond.code yX4_addNumber cX4_addNumber 2 none ∈ lw_all := lw_in 1072 rfl rfl
set_option maxRecDepth 20000 in
theorem q1073 : Cond.methodLink RX4 27 yX4_addSign ∈ lw_all := lw_in 1073 rfl rfl
set_option maxRecDepth 20000 in
theorem q1075 : Cond.instanceMethod yX4_addSign ∈ lw_all := lw_in 1075 rfl rfl
set_option maxRecDepth 20000 in
theorem q1076 : Cond.code yX4_addSign cX4_addSign 2 none ∈ lw_all := lw_in 1076 rfl rfl
set_option maxRecDepth 20000 in
theorem q1077 : Cond.methodLink RX4 31 yX1_kindOf ∈ lw_all := lw_in 1077 rfl rfl
set_option maxRecDepth 20000 in
theorem q1078 : Cond.methodLink RX4 37 yX4_letterOf ∈ lw_all := lw_in 1078 rfl rfl
set_option maxRecDepth 20000 in
theorem q1079 : Cond.static yX4_letterOf ∈ lw_all := lw_in 1079 rfl rfl
set_option maxRecDepth 20000 in
theorem q1080 : Cond.code yX4_letterOf cX4_letterOf 1 (some .char) ∈ lw_all := lw_in 1080 rfl rfl
set_option maxRecDepth 20000 in
theorem q1081 : Cond.methodLink RX4 41 yX1_amountIn ∈ lw_all := lw_in 1081 rfl rfl
set_option maxRecDepth 20000 in
theorem q1082 : Cond.methodLink RL 151 yL_character ∈ lw_all := lw_in 1082 rfl rfl
set_option maxRecDepth 20000 in
theorem q1083 : Cond.static yL_character ∈ lw_all := lw_in 1083 rfl rfl
set_option maxRecDepth 20000 in
theorem q1085 : Cond.methodLink RL 102 yX8_character ∈ lw_all := lw_in 1085 rfl rfl
set_option maxRecDepth 20000 in
theorem q1086 : Cond.instanceMethod yX8_character ∈ lw_all := lw_in 1086 rfl rfl
set_option maxRecDepth 20000 in
theorem q1087 : Cond.selects RX8 yX8_character yX8_character ∈ lw_all := lw_in 1087 rfl rfl
set_option maxRecDepth 20000 in
theorem q1088 : Cond.code yX8_character cX8_character 2 (some .char) ∈ lw_all := lw_in 1088 rfl rfl
set_option maxRecDepth 20000 in
theorem q1089 : Cond.methodLink RX8 235 yX4_has ∈ lw_all := lw_in 1089 rfl rfl
set_option maxRecDepth 20000 in
theorem q1090 : Cond.instanceMethod yX4_has ∈ lw_all := lw_in 1090 rfl rfl
set_option maxRecDepth 20000 in
theorem q1091 : Cond.selects RX4 yX4_has yX4_has ∈ lw_all := lw_in 1091 rfl rfl
set_option maxRecDepth 20000 in
theorem q1092 : Cond.code yX4_has cX4_has 2 (some .boolean) ∈ lw_all := lw_in 1092 rfl rfl
set_option maxRecDepth 20000 in
theorem q1094 : Cond.methodLink RX8 240 yX4_signAt ∈ lw_all := lw_in 1094 rfl rfl
set_option maxRecDepth 20000 in
theorem q1095 : Cond.instanceMethod yX4_signAt ∈ lw_all := lw_in 1095 rfl rfl
set_option maxRecDepth 20000 in
theorem q1096 : Cond.selects RX4 yX4_signAt yX4_signAt ∈ lw_all := lw_in 1096 rfl rfl
set_option maxRecDepth 20000 in
theorem q1097 : Cond.code yX4_signAt cX4_signAt 2 (some .char) ∈ lw_all := lw_in 1097 rfl rfl
set_option maxRecDepth 20000 in
theorem q1098 : Cond.methodLink RX4 19 yX4_has ∈ lw_all := lw_in 1098 rfl rfl
set_option maxRecDepth 20000 in
theorem q1099 : Cond.methodLink RL 218 yL_tastiest ∈ lw_all := lw_in 1099 rfl rfl
set_option maxRecDepth 20000 in
theorem q1100 : Cond.static yL_tastiest ∈ lw_all := lw_in 1100 rfl rfl
set_option maxRecDepth 20000 in
theorem q1102 : Cond.methodLink RL 84 yX8_tastiest ∈ lw_all := lw_in 1102 rfl rfl
set_option maxRecDepth 20000 in
theorem q1103 : Cond.instanceMethod yX8_tastiest ∈ lw_all := lw_in 1103 rfl rfl
set_option maxRecDepth 20000 in
theorem q1104 : Cond.selects RX8 yX8_tastiest yX8_tastiest ∈ lw_all := lw_in 1104 rfl rfl
set_option maxRecDepth 20000 in
theorem q1105 : Cond.code yX8_tastiest cX8_tastiest 2 (some .int) ∈ lw_all := lw_in 1105 rfl rfl
set_option maxRecDepth 20000 in
theorem q1106 : Cond.methodLink RX8 207 yX7_farthestBest ∈ lw_all := lw_in 1106 rfl rfl
set_option maxRecDepth 20000 in
theorem q1107 : Cond.instanceMethod yX7_farthestBest ∈ lw_all := lw_in 1107 rfl rfl
set_option maxRecDepth 20000 in
theorem q1108 : Cond.selects RX7 yX7_farthestBest yX7_farthestBest ∈ lw_all := lw_in 1108 rfl rfl
set_option maxRecDepth 20000 in
theorem q1109 : Cond.code yX7_farthestBest cX7_farthestBest 6 (some .int) ∈ lw_all := lw_in 1109 rfl rfl
set_option maxRecDepth 20000 in
theorem q1110 : Cond.methodLink RX7 35 yX1_tasteOf ∈ lw_all := lw_in 1110 rfl rfl
set_option maxRecDepth 20000 in
theorem q1111 : Cond.methodLink RL 220 yL_conflicts ∈ lw_all := lw_in 1111 rfl rfl
set_option maxRecDepth 20000 in
theorem q1112 : Cond.static yL_conflicts ∈ lw_all := lw_in 1112 rfl rfl
set_option maxRecDepth 20000 in
theorem q1114 : Cond.methodLink RL 45 yX8_conflicts ∈ lw_all := lw_in 1114 rfl rfl
set_option maxRecDepth 20000 in
theorem q1115 : Cond.instanceMethod yX8_conflicts ∈ lw_all := lw_in 1115 rfl rfl
set_option maxRecDepth 20000 in
theorem q1116 : Cond.selects RX8 yX8_conflicts yX8_conflicts ∈ lw_all := lw_in 1116 rfl rfl
set_option maxRecDepth 20000 in
theorem q1117 : Cond.code yX8_conflicts cX8_conflicts 3 (some .int) ∈ lw_all := lw_in 1117 rfl rfl
set_option maxRecDepth 20000 in
theorem q1118 : Cond.methodLink RX8 147 yX0_conflictsBetween ∈ lw_all := lw_in 1118 rfl rfl
set_option maxRecDepth 20000 in
theorem q1119 : Cond.instanceMethod yX0_conflictsBetween ∈ lw_all := lw_in 1119 rfl rfl
set_option maxRecDepth 20000 in
theorem q1120 : Cond.selects RX0 yX0_conflictsBetween yX0_conflictsBetween ∈ lw_all := lw_in 1120 rfl rfl
set_option maxRecDepth 20000 in
theorem q1121 : Cond.code yX0_conflictsBetween cX0_conflictsBetween 3 (some .int) ∈ lw_all := lw_in 1121 rfl rfl
set_option maxRecDepth 20000 in
theorem q1122 : Cond.methodLink RL 222 yL_onLine ∈ lw_all := lw_in 1122 rfl rfl
set_option maxRecDepth 20000 in
theorem q1123 : Cond.static yL_onLine ∈ lw_all := lw_in 1123 rfl rfl
set_option maxRecDepth 20000 in
theorem q1125 : Cond.methodLink RL 61 yX8_onLine ∈ lw_all := lw_in 1125 rfl rfl
set_option maxRecDepth 20000 in
theorem q1126 : Cond.instanceMethod yX8_onLine ∈ lw_all := lw_in 1126 rfl rfl
set_option maxRecDepth 20000 in
theorem q1127 : Cond.selects RX8 yX8_onLine yX8_onLine ∈ lw_all := lw_in 1127 rfl rfl
set_option maxRecDepth 20000 in
theorem q1128 : Cond.code yX8_onLine cX8_onLine 4 (some .int) ∈ lw_all := lw_in 1128 rfl rfl
set_option maxRecDepth 20000 in
theorem q1129 : Cond.methodLink RX8 169 yX7_at ∈ lw_all := lw_in 1129 rfl rfl
set_option maxRecDepth 20000 in
theorem q1131 : Cond.methodLink RL 224 yL_blame ∈ lw_all := lw_in 1131 rfl rfl
set_option maxRecDepth 20000 in
theorem q1132 : Cond.static yL_blame ∈ lw_all := lw_in 1132 rfl rfl
set_option maxRecDepth 20000 in
theorem q1134 : Cond.methodLink RL 73 yX8_blame ∈ lw_all := lw_in 1134 rfl rfl
set_option maxRecDepth 20000 in
theorem q1135 : Cond.instanceMethod yX8_blame ∈ lw_all := lw_in 1135 rfl rfl
set_option maxRecDepth 20000 in
theorem q1136 : Cond.selects RX8 yX8_blame yX8_blame ∈ lw_all := lw_in 1136 rfl rfl
set_option maxRecDepth 20000 in
theorem q1137 : Cond.code yX8_blame cX8_blame 3 (some .int) ∈ lw_all := lw_in 1137 rfl rfl
set_option maxRecDepth 20000 in
theorem q1138 : Cond.methodLink RX8 195 yX7_latestChange ∈ lw_all := lw_in 1138 rfl rfl
set_option maxRecDepth 20000 in
theorem q1139 : Cond.instanceMethod yX7_latestChange ∈ lw_all := lw_in 1139 rfl rfl
set_option maxRecDepth 20000 in
theorem q1140 : Cond.selects RX7 yX7_latestChange yX7_latestChange ∈ lw_all := lw_in 1140 rfl rfl
set_option maxRecDepth 20000 in
theorem q1141 : Cond.code yX7_latestChange cX7_latestChange 4 (some .int) ∈ lw_all := lw_in 1141 rfl rfl
set_option maxRecDepth 20000 in
theorem q1142 : Cond.methodLink RL 231 yL_inBundle ∈ lw_all := lw_in 1142 rfl rfl
set_option maxRecDepth 20000 in
theorem q1143 : Cond.static yL_inBundle ∈ lw_all := lw_in 1143 rfl rfl
set_option maxRecDepth 20000 in
theorem q1145 : Cond.methodLink RL 93 yX8_inBundle ∈ lw_all := lw_in 1145 rfl rfl
set_option maxRecDepth 20000 in
theorem q1146 : Cond.instanceMethod yX8_inBundle ∈ lw_all := lw_in 1146 rfl rfl
set_option maxRecDepth 20000 in
theorem q1147 : Cond.selects RX8 yX8_inBundle yX8_inBundle ∈ lw_all := lw_in 1147 rfl rfl
set_option maxRecDepth 20000 in
theorem q1148 : Cond.code yX8_inBundle cX8_inBundle 3 (some .int) ∈ lw_all := lw_in 1148 rfl rfl
set_option maxRecDepth 20000 in
theorem q1149 : Cond.methodLink RX8 217 yX8_isPlace ∈ lw_all := lw_in 1149 rfl rfl
set_option maxRecDepth 20000 in
theorem q1150 : Cond.static yX8_isPlace ∈ lw_all := lw_in 1150 rfl rfl
set_option maxRecDepth 20000 in
theorem q1151 : Cond.code yX8_isPlace cX8_isPlace 1 (some .boolean) ∈ lw_all := lw_in 1151 rfl rfl
set_option maxRecDepth 20000 in
theorem q1152 : Cond.methodLink RX8 224 yX1_bundledAt ∈ lw_all := lw_in 1152 rfl rfl
set_option maxRecDepth 20000 in
theorem q1153 : Cond.instanceMethod yX1_bundledAt ∈ lw_all := lw_in 1153 rfl rfl
set_option maxRecDepth 20000 in
theorem q1154 : Cond.selects RX1 yX1_bundledAt yX1_bundledAt ∈ lw_all := lw_in 1154 rfl rfl
set_option maxRecDepth 20000 in
theorem q1155 : Cond.code yX1_bundledAt cX1_bundledAt 2 (some .int) ∈ lw_all := lw_in 1155 rfl rfl
set_option maxRecDepth 20000 in
theorem q1157 : Cond.methodLink RL 309 yL_changes ∈ lw_all := lw_in 1157 rfl rfl
set_option maxRecDepth 20000 in
theorem q1158 : Cond.static yL_changes ∈ lw_all := lw_in 1158 rfl rfl
set_option maxRecDepth 20000 in
theorem q1159 : Cond.code yL_changes cL_changes 5 (some .boolean) ∈ lw_all := lw_in 1159 rfl rfl
set_option maxRecDepth 20000 in
theorem q1160 : Cond.methodLink RL 239 yL_put ∈ lw_all := lw_in 1160 rfl rfl
set_option maxRecDepth 20000 in
theorem q1161 : Cond.static yL_put ∈ lw_all := lw_in 1161 rfl rfl
set_option maxRecDepth 20000 in
theorem q1163 : Cond.methodLink RL 90 yX8_put ∈ lw_all := lw_in 1163 rfl rfl
set_option maxRecDepth 20000 in
theorem q1164 : Cond.instanceMethod yX8_put ∈ lw_all := lw_in 1164 rfl rfl
set_option maxRecDepth 20000 in
theorem q1165 : Cond.selects RX8 yX8_put yX8_put ∈ lw_all := lw_in 1165 rfl rfl
set_option maxRecDepth 20000 in
theorem q1166 : Cond.code yX8_put cX8_put 3 (some .int) ∈ lw_all := lw_in 1166 rfl rfl
set_option maxRecDepth 20000 in
theorem q1167 : Cond.methodLink RX8 214 yX0_tryPut ∈ lw_all := lw_in 1167 rfl rfl
set_option maxRecDepth 20000 in
theorem q1168 : Cond.instanceMethod yX0_tryPut ∈ lw_all := lw_in 1168 rfl rfl
set_option maxRecDepth 20000 in
theorem q1169 : Cond.selects RX0 yX0_tryPut yX0_tryPut ∈ lw_all := lw_in 1169 rfl rfl
set_option maxRecDepth 20000 in
theorem q1170 : Cond.code yX0_tryPut cX0_tryPut 5 (some .int) ∈ lw_all := lw_in 1170 rfl rfl
set_option maxRecDepth 20000 in
theorem q1172 : Cond.methodLink RX0 119 yX1_bundleKind ∈ lw_all := lw_in 1172 rfl rfl
set_option maxRecDepth 20000 in
theorem q1173 : Cond.methodLink RX0 122 yX1_kindOf ∈ lw_all := lw_in 1173 rfl rfl
set_option maxRecDepth 20000 in
theorem q1174 : Cond.methodLink RX0 125 yX1_placeOf ∈ lw_all := lw_in 1174 rfl rfl
set_option maxRecDepth 20000 in
theorem q1175 : Cond.instanceMethod yX1_placeOf ∈ lw_all := lw_in 1175 rfl rfl
set_option maxRecDepth 20000 in
theorem q1176 : Cond.selects RX1 yX1_placeOf yX1_placeOf ∈ lw_all := lw_in 1176 rfl rfl
set_option maxRecDepth 20000 in
theorem q1177 : Cond.code yX1_placeOf cX1_placeOf 3 (some .int) ∈ lw_all := lw_in 1177 rfl rfl
set_option maxRecDepth 20000 in
theorem q1178 : Cond.methodLink RX0 128 yX1_fillPlace ∈ lw_all := lw_in 1178 rfl rfl
set_option maxRecDepth 20000 in
theorem q1179 : Cond.instanceMethod yX1_fillPlace ∈ lw_all := lw_in 1179 rfl rfl
set_option maxRecDepth 20000 in
theorem q1180 : Cond.selects RX1 yX1_fillPlace yX1_fillPlace ∈ lw_all := lw_in 1180 rfl rfl
set_option maxRecDepth 20000 in
theorem q1181 : Cond.code yX1_fillPlace cX1_fillPlace 3 none ∈ lw_all := lw_in 1181 rfl rfl
set_option maxRecDepth 20000 in
theorem q1182 : Cond.methodLink RL 241 yL_play ∈ lw_all := lw_in 1182 rfl rfl
set_option maxRecDepth 20000 in
theorem q1183 : Cond.static yL_play ∈ lw_all := lw_in 1183 rfl rfl
set_option maxRecDepth 20000 in
theorem q1185 : Cond.methodLink RL 96 yX8_play ∈ lw_all := lw_in 1185 rfl rfl
set_option maxRecDepth 20000 in
theorem q1186 : Cond.instanceMethod yX8_play ∈ lw_all := lw_in 1186 rfl rfl
set_option maxRecDepth 20000 in
theorem q1187 : Cond.selects RX8 yX8_play yX8_play ∈ lw_all := lw_in 1187 rfl rfl
set_option maxRecDepth 20000 in
theorem q1188 : Cond.code yX8_play cX8_play 3 (some .int) ∈ lw_all := lw_in 1188 rfl rfl
set_option maxRecDepth 20000 in
theorem q1189 : Cond.methodLink RX8 229 yX0_tryPlay ∈ lw_all := lw_in 1189 rfl rfl
set_option maxRecDepth 20000 in
theorem q1190 : Cond.instanceMethod yX0_tryPlay ∈ lw_all := lw_in 1190 rfl rfl
set_option maxRecDepth 20000 in
theorem q1191 : Cond.selects RX0 yX0_tryPlay yX0_tryPlay ∈ lw_all := lw_in 1191 rfl rfl
set_option maxRecDepth 20000 in
theorem q1192 : Cond.code yX0_tryPlay cX0_tryPlay 7 (some .int) ∈ lw_all := lw_in 1192 rfl rfl
set_option maxRecDepth 20000 in
theorem q1193 : Cond.methodLink RX0 131 yX1_bundledAt ∈ lw_all := lw_in 1193 rfl rfl
set_option maxRecDepth 20000 in
theorem q1194 : Cond.methodLink RX0 134 yX0_tryPick ∈ lw_all := lw_in 1194 rfl rfl
set_option maxRecDepth 20000 in
theorem q1195 : Cond.classLink RL 243 RJ4 ∈ lw_all := lw_in 1195 rfl rfl
set_option maxRecDepth 20000 in
theorem q1196 : Cond.instantiable RJ4 4 ∈ lw_all := lw_in 1196 rfl rfl
set_option maxRecDepth 20000 in
theorem q1197 : Cond.methodLink RL 245 yJ4_init_da8c8 ∈ lw_all := lw_in 1197 rfl rfl
set_option maxRecDepth 20000 in
theorem q1198 : Cond.instanceMethod yJ4_init_da8c8 ∈ lw_all := lw_in 1198 rfl rfl
set_option maxRecDepth 20000 in
theorem q1199 : Cond.code yJ4_init_da8c8 cJ4_init_da8c8 1 none ∈ lw_all := lw_in 1199 rfl rfl
set_option maxRecDepth 20000 in
theorem q1200 : Cond.methodLink RJ4 1 yJ5_init_d00df ∈ lw_all := lw_in 1200 rfl rfl
set_option maxRecDepth 20000 in
theorem q1201 : Cond.instanceMethod yJ5_init_d00df ∈ lw_all := lw_in 1201 rfl rfl
set_option maxRecDepth 20000 in
theorem q1202 : Cond.code yJ5_init_d00df cJ5_init_d00df 2 none ∈ lw_all := lw_in 1202 rfl rfl
set_option maxRecDepth 20000 in
theorem q1203 : Cond.methodLink RJ5 3 Lib.objectInit ∈ lw_all := lw_in 1203 rfl rfl
set_option maxRecDepth 20000 in
theorem q1204 : Cond.fieldLink RJ5 18 "java/lang/String" "COMPACT_STRINGS" "Z" ∈ lw_all := lw_in 1204 rfl rfl
set_option maxRecDepth 20000 in
theorem q1205 : Cond.methodLink RJ5 26 yJ2_newBytesFor_77867 ∈ lw_all := lw_in 1205 rfl rfl
set_option maxRecDepth 20000 in
theorem q1206 : Cond.static yJ2_newBytesFor_77867 ∈ lw_all := lw_in 1206 rfl rfl
set_option maxRecDepth 20000 in
theorem q1207 : Cond.code yJ2_newBytesFor_77867 cJ2_newBytesFor_77867 1 (some (.array .byte)) ∈ lw_all := lw_in 1207 rfl rfl
set_option maxRecDepth 20000 in
theorem q1208 : Cond.methodLink RJ2 11 yJ2_newBytesLength_0f7a4 ∈ lw_all := lw_in 1208 rfl rfl
set_option maxRecDepth 20000 in
theorem q1209 : Cond.static yJ2_newBytesLength_0f7a4 ∈ lw_all := lw_in 1209 rfl rfl
set_option maxRecDepth 20000 in
theorem q1210 : Cond.code yJ2_newBytesLength_0f7a4 cJ2_newBytesLength_0f7a4 1 (some .int) ∈ lw_all := lw_in 1210 rfl rfl
set_option maxRecDepth 20000 in
theorem q1211 : Cond.constant RJ2 20 1073741823 ∈ lw_all := lw_in 1211 rfl rfl
set_option maxRecDepth 20000 in
theorem q1212 : Cond.fieldLink RJ5 15 "java/lang/AbstractStringBuilder" "value" "[B" ∈ lw_all := lw_in 1212 rfl rfl
set_option maxRecDepth 20000 in
theorem q1213 : Cond.fieldLink RJ5 22 "java/lang/AbstractStringBuilder" "coder" "B" ∈ lw_all := lw_in 1213 rfl rfl
set_option maxRecDepth 20000 in
theorem q1214 : Cond.fieldLink RJ0 1048 "java/lang/AbstractStringBuilder" "maybeLatin1" "Z" ∈ lw_all := lw_in 1214 rfl rfl
set_option maxRecDepth 20000 in
theorem q1215 : Cond.fieldLink RJ5 79 "java/lang/AbstractStringBuilder" "count" "I" ∈ lw_all := lw_in 1215 rfl rfl
set_option maxRecDepth 20000 in
theorem q1226 : Cond.methodLink RL 248 yJ4_append_15ec4 ∈ lw_all := lw_in 1226 rfl rfl
set_option maxRecDepth 20000 in
theorem q1227 : Cond.instanceMethod yJ4_append_15ec4 ∈ lw_all := lw_in 1227 rfl rfl
set_option maxRecDepth 20000 in
theorem q1228 : Cond.selects RJ4 yJ4_append_15ec4 yJ4_append_15ec4 ∈ lw_all := lw_in 1228 rfl rfl
set_option maxRecDepth 20000 in
theorem q1229 : Cond.code yJ4_append_15ec4 cJ4_append_15ec4 2 (some (.object "java/lang/StringBuilder")) ∈ lw_all := lw_in 1229 rfl rfl
set_option maxRecDepth 20000 in
theorem q1230 : Cond.methodLink RJ4 29 yJ5_append_cf1ce ∈ lw_all := lw_in 1230 rfl rfl
set_option maxRecDepth 20000 in
theorem q1231 : Cond.instanceMethod yJ5_append_cf1ce ∈ lw_all := lw_in 1231 rfl rfl
set_option maxRecDepth 20000 in
theorem q1232 : Cond.code yJ5_append_cf1ce cJ5_append_cf1ce 3 (some (.object "java/lang/AbstractStringBuilder")) ∈ lw_all := lw_in 1232 rfl rfl
set_option maxRecDepth 20000 in
theorem q1233 : Cond.methodLink RJ5 204 yJ5_appendNull_278bc ∈ lw_all := lw_in 1233 rfl rfl
set_option maxRecDepth 20000 in
theorem q1235 : Cond.instanceMethod yJ5_appendNull_278bc ∈ lw_all := lw_in 1235 rfl rfl
set_option maxRecDepth 20000 in
theorem q1236 : Cond.code yJ5_appendNull_278bc cJ5_appendNull_278bc 3 (some (.object "java/lang/AbstractStringBuilder")) ∈ lw_all := lw_in 1236 rfl rfl
set_option maxRecDepth 20000 in
theorem q1237 : Cond.methodLink RJ5 100 yJ5_ensureCapacityInternal_d00df ∈ lw_all := lw_in 1237 rfl rfl
set_option maxRecDepth 20000 in
theorem q1239 : Cond.instanceMethod yJ5_ensureCapacityInternal_d00df ∈ lw_all := lw_in 1239 rfl rfl
set_option maxRecDepth 20000 in
theorem q1240 : Cond.code yJ5_ensureCapacityInternal_d00df cJ5_ensureCapacityInternal_d00df 3 none ∈ lw_all := lw_in 1240 rfl rfl
set_option maxRecDepth 20000 in
theorem q1241 : Cond.methodLink RJ5 104 yJ5_newCapacity_0f7a4 ∈ lw_all := lw_in 1241 rfl rfl
set_option maxRecDepth 20000 in
theorem q1243 : Cond.instanceMethod yJ5_newCapacity_0f7a4 ∈ lw_all := lw_in 1243 rfl rfl
set_option maxRecDepth 20000 in
theorem q1244 : Cond.code yJ5_newCapacity_0f7a4 cJ5_newCapacity_0f7a4 6 (some .int) ∈ lw_all := lw_in 1244 rfl rfl
set_option maxRecDepth 20000 in
theorem q1245 : Cond.methodLink RJ5 114 yJ8_newLength_cabcc ∈ lw_all := lw_in 1245 rfl rfl
set_option maxRecDepth 20000 in
theorem q1246 : Cond.static yJ8_newLength_cabcc ∈ lw_all := lw_in 1246 rfl rfl
set_option maxRecDepth 20000 in
theorem q1247 : Cond.code yJ8_newLength_cabcc cJ8_newLength_cabcc 4 (some .int) ∈ lw_all := lw_in 1247 rfl rfl
set_option maxRecDepth 20000 in
theorem q1248 : Cond.methodLink RJ8 194 Lib.Math.max.name ∈ lw_all := lw_in 1248 rfl rfl
set_option maxRecDepth 20000 in
theorem q1249 : Cond.constant RJ8 200 2147483639 ∈ lw_all := lw_in 1249 rfl rfl
set_option maxRecDepth 20000 in
theorem q1250 : Cond.methodLink RJ8 201 yJ8_hugeLength_7cf53 ∈ lw_all := lw_in 1250 rfl rfl
set_option maxRecDepth 20000 in
theorem q1251 : Cond.static yJ8_hugeLength_7cf53 ∈ lw_all := lw_in 1251 rfl rfl
set_option maxRecDepth 20000 in
theorem q1252 : Cond.code yJ8_hugeLength_7cf53 cJ8_hugeLength_7cf53 3 (some .int) ∈ lw_all := lw_in 1252 rfl rfl
set_option maxRecDepth 20000 in
theorem q1253 : Cond.constant RJ5 39 2147483647 ∈ lw_all := lw_in 1253 rfl rfl
set_option maxRecDepth 20000 in
theorem q1254 : Cond.methodLink RJ5 108 yJ7_copyOf_9075b ∈ lw_all := lw_in 1254 rfl rfl
set_option maxRecDepth 20000 in
theorem q1255 : Cond.static yJ7_copyOf_9075b ∈ lw_all := lw_in 1255 rfl rfl
set_option maxRecDepth 20000 in
theorem q1256 : Cond.code yJ7_copyOf_9075b cJ7_copyOf_9075b 3 (some (.array .byte)) ∈ lw_all := lw_in 1256 rfl rfl
set_option maxRecDepth 20000 in
theorem q1257 : Cond.methodLink RJ7 310 ⟨"[B", "clone", "()Ljava/lang/Object;"⟩ ∈ lw_all := lw_in 1257 rfl rfl
set_option maxRecDepth 20000 in
theorem q1259 : Cond.native ⟨"java/lang/Object", "clone", "()Ljava/lang/Object;"⟩ ∈ lw_all := lw_in 1259 rfl rfl
set_option maxRecDepth 20000 in
theorem q1260 : Cond.instanceMethod ⟨"java/lang/Object", "clone", "()Ljava/lang/Object;"⟩ ∈ lw_all := lw_in 1260 rfl rfl
set_option maxRecDepth 20000 in
theorem q1261 : Cond.selects "[B" ⟨"[B", "clone", "()Ljava/lang/Object;"⟩ ⟨"java/lang/Object", "clone", "()Ljava/lang/Object;"⟩ ∈ lw_all := lw_in 1261 rfl rfl
set_option maxRecDepth 20000 in
theorem q1263 : Cond.classLink RJ7 311 "[B" ∈ lw_all := lw_in 1263 rfl rfl
set_option maxRecDepth 20000 in
theorem q1264 : Cond.methodLink RJ7 304 Lib.Math.min.name ∈ lw_all := lw_in 1264 rfl rfl
set_option maxRecDepth 20000 in
theorem q1265 : Cond.methodLink RJ7 150 arraycopyName ∈ lw_all := lw_in 1265 rfl rfl
set_option maxRecDepth 20000 in
theorem q1266 : Cond.methodLink RJ5 83 yJ5_isLatin1_aae02 ∈ lw_all := lw_in 1266 rfl rfl
set_option maxRecDepth 20000 in
theorem q1267 : Cond.instanceMethod yJ5_isLatin1_aae02 ∈ lw_all := lw_in 1267 rfl rfl
set_option maxRecDepth 20000 in
theorem q1269 : Cond.selects RJ4 yJ5_isLatin1_aae02 yJ5_isLatin1_aae02 ∈ lw_all := lw_in 1269 rfl rfl
set_option maxRecDepth 20000 in
theorem q1270 : Cond.code yJ5_isLatin1_aae02 cJ5_isLatin1_aae02 1 (some .boolean) ∈ lw_all := lw_in 1270 rfl rfl
set_option maxRecDepth 20000 in
theorem q1271 : Cond.methodLink RJ5 226 yJ2_putCharsAt_cd4e5 ∈ lw_all := lw_in 1271 rfl rfl
set_option maxRecDepth 20000 in
theorem q1272 : Cond.static yJ2_putCharsAt_cd4e5 ∈ lw_all := lw_in 1272 rfl rfl
set_option maxRecDepth 20000 in
theorem q1273 : Cond.code yJ2_putCharsAt_cd4e5 cJ2_putCharsAt_cd4e5 7 (some .int) ∈ lw_all := lw_in 1273 rfl rfl
set_option maxRecDepth 20000 in
theorem q1274 : Cond.methodLink RJ2 96 yJ2_checkBoundsBeginEnd_d044e ∈ lw_all := lw_in 1274 rfl rfl
set_option maxRecDepth 20000 in
theorem q1275 : Cond.static yJ2_checkBoundsBeginEnd_d044e ∈ lw_all := lw_in 1275 rfl rfl
set_option maxRecDepth 20000 in
theorem q1276 : Cond.code yJ2_checkBoundsBeginEnd_d044e cJ2_checkBoundsBeginEnd_d044e 3 none ∈ lw_all := lw_in 1276 rfl rfl
set_option maxRecDepth 20000 in
theorem q1277 : Cond.methodLink RJ2 241 yJ0_checkBoundsBeginEnd_23922 ∈ lw_all := lw_in 1277 rfl rfl
set_option maxRecDepth 20000 in
theorem q1278 : Cond.static yJ0_checkBoundsBeginEnd_23922 ∈ lw_all := lw_in 1278 rfl rfl
set_option maxRecDepth 20000 in
theorem q1279 : Cond.code yJ0_checkBoundsBeginEnd_23922 cJ0_checkBoundsBeginEnd_23922 3 none ∈ lw_all := lw_in 1279 rfl rfl
set_option maxRecDepth 20000 in
theorem q1280 : Cond.methodLink RJ0 1062 yJ3_checkFromToIndex_8c36e ∈ lw_all := lw_in 1280 rfl rfl
set_option maxRecDepth 20000 in
theorem q1281 : Cond.static yJ3_checkFromToIndex_8c36e ∈ lw_all := lw_in 1281 rfl rfl
set_option maxRecDepth 20000 in
theorem q1282 : Cond.code yJ3_checkFromToIndex_8c36e cJ3_checkFromToIndex_8c36e 4 (some .int) ∈ lw_all := lw_in 1282 rfl rfl
set_option maxRecDepth 20000 in
theorem q1283 : Cond.methodLink RJ2 111 yJ2_putChar_b72d1 ∈ lw_all := lw_in 1283 rfl rfl
set_option maxRecDepth 20000 in
theorem q1284 : Cond.static yJ2_putChar_b72d1 ∈ lw_all := lw_in 1284 rfl rfl
set_option maxRecDepth 20000 in
theorem q1285 : Cond.code yJ2_putChar_b72d1 cJ2_putChar_b72d1 3 none ∈ lw_all := lw_in 1285 rfl rfl
set_option maxRecDepth 20000 in
theorem q1286 : Cond.methodLink RJ5 32 yJ0_length_8abf5 ∈ lw_all := lw_in 1286 rfl rfl
set_option maxRecDepth 20000 in
theorem q1287 : Cond.methodLink RJ5 208 yJ5_putStringAt_47b60 ∈ lw_all := lw_in 1287 rfl rfl
set_option maxRecDepth 20000 in
theorem q1289 : Cond.instanceMethod yJ5_putStringAt_47b60 ∈ lw_all := lw_in 1289 rfl rfl
set_option maxRecDepth 20000 in
theorem q1290 : Cond.code yJ5_putStringAt_47b60 cJ5_putStringAt_47b60 3 none ∈ lw_all := lw_in 1290 rfl rfl
set_option maxRecDepth 20000 in
theorem q1291 : Cond.methodLink RJ5 397 yJ5_inflateIfNeededFor_a7421 ∈ lw_all := lw_in 1291 rfl rfl
set_option maxRecDepth 20000 in
theorem q1293 : Cond.instanceMethod yJ5_inflateIfNeededFor_a7421 ∈ lw_all := lw_in 1293 rfl rfl
set_option maxRecDepth 20000 in
theorem q1294 : Cond.code yJ5_inflateIfNeededFor_a7421 cJ5_inflateIfNeededFor_a7421 2 none ∈ lw_all := lw_in 1294 rfl rfl
set_option maxRecDepth 20000 in
theorem q1295 : Cond.methodLink RJ5 40 yJ0_coder_7d493 ∈ lw_all := lw_in 1295 rfl rfl
set_option maxRecDepth 20000 in
theorem q1296 : Cond.methodLink RJ5 195 yJ5_inflate_da8c8 ∈ lw_all := lw_in 1296 rfl rfl
set_option maxRecDepth 20000 in
theorem q1298 : Cond.instanceMethod yJ5_inflate_da8c8 ∈ lw_all := lw_in 1298 rfl rfl
set_option maxRecDepth 20000 in
theorem q1299 : Cond.code yJ5_inflate_da8c8 cJ5_inflate_da8c8 2 none ∈ lw_all := lw_in 1299 rfl rfl
set_option maxRecDepth 20000 in
theorem q1300 : Cond.methodLink RJ5 125 yJ1_inflate_0e8fd ∈ lw_all := lw_in 1300 rfl rfl
set_option maxRecDepth 20000 in
theorem q1301 : Cond.static yJ1_inflate_0e8fd ∈ lw_all := lw_in 1301 rfl rfl
set_option maxRecDepth 20000 in
theorem q1302 : Cond.code yJ1_inflate_0e8fd cJ1_inflate_0e8fd 5 none ∈ lw_all := lw_in 1302 rfl rfl
set_option maxRecDepth 20000 in
theorem q1303 : Cond.methodLink RJ1 240 yJ2_inflate_0e8fd ∈ lw_all := lw_in 1303 rfl rfl
set_option maxRecDepth 20000 in
theorem q1304 : Cond.static yJ2_inflate_0e8fd ∈ lw_all := lw_in 1304 rfl rfl
set_option maxRecDepth 20000 in
theorem q1305 : Cond.code yJ2_inflate_0e8fd cJ2_inflate_0e8fd 6 none ∈ lw_all := lw_in 1305 rfl rfl
set_option maxRecDepth 20000 in
theorem q1306 : Cond.methodLink RJ2 173 yJ2_checkBoundsOffCount_d044e ∈ lw_all := lw_in 1306 rfl rfl
set_option maxRecDepth 20000 in
theorem q1307 : Cond.static yJ2_checkBoundsOffCount_d044e ∈ lw_all := lw_in 1307 rfl rfl
set_option maxRecDepth 20000 in
theorem q1308 : Cond.code yJ2_checkBoundsOffCount_d044e cJ2_checkBoundsOffCount_d044e 3 none ∈ lw_all := lw_in 1308 rfl rfl
set_option maxRecDepth 20000 in
theorem q1309 : Cond.methodLink RJ2 419 yJ0_checkBoundsOffCount_cabcc ∈ lw_all := lw_in 1309 rfl rfl
set_option maxRecDepth 20000 in
theorem q1310 : Cond.static yJ0_checkBoundsOffCount_cabcc ∈ lw_all := lw_in 1310 rfl rfl
set_option maxRecDepth 20000 in
theorem q1311 : Cond.code yJ0_checkBoundsOffCount_cabcc cJ0_checkBoundsOffCount_cabcc 3 (some .int) ∈ lw_all := lw_in 1311 rfl rfl
set_option maxRecDepth 20000 in
theorem q1312 : Cond.methodLink RJ0 1065 yJ3_checkFromIndexSize_8c36e ∈ lw_all := lw_in 1312 rfl rfl
set_option maxRecDepth 20000 in
theorem q1313 : Cond.static yJ3_checkFromIndexSize_8c36e ∈ lw_all := lw_in 1313 rfl rfl
set_option maxRecDepth 20000 in
theorem q1314 : Cond.code yJ3_checkFromIndexSize_8c36e cJ3_checkFromIndexSize_8c36e 4 (some .int) ∈ lw_all := lw_in 1314 rfl rfl
set_option maxRecDepth 20000 in
theorem q1315 : Cond.methodLink RJ5 399 yJ0_getBytes_840e7 ∈ lw_all := lw_in 1315 rfl rfl
set_option maxRecDepth 20000 in
theorem q1316 : Cond.instanceMethod yJ0_getBytes_840e7 ∈ lw_all := lw_in 1316 rfl rfl
set_option maxRecDepth 20000 in
theorem q1317 : Cond.selects RJ0 yJ0_getBytes_840e7 yJ0_getBytes_840e7 ∈ lw_all := lw_in 1317 rfl rfl
set_option maxRecDepth 20000 in
theorem q1318 : Cond.code yJ0_getBytes_840e7 cJ0_getBytes_840e7 4 none ∈ lw_all := lw_in 1318 rfl rfl
set_option maxRecDepth 20000 in
theorem q1319 : Cond.methodLink RJ0 212 arraycopyName ∈ lw_all := lw_in 1319 rfl rfl
set_option maxRecDepth 20000 in
theorem q1320 : Cond.methodLink RJ0 106 yJ1_inflate_0e8fd ∈ lw_all := lw_in 1320 rfl rfl
set_option maxRecDepth 20000 in
theorem q1321 : Cond.methodLink RL 251 yJ4_append_bf812 ∈ lw_all := lw_in 1321 rfl rfl
set_option maxRecDepth 20000 in
theorem q1322 : Cond.instanceMethod yJ4_append_bf812 ∈ lw_all := lw_in 1322 rfl rfl
set_option maxRecDepth 20000 in
theorem q1323 : Cond.selects RJ4 yJ4_append_bf812 yJ4_append_bf812 ∈ lw_all := lw_in 1323 rfl rfl
set_option maxRecDepth 20000 in
theorem q1324 : Cond.code yJ4_append_bf812 cJ4_append_bf812 2 (some (.object "java/lang/StringBuilder")) ∈ lw_all := lw_in 1324 rfl rfl
set_option maxRecDepth 20000 in
theorem q1325 : Cond.methodLink RJ4 53 yJ5_append_c97b9 ∈ lw_all := lw_in 1325 rfl rfl
set_option maxRecDepth 20000 in
theorem q1326 : Cond.instanceMethod yJ5_append_c97b9 ∈ lw_all := lw_in 1326 rfl rfl
set_option maxRecDepth 20000 in
theorem q1327 : Cond.code yJ5_append_c97b9 cJ5_append_c97b9 4 (some (.object "java/lang/AbstractStringBuilder")) ∈ lw_all := lw_in 1327 rfl rfl
set_option maxRecDepth 20000 in
theorem q1328 : Cond.methodLink RJ5 245 yJ6_stringSize_0f7a4 ∈ lw_all := lw_in 1328 rfl rfl
set_option maxRecDepth 20000 in
theorem q1329 : Cond.static yJ6_stringSize_0f7a4 ∈ lw_all := lw_in 1329 rfl rfl
set_option maxRecDepth 20000 in
theorem q1330 : Cond.code yJ6_stringSize_0f7a4 cJ6_stringSize_0f7a4 4 (some .int) ∈ lw_all := lw_in 1330 rfl rfl
set_option maxRecDepth 20000 in
theorem q1331 : Cond.methodLink RJ5 248 yJ6_getChars_ba4f3 ∈ lw_all := lw_in 1331 rfl rfl
set_option maxRecDepth 20000 in
theorem q1332 : Cond.static yJ6_getChars_ba4f3 ∈ lw_all := lw_in 1332 rfl rfl
set_option maxRecDepth 20000 in
theorem q1333 : Cond.code yJ6_getChars_ba4f3 cJ6_getChars_ba4f3 7 (some .int) ∈ lw_all := lw_in 1333 rfl rfl
set_option maxRecDepth 20000 in
theorem q1334 : Cond.fieldLink RJ6 83 "java/lang/Integer" "DigitOnes" "[B" ∈ lw_all := lw_in 1334 rfl rfl
set_option maxRecDepth 20000 in
theorem q1336 : Cond.fieldLink RJ6 87 "java/lang/Integer" "DigitTens" "[B" ∈ lw_all := lw_in 1336 rfl rfl
set_option maxRecDepth 20000 in
theorem q1338 : Cond.methodLink RJ5 251 yJ2_getChars_46870 ∈ lw_all := lw_in 1338 rfl rfl
set_option maxRecDepth 20000 in
theorem q1339 : Cond.static yJ2_getChars_46870 ∈ lw_all := lw_in 1339 rfl rfl
set_option maxRecDepth 20000 in
theorem q1340 : Cond.code yJ2_getChars_46870 cJ2_getChars_46870 5 (some .int) ∈ lw_all := lw_in 1340 rfl rfl
set_option maxRecDepth 20000 in
theorem q1341 : Cond.methodLink RJ2 393 yJ2_getChars_ba4f3 ∈ lw_all := lw_in 1341 rfl rfl
set_option maxRecDepth 20000 in
theorem q1342 : Cond.static yJ2_getChars_ba4f3 ∈ lw_all := lw_in 1342 rfl rfl
set_option maxRecDepth 20000 in
theorem q1343 : Cond.code yJ2_getChars_ba4f3 cJ2_getChars_ba4f3 7 (some .int) ∈ lw_all := lw_in 1343 rfl rfl
set_option maxRecDepth 20000 in
theorem q1344 : Cond.fieldLink RJ2 403 "java/lang/Integer" "DigitOnes" "[B" ∈ lw_all := lw_in 1344 rfl rfl
set_option maxRecDepth 20000 in
theorem q1345 : Cond.fieldLink RJ2 407 "java/lang/Integer" "DigitTens" "[B" ∈ lw_all := lw_in 1345 rfl rfl
set_option maxRecDepth 20000 in
theorem q1349 : Cond.methodLink RL 260 yJ4_toString_0e30d ∈ lw_all := lw_in 1349 rfl rfl
set_option maxRecDepth 20000 in
theorem q1350 : Cond.instanceMethod yJ4_toString_0e30d ∈ lw_all := lw_in 1350 rfl rfl
set_option maxRecDepth 20000 in
theorem q1351 : Cond.selects RJ4 yJ4_toString_0e30d yJ4_toString_0e30d ∈ lw_all := lw_in 1351 rfl rfl
set_option maxRecDepth 20000 in
theorem q1352 : Cond.code yJ4_toString_0e30d cJ4_toString_0e30d 1 (some (.object "java/lang/String")) ∈ lw_all := lw_in 1352 rfl rfl
set_option maxRecDepth 20000 in
theorem q1353 : Cond.classLink RJ4 18 RJ0 ∈ lw_all := lw_in 1353 rfl rfl
set_option maxRecDepth 20000 in
theorem q1354 : Cond.instantiable RJ0 4 ∈ lw_all := lw_in 1354 rfl rfl
set_option maxRecDepth 20000 in
theorem q1355 : Cond.methodLink RJ4 137 yJ0_init_81219 ∈ lw_all := lw_in 1355 rfl rfl
set_option maxRecDepth 20000 in
theorem q1356 : Cond.instanceMethod yJ0_init_81219 ∈ lw_all := lw_in 1356 rfl rfl
set_option maxRecDepth 20000 in
theorem q1357 : Cond.code yJ0_init_81219 cJ0_init_81219 2 none ∈ lw_all := lw_in 1357 rfl rfl
set_option maxRecDepth 20000 in
theorem q1358 : Cond.methodLink RJ0 489 yJ0_init_db425 ∈ lw_all := lw_in 1358 rfl rfl
set_option maxRecDepth 20000 in
theorem q1359 : Cond.instanceMethod yJ0_init_db425 ∈ lw_all := lw_in 1359 rfl rfl
set_option maxRecDepth 20000 in
theorem q1360 : Cond.code yJ0_init_db425 cJ0_init_db425 5 none ∈ lw_all := lw_in 1360 rfl rfl
set_option maxRecDepth 20000 in
theorem q1361 : Cond.methodLink RJ0 1 Lib.objectInit ∈ lw_all := lw_in 1361 rfl rfl
set_option maxRecDepth 20000 in
theorem q1362 : Cond.methodLink RJ0 552 yJ5_getValue_6d5f1 ∈ lw_all := lw_in 1362 rfl rfl
set_option maxRecDepth 20000 in
theorem q1363 : Cond.instanceMethod yJ5_getValue_6d5f1 ∈ lw_all := lw_in 1363 rfl rfl
set_option maxRecDepth 20000 in
theorem q1365 : Cond.selects RJ4 yJ5_getValue_6d5f1 yJ5_getValue_6d5f1 ∈ lw_all := lw_in 1365 rfl rfl
set_option maxRecDepth 20000 in
theorem q1366 : Cond.code yJ5_getValue_6d5f1 cJ5_getValue_6d5f1 1 (some (.array .byte)) ∈ lw_all := lw_in 1366 rfl rfl
set_option maxRecDepth 20000 in
theorem q1367 : Cond.methodLink RJ0 549 yJ5_length_8abf5 ∈ lw_all := lw_in 1367 rfl rfl
set_option maxRecDepth 20000 in
theorem q1368 : Cond.instanceMethod yJ5_length_8abf5 ∈ lw_all := lw_in 1368 rfl rfl
set_option maxRecDepth 20000 in
theorem q1370 : Cond.selects RJ4 yJ5_length_8abf5 yJ4_length_8abf5 ∈ lw_all := lw_in 1370 rfl rfl
set_option maxRecDepth 20000 in
theorem q1371 : Cond.instanceMethod yJ4_length_8abf5 ∈ lw_all := lw_in 1371 rfl rfl
set_option maxRecDepth 20000 in
theorem q1372 : Cond.code yJ4_length_8abf5 cJ4_length_8abf5 1 (some .int) ∈ lw_all := lw_in 1372 rfl rfl
set_option maxRecDepth 20000 in
theorem q1373 : Cond.methodLink RJ4 343 yJ5_length_8abf5 ∈ lw_all := lw_in 1373 rfl rfl
set_option maxRecDepth 20000 in
theorem q1374 : Cond.code yJ5_length_8abf5 cJ5_length_8abf5 1 (some .int) ∈ lw_all := lw_in 1374 rfl rfl
set_option maxRecDepth 20000 in
theorem q1375 : Cond.methodLink RJ0 1047 yJ5_isLatin1_aae02 ∈ lw_all := lw_in 1375 rfl rfl
set_option maxRecDepth 20000 in
theorem q1376 : Cond.methodLink RJ0 54 yJ7_copyOfRange_39247 ∈ lw_all := lw_in 1376 rfl rfl
set_option maxRecDepth 20000 in
theorem q1377 : Cond.static yJ7_copyOfRange_39247 ∈ lw_all := lw_in 1377 rfl rfl
set_option maxRecDepth 20000 in
theorem q1378 : Cond.code yJ7_copyOfRange_39247 cJ7_copyOfRange_39247 3 (some (.array .byte)) ∈ lw_all := lw_in 1378 rfl rfl
set_option maxRecDepth 20000 in
theorem q1379 : Cond.methodLink RJ7 339 yJ7_copyOfRangeByte_39247 ∈ lw_all := lw_in 1379 rfl rfl
set_option maxRecDepth 20000 in
theorem q1380 : Cond.static yJ7_copyOfRangeByte_39247 ∈ lw_all := lw_in 1380 rfl rfl
set_option maxRecDepth 20000 in
theorem q1381 : Cond.code yJ7_copyOfRangeByte_39247 cJ7_copyOfRangeByte_39247 5 (some (.array .byte)) ∈ lw_all := lw_in 1381 rfl rfl
set_option maxRecDepth 20000 in
theorem q1382 : Cond.methodLink RJ7 343 yJ7_checkLength_df160 ∈ lw_all := lw_in 1382 rfl rfl
set_option maxRecDepth 20000 in
theorem q1383 : Cond.static yJ7_checkLength_df160 ∈ lw_all := lw_in 1383 rfl rfl
set_option maxRecDepth 20000 in
theorem q1384 : Cond.code yJ7_checkLength_df160 cJ7_checkLength_df160 2 none ∈ lw_all := lw_in 1384 rfl rfl
set_option maxRecDepth 20000 in
theorem q1385 : Cond.classLink RJ7 43 "java/lang/IllegalArgumentException" ∈ lw_all := lw_in 1385 rfl rfl
set_option maxRecDepth 20000 in
theorem q1386 : Cond.classLink RJ7 45 RJ4 ∈ lw_all := lw_in 1386 rfl rfl
set_option maxRecDepth 20000 in
theorem q1387 : Cond.methodLink RJ7 47 yJ4_init_da8c8 ∈ lw_all := lw_in 1387 rfl rfl
set_option maxRecDepth 20000 in
theorem q1388 : Cond.methodLink RJ7 54 yJ4_append_bf812 ∈ lw_all := lw_in 1388 rfl rfl
set_option maxRecDepth 20000 in
theorem q1390 : Cond.methodLink RJ7 50 yJ4_append_15ec4 ∈ lw_all := lw_in 1390 rfl rfl
set_option maxRecDepth 20000 in
theorem q1391 : Cond.methodLink RJ7 61 yJ4_toString_0e30d ∈ lw_all := lw_in 1391 rfl rfl
set_option maxRecDepth 20000 in
theorem q1392 : Cond.methodLink RJ7 65 ⟨"java/lang/IllegalArgumentException", "<init>", "(Ljava/lang/String;)V"⟩ ∈ lw_all := lw_in 1392 rfl rfl
set_option maxRecDepth 20000 in
theorem q1393 : Cond.methodLink RJ0 1051 yJ2_compress_39247 ∈ lw_all := lw_in 1393 rfl rfl
set_option maxRecDepth 20000 in
theorem q1394 : Cond.static yJ2_compress_39247 ∈ lw_all := lw_in 1394 rfl rfl
set_option maxRecDepth 20000 in
theorem q1395 : Cond.code yJ2_compress_39247 cJ2_compress_39247 6 (some (.array .byte)) ∈ lw_all := lw_in 1395 rfl rfl
set_option maxRecDepth 20000 in
theorem q1396 : Cond.methodLink RJ2 123 yJ2_compress_5af95 ∈ lw_all := lw_in 1396 rfl rfl
set_option maxRecDepth 20000 in
theorem q1397 : Cond.static yJ2_compress_5af95 ∈ lw_all := lw_in 1397 rfl rfl
set_option maxRecDepth 20000 in
theorem q1398 : Cond.code yJ2_compress_5af95 cJ2_compress_5af95 7 (some .int) ∈ lw_all := lw_in 1398 rfl rfl
set_option maxRecDepth 20000 in
theorem q1399 : Cond.methodLink RJ2 126 yJ7_copyOfRange_39247 ∈ lw_all := lw_in 1399 rfl rfl
set_option maxRecDepth 20000 in
theorem q1400 : Cond.methodLink RJ0 47 yJ2_coderFromArrayLen_85cad ∈ lw_all := lw_in 1400 rfl rfl
set_option maxRecDepth 20000 in
theorem q1401 : Cond.static yJ2_coderFromArrayLen_85cad ∈ lw_all := lw_in 1401 rfl rfl
set_option maxRecDepth 20000 in
theorem q1402 : Cond.code yJ2_coderFromArrayLen_85cad cJ2_coderFromArrayLen_85cad 2 (some .byte) ∈ lw_all := lw_in 1402 rfl rfl
set_option maxRecDepth 20000 in
theorem q1403 : Cond.fieldLink RJ0 9 "java/lang/String" "value" "[B" ∈ lw_all := lw_in 1403 rfl rfl
set_option maxRecDepth 20000 in
theorem q1404 : Cond.fieldLink RJ0 15 "java/lang/String" "coder" "B" ∈ lw_all := lw_in 1404 rfl rfl
set_option maxRecDepth 20000 in
theorem q1417 : Cond.methodLink RL 270 yL_reads ∈ lw_all := lw_in 1417 rfl rfl
set_option maxRecDepth 20000 in
theorem q1418 : Cond.static yL_reads ∈ lw_all := lw_in 1418 rfl rfl
set_option maxRecDepth 20000 in
theorem q1419 : Cond.code yL_reads cL_reads 3 (some .int) ∈ lw_all := lw_in 1419 rfl rfl
set_option maxRecDepth 20000 in
theorem q1420 : Cond.methodLink RL 129 yJ0_length_8abf5 ∈ lw_all := lw_in 1420 rfl rfl
set_option maxRecDepth 20000 in
theorem q1421 : Cond.methodLink RL 134 yJ0_charAt_5068e ∈ lw_all := lw_in 1421 rfl rfl
set_option maxRecDepth 20000 in
theorem q1422 : Cond.methodLink RL 305 yL_refused ∈ lw_all := lw_in 1422 rfl rfl
set_option maxRecDepth 20000 in
theorem q1423 : Cond.static yL_refused ∈ lw_all := lw_in 1423 rfl rfl
set_option maxRecDepth 20000 in
theorem q1424 : Cond.code yL_refused cL_refused 8 (some .boolean) ∈ lw_all := lw_in 1424 rfl rfl
set_option maxRecDepth 20000 in
theorem q1429 : Cond.methodLink RL 313 Lib.Math.min.name ∈ lw_all := lw_in 1429 rfl rfl
set_option maxRecDepth 20000 in
theorem q1430 : Cond.arrayClass .long ∈ lw_all := lw_in 1430 rfl rfl
theorem hdV_J0_charAt_5068e : yJ0_charAt_5068e.cls = RJ0 ∧ yJ0_charAt_5068e.cls ≠ "java/lang/invoke/MethodHandle" ∧ yJ0_charAt_5068e.cls ≠ "java/lang/invoke/VarHandle" ∧ (parseMethodDescriptor yJ0_charAt_5068e.desc).map (fun d => d.parameters.length) = some 1 := by decide +kernel
theorem hdS_J0_checkBoundsBeginEnd_23922 : yJ0_checkBoundsBeginEnd_23922.cls ≠ "java/lang/invoke/MethodHandle" ∧ yJ0_checkBoundsBeginEnd_23922.cls ≠ "java/lang/invoke/VarHandle" ∧ (parseMethodDescriptor yJ0_checkBoundsBeginEnd_23922.desc).map (fun d => d.parameters.length) = some 3 := by decide +kernel
theorem hdS_J0_checkBoundsOffCount_cabcc : yJ0_checkBoundsOffCount_cabcc.cls ≠ "java/lang/invoke/MethodHandle" ∧ yJ0_checkBoundsOffCount_cabcc.cls ≠ "java/lang/invoke/VarHandle" ∧ (parseMethodDescriptor yJ0_checkBoundsOffCount_cabcc.desc).map (fun d => d.parameters.length) = some 3 := by decide +kernel
theorem hdS_J0_checkIndex_df160 : yJ0_checkIndex_df160.cls ≠ "java/lang/invoke/MethodHandle" ∧ yJ0_checkIndex_df160.cls ≠ "java/lang/invoke/VarHandle" ∧ (parseMethodDescriptor yJ0_checkIndex_df160.desc).map (fun d => d.parameters.length) = some 2 := by decide +kernel
theorem hdV_J0_coder_7d493 : yJ0_coder_7d493.cls = RJ0 ∧ yJ0_coder_7d493.cls ≠ "java/lang/invoke/MethodHandle" ∧ yJ0_coder_7d493.cls ≠ "java/lang/invoke/VarHandle" ∧ (parseMethodDescriptor yJ0_coder_7d493.desc).map (fun d => d.parameters.length) = some 0 := by decide +kernel
theorem hdV_J0_getBytes_840e7 : yJ0_getBytes_840e7.cls = RJ0 ∧ yJ0_getBytes_840e7.cls ≠ "java/lang/invoke/MethodHandle" ∧ yJ0_getBytes_840e7.cls ≠ "java/lang/invoke/VarHandle" ∧ (parseMethodDescriptor yJ0_getBytes_840e7.desc).map (fun d => d.parameters.length) = some 3 := by decide +kernel
theorem hdV_J0_isEmpty_aae02 : yJ0_isEmpty_aae02.cls = RJ0 ∧ yJ0_isEmpty_aae02.cls ≠ "java/lang/invoke/MethodHandle" ∧ yJ0_isEmpty_aae02.cls ≠ "java/lang/invoke/VarHandle" ∧ (parseMethodDescriptor yJ0_isEmpty_aae02.desc).map (fun d => d.parameters.length) = some 0 := by decide +kernel
theorem hdV_J0_isLatin1_aae02 : yJ0_isLatin1_aae02.cls = RJ0 ∧ yJ0_isLatin1_aae02.cls ≠ "java/lang/invoke/MethodHandle" ∧ yJ0_isLatin1_aae02.cls ≠ "java/lang/invoke/VarHandle" ∧ (parseMethodDescriptor yJ0_isLatin1_aae02.desc).map (fun d => d.parameters.length) = some 0 := by decide +kernel
theorem hdV_J0_length_8abf5 : yJ0_length_8abf5.cls = RJ0 ∧ yJ0_length_8abf5.cls ≠ "java/lang/invoke/MethodHandle" ∧ yJ0_length_8abf5.cls ≠ "java/lang/invoke/VarHandle" ∧ (parseMethodDescriptor yJ0_length_8abf5.desc).map (fun d => d.parameters.length) = some 0 := by decide +kernel
theorem hdS_J1_charAt_3b067 : yJ1_charAt_3b067.cls ≠ "java/lang/invoke/MethodHandle" ∧ yJ1_charAt_3b067.cls ≠ "java/lang/invoke/VarHandle" ∧ (parseMethodDescriptor yJ1_charAt_3b067.desc).map (fun d => d.parameters.length) = some 2 := by decide +kernel
theorem hdS_J1_inflate_0e8fd : yJ1_inflate_0e8fd.cls ≠ "java/lang/invoke/MethodHandle" ∧ yJ1_inflate_0e8fd.cls ≠ "java/lang/invoke/VarHandle" ∧ (parseMethodDescriptor yJ1_inflate_0e8fd.desc).map (fun d => d.parameters.length) = some 5 := by decide +kernel
theorem hdS_J2_charAt_3b067 : yJ2_charAt_3b067.cls ≠ "java/lang/invoke/MethodHandle" ∧ yJ2_charAt_3b067.cls ≠ "java/lang/invoke/VarHandle" ∧ (parseMethodDescriptor yJ2_charAt_3b067.desc).map (fun d => d.parameters.length) = some 2 := by decide +kernel
theorem hdS_J2_checkBoundsBeginEnd_d044e : yJ2_checkBoundsBeginEnd_d044e.cls ≠ "java/lang/invoke/MethodHandle" ∧ yJ2_checkBoundsBeginEnd_d044e.cls ≠ "java/lang/invoke/VarHandle" ∧ (parseMethodDescriptor yJ2_checkBoundsBeginEnd_d044e.desc).map (fun d => d.parameters.length) = some 3 := by decide +kernel
theorem hdS_J2_checkBoundsOffCount_d044e : yJ2_checkBoundsOffCount_d044e.cls ≠ "java/lang/invoke/MethodHandle" ∧ yJ2_checkBoundsOffCount_d044e.cls ≠ "java/lang/invoke/VarHandle" ∧ (parseMethodDescriptor yJ2_checkBoundsOffCount_d044e.desc).map (fun d => d.parameters.length) = some 3 := by decide +kernel
theorem hdS_J2_checkIndex_2214a : yJ2_checkIndex_2214a.cls ≠ "java/lang/invoke/MethodHandle" ∧ yJ2_checkIndex_2214a.cls ≠ "java/lang/invoke/VarHandle" ∧ (parseMethodDescriptor yJ2_checkIndex_2214a.desc).map (fun d => d.parameters.length) = some 2 := by decide +kernel
theorem hdS_J2_coderFromArrayLen_85cad : yJ2_coderFromArrayLen_85cad.cls ≠ "java/lang/invoke/MethodHandle" ∧ yJ2_coderFromArrayLen_85cad.cls ≠ "java/lang/invoke/VarHandle" ∧ (parseMethodDescriptor yJ2_coderFromArrayLen_85cad.desc).map (fun d => d.parameters.length) = some 2 := by decide +kernel
theorem hdS_J2_compress_39247 : yJ2_compress_39247.cls ≠ "java/lang/invoke/MethodHandle" ∧ yJ2_compress_39247.cls ≠ "java/lang/invoke/VarHandle" ∧ (parseMethodDescriptor yJ2_compress_39247.desc).map (fun d => d.parameters.length) = some 3 := by decide +kernel
theorem hdS_J2_compress_5af95 : yJ2_compress_5af95.cls ≠ "java/lang/invoke/MethodHandle" ∧ yJ2_compress_5af95.cls ≠ "java/lang/invoke/VarHandle" ∧ (parseMethodDescriptor yJ2_compress_5af95.desc).map (fun d => d.parameters.length) = some 5 := by decide +kernel
theorem hdS_J2_getChar_3b067 : yJ2_getChar_3b067.cls ≠ "java/lang/invoke/MethodHandle" ∧ yJ2_getChar_3b067.cls ≠ "java/lang/invoke/VarHandle" ∧ (parseMethodDescriptor yJ2_getChar_3b067.desc).map (fun d => d.parameters.length) = some 2 := by decide +kernel
theorem hdS_J2_getChars_46870 : yJ2_getChars_46870.cls ≠ "java/lang/invoke/MethodHandle" ∧ yJ2_getChars_46870.cls ≠ "java/lang/invoke/VarHandle" ∧ (parseMethodDescriptor yJ2_getChars_46870.desc).map (fun d => d.parameters.length) = some 4 := by decide +kernel
theorem hdS_J2_getChars_ba4f3 : yJ2_getChars_ba4f3.cls ≠ "java/lang/invoke/MethodHandle" ∧ yJ2_getChars_ba4f3.cls ≠ "java/lang/invoke/VarHandle" ∧ (parseMethodDescriptor yJ2_getChars_ba4f3.desc).map (fun d => d.parameters.length) = some 3 := by decide +kernel
theorem hdS_J2_inflate_0e8fd : yJ2_inflate_0e8fd.cls ≠ "java/lang/invoke/MethodHandle" ∧ yJ2_inflate_0e8fd.cls ≠ "java/lang/invoke/VarHandle" ∧ (parseMethodDescriptor yJ2_inflate_0e8fd.desc).map (fun d => d.parameters.length) = some 5 := by decide +kernel
theorem hdS_J2_length_9d52b : yJ2_length_9d52b.cls ≠ "java/lang/invoke/MethodHandle" ∧ yJ2_length_9d52b.cls ≠ "java/lang/invoke/VarHandle" ∧ (parseMethodDescriptor yJ2_length_9d52b.desc).map (fun d => d.parameters.length) = some 1 := by decide +kernel
theorem hdS_J2_newBytesFor_77867 : yJ2_newBytesFor_77867.cls ≠ "java/lang/invoke/MethodHandle" ∧ yJ2_newBytesFor_77867.cls ≠ "java/lang/invoke/VarHandle" ∧ (parseMethodDescriptor yJ2_newBytesFor_77867.desc).map (fun d => d.parameters.length) = some 1 := by decide +kernel
theorem hdS_J2_newBytesLength_0f7a4 : yJ2_newBytesLength_0f7a4.cls ≠ "java/lang/invoke/MethodHandle" ∧ yJ2_newBytesLength_0f7a4.cls ≠ "java/lang/invoke/VarHandle" ∧ (parseMethodDescriptor yJ2_newBytesLength_0f7a4.desc).map (fun d => d.parameters.length) = some 1 := by decide +kernel
theorem hdS_J2_putChar_b72d1 : yJ2_putChar_b72d1.cls ≠ "java/lang/invoke/MethodHandle" ∧ yJ2_putChar_b72d1.cls ≠ "java/lang/invoke/VarHandle" ∧ (parseMethodDescriptor yJ2_putChar_b72d1.desc).map (fun d => d.parameters.length) = some 3 := by decide +kernel
theorem hdS_J2_putCharsAt_cd4e5 : yJ2_putCharsAt_cd4e5.cls ≠ "java/lang/invoke/MethodHandle" ∧ yJ2_putCharsAt_cd4e5.cls ≠ "java/lang/invoke/VarHandle" ∧ (parseMethodDescriptor yJ2_putCharsAt_cd4e5.desc).map (fun d => d.parameters.length) = some 6 := by decide +kernel
theorem hdS_J3_checkFromIndexSize_8c36e : yJ3_checkFromIndexSize_8c36e.cls ≠ "java/lang/invoke/MethodHandle" ∧ yJ3_checkFromIndexSize_8c36e.cls ≠ "java/lang/invoke/VarHandle" ∧ (parseMethodDescriptor yJ3_checkFromIndexSize_8c36e.desc).map (fun d => d.parameters.length) = some 4 := by decide +kernel
theorem hdS_J3_checkFromToIndex_8c36e : yJ3_checkFromToIndex_8c36e.cls ≠ "java/lang/invoke/MethodHandle" ∧ yJ3_checkFromToIndex_8c36e.cls ≠ "java/lang/invoke/VarHandle" ∧ (parseMethodDescriptor yJ3_checkFromToIndex_8c36e.desc).map (fun d => d.parameters.length) = some 4 := by decide +kernel
theorem hdS_J3_checkIndex_8e157 : yJ3_checkIndex_8e157.cls ≠ "java/lang/invoke/MethodHandle" ∧ yJ3_checkIndex_8e157.cls ≠ "java/lang/invoke/VarHandle" ∧ (parseMethodDescriptor yJ3_checkIndex_8e157.desc).map (fun d => d.parameters.length) = some 3 := by decide +kernel
theorem hdV_J4_append_15ec4 : yJ4_append_15ec4.cls = RJ4 ∧ yJ4_append_15ec4.cls ≠ "java/lang/invoke/MethodHandle" ∧ yJ4_append_15ec4.cls ≠ "java/lang/invoke/VarHandle" ∧ (parseMethodDescriptor yJ4_append_15ec4.desc).map (fun d => d.parameters.length) = some 1 := by decide +kernel
theorem hdV_J4_append_bf812 : yJ4_append_bf812.cls = RJ4 ∧ yJ4_append_bf812.cls ≠ "java/lang/invoke/MethodHandle" ∧ yJ4_append_bf812.cls ≠ "java/lang/invoke/VarHandle" ∧ (parseMethodDescriptor yJ4_append_bf812.desc).map (fun d => d.parameters.length) = some 1 := by decide +kernel
theorem hdV_J4_length_8abf5 : yJ4_length_8abf5.cls = RJ4 ∧ yJ4_length_8abf5.cls ≠ "java/lang/invoke/MethodHandle" ∧ yJ4_length_8abf5.cls ≠ "java/lang/invoke/VarHandle" ∧ (parseMethodDescriptor yJ4_length_8abf5.desc).map (fun d => d.parameters.length) = some 0 := by decide +kernel
theorem hdV_J4_toString_0e30d : yJ4_toString_0e30d.cls = RJ4 ∧ yJ4_toString_0e30d.cls ≠ "java/lang/invoke/MethodHandle" ∧ yJ4_toString_0e30d.cls ≠ "java/lang/invoke/VarHandle" ∧ (parseMethodDescriptor yJ4_toString_0e30d.desc).map (fun d => d.parameters.length) = some 0 := by decide +kernel
theorem hdV_J5_appendNull_278bc : yJ5_appendNull_278bc.cls = RJ5 ∧ yJ5_appendNull_278bc.cls ≠ "java/lang/invoke/MethodHandle" ∧ yJ5_appendNull_278bc.cls ≠ "java/lang/invoke/VarHandle" ∧ (parseMethodDescriptor yJ5_appendNull_278bc.desc).map (fun d => d.parameters.length) = some 0 := by decide +kernel
theorem hdV_J5_append_c97b9 : yJ5_append_c97b9.cls = RJ5 ∧ yJ5_append_c97b9.cls ≠ "java/lang/invoke/MethodHandle" ∧ yJ5_append_c97b9.cls ≠ "java/lang/invoke/VarHandle" ∧ (parseMethodDescriptor yJ5_append_c97b9.desc).map (fun d => d.parameters.length) = some 1 := by decide +kernel
theorem hdV_J5_append_cf1ce : yJ5_append_cf1ce.cls = RJ5 ∧ yJ5_append_cf1ce.cls ≠ "java/lang/invoke/MethodHandle" ∧ yJ5_append_cf1ce.cls ≠ "java/lang/invoke/VarHandle" ∧ (parseMethodDescriptor yJ5_append_cf1ce.desc).map (fun d => d.parameters.length) = some 1 := by decide +kernel
theorem hdV_J5_ensureCapacityInternal_d00df : yJ5_ensureCapacityInternal_d00df.cls = RJ5 ∧ yJ5_ensureCapacityInternal_d00df.cls ≠ "java/lang/invoke/MethodHandle" ∧ yJ5_ensureCapacityInternal_d00df.cls ≠ "java/lang/invoke/VarHandle" ∧ (parseMethodDescriptor yJ5_ensureCapacityInternal_d00df.desc).map (fun d => d.parameters.length) = some 1 := by decide +kernel
theorem hdV_J5_getValue_6d5f1 : yJ5_getValue_6d5f1.cls = RJ5 ∧ yJ5_getValue_6d5f1.cls ≠ "java/lang/invoke/MethodHandle" ∧ yJ5_getValue_6d5f1.cls ≠ "java/lang/invoke/VarHandle" ∧ (parseMethodDescriptor yJ5_getValue_6d5f1.desc).map (fun d => d.parameters.length) = some 0 := by decide +kernel
theorem hdV_J5_inflateIfNeededFor_a7421 : yJ5_inflateIfNeededFor_a7421.cls = RJ5 ∧ yJ5_inflateIfNeededFor_a7421.cls ≠ "java/lang/invoke/MethodHandle" ∧ yJ5_inflateIfNeededFor_a7421.cls ≠ "java/lang/invoke/VarHandle" ∧ (parseMethodDescriptor yJ5_inflateIfNeededFor_a7421.desc).map (fun d => d.parameters.length) = some 1 := by decide +kernel
theorem hdV_J5_inflate_da8c8 : yJ5_inflate_da8c8.cls = RJ5 ∧ yJ5_inflate_da8c8.cls ≠ "java/lang/invoke/MethodHandle" ∧ yJ5_inflate_da8c8.cls ≠ "java/lang/invoke/VarHandle" ∧ (parseMethodDescriptor yJ5_inflate_da8c8.desc).map (fun d => d.parameters.length) = some 0 := by decide +kernel
theorem hdV_J5_isLatin1_aae02 : yJ5_isLatin1_aae02.cls = RJ5 ∧ yJ5_isLatin1_aae02.cls ≠ "java/lang/invoke/MethodHandle" ∧ yJ5_isLatin1_aae02.cls ≠ "java/lang/invoke/VarHandle" ∧ (parseMethodDescriptor yJ5_isLatin1_aae02.desc).map (fun d => d.parameters.length) = some 0 := by decide +kernel
theorem hdV_J5_length_8abf5 : yJ5_length_8abf5.cls = RJ5 ∧ yJ5_length_8abf5.cls ≠ "java/lang/invoke/MethodHandle" ∧ yJ5_length_8abf5.cls ≠ "java/lang/invoke/VarHandle" ∧ (parseMethodDescriptor yJ5_length_8abf5.desc).map (fun d => d.parameters.length) = some 0 := by decide +kernel
theorem hdV_J5_newCapacity_0f7a4 : yJ5_newCapacity_0f7a4.cls = RJ5 ∧ yJ5_newCapacity_0f7a4.cls ≠ "java/lang/invoke/MethodHandle" ∧ yJ5_newCapacity_0f7a4.cls ≠ "java/lang/invoke/VarHandle" ∧ (parseMethodDescriptor yJ5_newCapacity_0f7a4.desc).map (fun d => d.parameters.length) = some 1 := by decide +kernel
theorem hdV_J5_putStringAt_47b60 : yJ5_putStringAt_47b60.cls = RJ5 ∧ yJ5_putStringAt_47b60.cls ≠ "java/lang/invoke/MethodHandle" ∧ yJ5_putStringAt_47b60.cls ≠ "java/lang/invoke/VarHandle" ∧ (parseMethodDescriptor yJ5_putStringAt_47b60.desc).map (fun d => d.parameters.length) = some 2 := by decide +kernel
theorem hdS_J6_bitCount_0f7a4 : yJ6_bitCount_0f7a4.cls ≠ "java/lang/invoke/MethodHandle" ∧ yJ6_bitCount_0f7a4.cls ≠ "java/lang/invoke/VarHandle" ∧ (parseMethodDescriptor yJ6_bitCount_0f7a4.desc).map (fun d => d.parameters.length) = some 1 := by decide +kernel
theorem hdS_J6_getChars_ba4f3 : yJ6_getChars_ba4f3.cls ≠ "java/lang/invoke/MethodHandle" ∧ yJ6_getChars_ba4f3.cls ≠ "java/lang/invoke/VarHandle" ∧ (parseMethodDescriptor yJ6_getChars_ba4f3.desc).map (fun d => d.parameters.length) = some 3 := by decide +kernel
theorem hdS_J6_stringSize_0f7a4 : yJ6_stringSize_0f7a4.cls ≠ "java/lang/invoke/MethodHandle" ∧ yJ6_stringSize_0f7a4.cls ≠ "java/lang/invoke/VarHandle" ∧ (parseMethodDescriptor yJ6_stringSize_0f7a4.desc).map (fun d => d.parameters.length) = some 1 := by decide +kernel
theorem hdS_J7_checkLength_df160 : yJ7_checkLength_df160.cls ≠ "java/lang/invoke/MethodHandle" ∧ yJ7_checkLength_df160.cls ≠ "java/lang/invoke/VarHandle" ∧ (parseMethodDescriptor yJ7_checkLength_df160.desc).map (fun d => d.parameters.length) = some 2 := by decide +kernel
theorem hdS_J7_copyOfRangeByte_39247 : yJ7_copyOfRangeByte_39247.cls ≠ "java/lang/invoke/MethodHandle" ∧ yJ7_copyOfRangeByte_39247.cls ≠ "java/lang/invoke/VarHandle" ∧ (parseMethodDescriptor yJ7_copyOfRangeByte_39247.desc).map (fun d => d.parameters.length) = some 3 := by decide +kernel
theorem hdS_J7_copyOfRange_39247 : yJ7_copyOfRange_39247.cls ≠ "java/lang/invoke/MethodHandle" ∧ yJ7_copyOfRange_39247.cls ≠ "java/lang/invoke/VarHandle" ∧ (parseMethodDescriptor yJ7_copyOfRange_39247.desc).map (fun d => d.parameters.length) = some 3 := by decide +kernel
theorem hdS_J7_copyOf_9075b : yJ7_copyOf_9075b.cls ≠ "java/lang/invoke/MethodHandle" ∧ yJ7_copyOf_9075b.cls ≠ "java/lang/invoke/VarHandle" ∧ (parseMethodDescriptor yJ7_copyOf_9075b.desc).map (fun d => d.parameters.length) = some 2 := by decide +kernel
theorem hdS_J8_hugeLength_7cf53 : yJ8_hugeLength_7cf53.cls ≠ "java/lang/invoke/MethodHandle" ∧ yJ8_hugeLength_7cf53.cls ≠ "java/lang/invoke/VarHandle" ∧ (parseMethodDescriptor yJ8_hugeLength_7cf53.desc).map (fun d => d.parameters.length) = some 2 := by decide +kernel
theorem hdS_J8_newLength_cabcc : yJ8_newLength_cabcc.cls ≠ "java/lang/invoke/MethodHandle" ∧ yJ8_newLength_cabcc.cls ≠ "java/lang/invoke/VarHandle" ∧ (parseMethodDescriptor yJ8_newLength_cabcc.desc).map (fun d => d.parameters.length) = some 3 := by decide +kernel
theorem hdS_J9_abs_0f7a4 : yJ9_abs_0f7a4.cls ≠ "java/lang/invoke/MethodHandle" ∧ yJ9_abs_0f7a4.cls ≠ "java/lang/invoke/VarHandle" ∧ (parseMethodDescriptor yJ9_abs_0f7a4.desc).map (fun d => d.parameters.length) = some 1 := by decide +kernel
theorem hdS_J9_max_7cf53 : yJ9_max_7cf53.cls ≠ "java/lang/invoke/MethodHandle" ∧ yJ9_max_7cf53.cls ≠ "java/lang/invoke/VarHandle" ∧ (parseMethodDescriptor yJ9_max_7cf53.desc).map (fun d => d.parameters.length) = some 2 := by decide +kernel
theorem hdS_J9_min_7cf53 : yJ9_min_7cf53.cls ≠ "java/lang/invoke/MethodHandle" ∧ yJ9_min_7cf53.cls ≠ "java/lang/invoke/VarHandle" ∧ (parseMethodDescriptor yJ9_min_7cf53.desc).map (fun d => d.parameters.length) = some 2 := by decide +kernel
theorem hdS_Jxe99ae_doubleToLongBits_ccdee : yJxe99ae_doubleToLongBits_ccdee.cls ≠ "java/lang/invoke/MethodHandle" ∧ yJxe99ae_doubleToLongBits_ccdee.cls ≠ "java/lang/invoke/VarHandle" ∧ (parseMethodDescriptor yJxe99ae_doubleToLongBits_ccdee.desc).map (fun d => d.parameters.length) = some 1 := by decide +kernel
theorem hdS_Jxe99ae_isNaN_b9ae7 : yJxe99ae_isNaN_b9ae7.cls ≠ "java/lang/invoke/MethodHandle" ∧ yJxe99ae_isNaN_b9ae7.cls ≠ "java/lang/invoke/VarHandle" ∧ (parseMethodDescriptor yJxe99ae_isNaN_b9ae7.desc).map (fun d => d.parameters.length) = some 1 := by decide +kernel
theorem hdS_Jxf58ca_floatToIntBits_5c35a : yJxf58ca_floatToIntBits_5c35a.cls ≠ "java/lang/invoke/MethodHandle" ∧ yJxf58ca_floatToIntBits_5c35a.cls ≠ "java/lang/invoke/VarHandle" ∧ (parseMethodDescriptor yJxf58ca_floatToIntBits_5c35a.desc).map (fun d => d.parameters.length) = some 1 := by decide +kernel
theorem hdS_Jxf58ca_isNaN_12338 : yJxf58ca_isNaN_12338.cls ≠ "java/lang/invoke/MethodHandle" ∧ yJxf58ca_isNaN_12338.cls ≠ "java/lang/invoke/VarHandle" ∧ (parseMethodDescriptor yJxf58ca_isNaN_12338.desc).map (fun d => d.parameters.length) = some 1 := by decide +kernel
theorem hdS_L_account : yL_account.cls ≠ "java/lang/invoke/MethodHandle" ∧ yL_account.cls ≠ "java/lang/invoke/VarHandle" ∧ (parseMethodDescriptor yL_account.desc).map (fun d => d.parameters.length) = some 2 := by decide +kernel
theorem hdS_L_amount : yL_amount.cls ≠ "java/lang/invoke/MethodHandle" ∧ yL_amount.cls ≠ "java/lang/invoke/VarHandle" ∧ (parseMethodDescriptor yL_amount.desc).map (fun d => d.parameters.length) = some 3 := by decide +kernel
theorem hdS_L_append : yL_append.cls ≠ "java/lang/invoke/MethodHandle" ∧ yL_append.cls ≠ "java/lang/invoke/VarHandle" ∧ (parseMethodDescriptor yL_append.desc).map (fun d => d.parameters.length) = some 2 := by decide +kernel
theorem hdS_L_asks : yL_asks.cls ≠ "java/lang/invoke/MethodHandle" ∧ yL_asks.cls ≠ "java/lang/invoke/VarHandle" ∧ (parseMethodDescriptor yL_asks.desc).map (fun d => d.parameters.length) = some 1 := by decide +kernel
theorem hdS_L_at : yL_at.cls ≠ "java/lang/invoke/MethodHandle" ∧ yL_at.cls ≠ "java/lang/invoke/VarHandle" ∧ (parseMethodDescriptor yL_at.desc).map (fun d => d.parameters.length) = some 2 := by decide +kernel
theorem hdS_L_base : yL_base.cls ≠ "java/lang/invoke/MethodHandle" ∧ yL_base.cls ≠ "java/lang/invoke/VarHandle" ∧ (parseMethodDescriptor yL_base.desc).map (fun d => d.parameters.length) = some 3 := by decide +kernel
theorem hdS_L_baseAgain : yL_baseAgain.cls ≠ "java/lang/invoke/MethodHandle" ∧ yL_baseAgain.cls ≠ "java/lang/invoke/VarHandle" ∧ (parseMethodDescriptor yL_baseAgain.desc).map (fun d => d.parameters.length) = some 3 := by decide +kernel
theorem hdS_L_blame : yL_blame.cls ≠ "java/lang/invoke/MethodHandle" ∧ yL_blame.cls ≠ "java/lang/invoke/VarHandle" ∧ (parseMethodDescriptor yL_blame.desc).map (fun d => d.parameters.length) = some 3 := by decide +kernel
theorem hdS_L_bundle : yL_bundle.cls ≠ "java/lang/invoke/MethodHandle" ∧ yL_bundle.cls ≠ "java/lang/invoke/VarHandle" ∧ (parseMethodDescriptor yL_bundle.desc).map (fun d => d.parameters.length) = some 2 := by decide +kernel
theorem hdS_L_changes : yL_changes.cls ≠ "java/lang/invoke/MethodHandle" ∧ yL_changes.cls ≠ "java/lang/invoke/VarHandle" ∧ (parseMethodDescriptor yL_changes.desc).map (fun d => d.parameters.length) = some 2 := by decide +kernel
theorem hdS_L_character : yL_character.cls ≠ "java/lang/invoke/MethodHandle" ∧ yL_character.cls ≠ "java/lang/invoke/VarHandle" ∧ (parseMethodDescriptor yL_character.desc).map (fun d => d.parameters.length) = some 2 := by decide +kernel
theorem hdS_L_commitOf : yL_commitOf.cls ≠ "java/lang/invoke/MethodHandle" ∧ yL_commitOf.cls ≠ "java/lang/invoke/VarHandle" ∧ (parseMethodDescriptor yL_commitOf.desc).map (fun d => d.parameters.length) = some 3 := by decide +kernel
theorem hdS_L_conflicts : yL_conflicts.cls ≠ "java/lang/invoke/MethodHandle" ∧ yL_conflicts.cls ≠ "java/lang/invoke/VarHandle" ∧ (parseMethodDescriptor yL_conflicts.desc).map (fun d => d.parameters.length) = some 3 := by decide +kernel
theorem hdS_L_difference : yL_difference.cls ≠ "java/lang/invoke/MethodHandle" ∧ yL_difference.cls ≠ "java/lang/invoke/VarHandle" ∧ (parseMethodDescriptor yL_difference.desc).map (fun d => d.parameters.length) = some 3 := by decide +kernel
theorem hdS_L_edit : yL_edit.cls ≠ "java/lang/invoke/MethodHandle" ∧ yL_edit.cls ≠ "java/lang/invoke/VarHandle" ∧ (parseMethodDescriptor yL_edit.desc).map (fun d => d.parameters.length) = some 4 := by decide +kernel
theorem hdS_L_firstBad : yL_firstBad.cls ≠ "java/lang/invoke/MethodHandle" ∧ yL_firstBad.cls ≠ "java/lang/invoke/VarHandle" ∧ (parseMethodDescriptor yL_firstBad.desc).map (fun d => d.parameters.length) = some 4 := by decide +kernel
theorem hdS_L_fork : yL_fork.cls ≠ "java/lang/invoke/MethodHandle" ∧ yL_fork.cls ≠ "java/lang/invoke/VarHandle" ∧ (parseMethodDescriptor yL_fork.desc).map (fun d => d.parameters.length) = some 2 := by decide +kernel
theorem hdS_L_halve : yL_halve.cls ≠ "java/lang/invoke/MethodHandle" ∧ yL_halve.cls ≠ "java/lang/invoke/VarHandle" ∧ (parseMethodDescriptor yL_halve.desc).map (fun d => d.parameters.length) = some 5 := by decide +kernel
theorem hdS_L_in : yL_in.cls ≠ "java/lang/invoke/MethodHandle" ∧ yL_in.cls ≠ "java/lang/invoke/VarHandle" ∧ (parseMethodDescriptor yL_in.desc).map (fun d => d.parameters.length) = some 3 := by decide +kernel
theorem hdS_L_inBundle : yL_inBundle.cls ≠ "java/lang/invoke/MethodHandle" ∧ yL_inBundle.cls ≠ "java/lang/invoke/VarHandle" ∧ (parseMethodDescriptor yL_inBundle.desc).map (fun d => d.parameters.length) = some 2 := by decide +kernel
theorem hdS_L_is : yL_is.cls ≠ "java/lang/invoke/MethodHandle" ∧ yL_is.cls ≠ "java/lang/invoke/VarHandle" ∧ (parseMethodDescriptor yL_is.desc).map (fun d => d.parameters.length) = some 3 := by decide +kernel
theorem hdS_L_line : yL_line.cls ≠ "java/lang/invoke/MethodHandle" ∧ yL_line.cls ≠ "java/lang/invoke/VarHandle" ∧ (parseMethodDescriptor yL_line.desc).map (fun d => d.parameters.length) = some 2 := by decide +kernel
theorem hdS_L_makes : yL_makes.cls ≠ "java/lang/invoke/MethodHandle" ∧ yL_makes.cls ≠ "java/lang/invoke/VarHandle" ∧ (parseMethodDescriptor yL_makes.desc).map (fun d => d.parameters.length) = some 2 := by decide +kernel
theorem hdS_L_merge : yL_merge.cls ≠ "java/lang/invoke/MethodHandle" ∧ yL_merge.cls ≠ "java/lang/invoke/VarHandle" ∧ (parseMethodDescriptor yL_merge.desc).map (fun d => d.parameters.length) = some 4 := by decide +kernel
theorem hdS_L_onLine : yL_onLine.cls ≠ "java/lang/invoke/MethodHandle" ∧ yL_onLine.cls ≠ "java/lang/invoke/VarHandle" ∧ (parseMethodDescriptor yL_onLine.desc).map (fun d => d.parameters.length) = some 3 := by decide +kernel
theorem hdS_L_pick : yL_pick.cls ≠ "java/lang/invoke/MethodHandle" ∧ yL_pick.cls ≠ "java/lang/invoke/VarHandle" ∧ (parseMethodDescriptor yL_pick.desc).map (fun d => d.parameters.length) = some 4 := by decide +kernel
theorem hdS_L_play : yL_play.cls ≠ "java/lang/invoke/MethodHandle" ∧ yL_play.cls ≠ "java/lang/invoke/VarHandle" ∧ (parseMethodDescriptor yL_play.desc).map (fun d => d.parameters.length) = some 3 := by decide +kernel
theorem hdS_L_put : yL_put.cls ≠ "java/lang/invoke/MethodHandle" ∧ yL_put.cls ≠ "java/lang/invoke/VarHandle" ∧ (parseMethodDescriptor yL_put.desc).map (fun d => d.parameters.length) = some 3 := by decide +kernel
theorem hdS_L_read : yL_read.cls ≠ "java/lang/invoke/MethodHandle" ∧ yL_read.cls ≠ "java/lang/invoke/VarHandle" ∧ (parseMethodDescriptor yL_read.desc).map (fun d => d.parameters.length) = some 1 := by decide +kernel
theorem hdS_L_reads : yL_reads.cls ≠ "java/lang/invoke/MethodHandle" ∧ yL_reads.cls ≠ "java/lang/invoke/VarHandle" ∧ (parseMethodDescriptor yL_reads.desc).map (fun d => d.parameters.length) = some 2 := by decide +kernel
theorem hdS_L_refusal : yL_refusal.cls ≠ "java/lang/invoke/MethodHandle" ∧ yL_refusal.cls ≠ "java/lang/invoke/VarHandle" ∧ (parseMethodDescriptor yL_refusal.desc).map (fun d => d.parameters.length) = some 2 := by decide +kernel
theorem hdS_L_refused : yL_refused.cls ≠ "java/lang/invoke/MethodHandle" ∧ yL_refused.cls ≠ "java/lang/invoke/VarHandle" ∧ (parseMethodDescriptor yL_refused.desc).map (fun d => d.parameters.length) = some 1 := by decide +kernel
theorem hdS_L_reset : yL_reset.cls ≠ "java/lang/invoke/MethodHandle" ∧ yL_reset.cls ≠ "java/lang/invoke/VarHandle" ∧ (parseMethodDescriptor yL_reset.desc).map (fun d => d.parameters.length) = some 3 := by decide +kernel
theorem hdS_L_restore : yL_restore.cls ≠ "java/lang/invoke/MethodHandle" ∧ yL_restore.cls ≠ "java/lang/invoke/VarHandle" ∧ (parseMethodDescriptor yL_restore.desc).map (fun d => d.parameters.length) = some 1 := by decide +kernel
theorem hdS_L_revert : yL_revert.cls ≠ "java/lang/invoke/MethodHandle" ∧ yL_revert.cls ≠ "java/lang/invoke/VarHandle" ∧ (parseMethodDescriptor yL_revert.desc).map (fun d => d.parameters.length) = some 4 := by decide +kernel
theorem hdS_L_some : yL_some.cls ≠ "java/lang/invoke/MethodHandle" ∧ yL_some.cls ≠ "java/lang/invoke/VarHandle" ∧ (parseMethodDescriptor yL_some.desc).map (fun d => d.parameters.length) = some 2 := by decide +kernel
theorem hdS_L_taste : yL_taste.cls ≠ "java/lang/invoke/MethodHandle" ∧ yL_taste.cls ≠ "java/lang/invoke/VarHandle" ∧ (parseMethodDescriptor yL_taste.desc).map (fun d => d.parameters.length) = some 2 := by decide +kernel
theorem hdS_L_tasteBits : yL_tasteBits.cls ≠ "java/lang/invoke/MethodHandle" ∧ yL_tasteBits.cls ≠ "java/lang/invoke/VarHandle" ∧ (parseMethodDescriptor yL_tasteBits.desc).map (fun d => d.parameters.length) = some 2 := by decide +kernel
theorem hdS_L_tastiest : yL_tastiest.cls ≠ "java/lang/invoke/MethodHandle" ∧ yL_tastiest.cls ≠ "java/lang/invoke/VarHandle" ∧ (parseMethodDescriptor yL_tastiest.desc).map (fun d => d.parameters.length) = some 2 := by decide +kernel
theorem hdS_L_tip : yL_tip.cls ≠ "java/lang/invoke/MethodHandle" ∧ yL_tip.cls ≠ "java/lang/invoke/VarHandle" ∧ (parseMethodDescriptor yL_tip.desc).map (fun d => d.parameters.length) = some 2 := by decide +kernel
theorem hdS_L_undo : yL_undo.cls ≠ "java/lang/invoke/MethodHandle" ∧ yL_undo.cls ≠ "java/lang/invoke/VarHandle" ∧ (parseMethodDescriptor yL_undo.desc).map (fun d => d.parameters.length) = some 1 := by decide +kernel
theorem hdV_X0_conflictsBetween : yX0_conflictsBetween.cls = RX0 ∧ yX0_conflictsBetween.cls ≠ "java/lang/invoke/MethodHandle" ∧ yX0_conflictsBetween.cls ≠ "java/lang/invoke/VarHandle" ∧ (parseMethodDescriptor yX0_conflictsBetween.desc).map (fun d => d.parameters.length) = some 2 := by decide +kernel
theorem hdV_X0_isStopped : yX0_isStopped.cls = RX0 ∧ yX0_isStopped.cls ≠ "java/lang/invoke/MethodHandle" ∧ yX0_isStopped.cls ≠ "java/lang/invoke/VarHandle" ∧ (parseMethodDescriptor yX0_isStopped.desc).map (fun d => d.parameters.length) = some 1 := by decide +kernel
theorem hdV_X0_latestDetail : yX0_latestDetail.cls = RX0 ∧ yX0_latestDetail.cls ≠ "java/lang/invoke/MethodHandle" ∧ yX0_latestDetail.cls ≠ "java/lang/invoke/VarHandle" ∧ (parseMethodDescriptor yX0_latestDetail.desc).map (fun d => d.parameters.length) = some 0 := by decide +kernel
theorem hdV_X0_latestReason : yX0_latestReason.cls = RX0 ∧ yX0_latestReason.cls ≠ "java/lang/invoke/MethodHandle" ∧ yX0_latestReason.cls ≠ "java/lang/invoke/VarHandle" ∧ (parseMethodDescriptor yX0_latestReason.desc).map (fun d => d.parameters.length) = some 0 := by decide +kernel
theorem hdV_X0_pickChange : yX0_pickChange.cls = RX0 ∧ yX0_pickChange.cls ≠ "java/lang/invoke/MethodHandle" ∧ yX0_pickChange.cls ≠ "java/lang/invoke/VarHandle" ∧ (parseMethodDescriptor yX0_pickChange.desc).map (fun d => d.parameters.length) = some 4 := by decide +kernel
theorem hdV_X0_refuse : yX0_refuse.cls = RX0 ∧ yX0_refuse.cls ≠ "java/lang/invoke/MethodHandle" ∧ yX0_refuse.cls ≠ "java/lang/invoke/VarHandle" ∧ (parseMethodDescriptor yX0_refuse.desc).map (fun d => d.parameters.length) = some 2 := by decide +kernel
theorem hdV_X0_tryBundle : yX0_tryBundle.cls = RX0 ∧ yX0_tryBundle.cls ≠ "java/lang/invoke/MethodHandle" ∧ yX0_tryBundle.cls ≠ "java/lang/invoke/VarHandle" ∧ (parseMethodDescriptor yX0_tryBundle.desc).map (fun d => d.parameters.length) = some 1 := by decide +kernel
theorem hdV_X0_tryEdit : yX0_tryEdit.cls = RX0 ∧ yX0_tryEdit.cls ≠ "java/lang/invoke/MethodHandle" ∧ yX0_tryEdit.cls ≠ "java/lang/invoke/VarHandle" ∧ (parseMethodDescriptor yX0_tryEdit.desc).map (fun d => d.parameters.length) = some 3 := by decide +kernel
theorem hdV_X0_tryFork : yX0_tryFork.cls = RX0 ∧ yX0_tryFork.cls ≠ "java/lang/invoke/MethodHandle" ∧ yX0_tryFork.cls ≠ "java/lang/invoke/VarHandle" ∧ (parseMethodDescriptor yX0_tryFork.desc).map (fun d => d.parameters.length) = some 1 := by decide +kernel
theorem hdV_X0_tryMerge : yX0_tryMerge.cls = RX0 ∧ yX0_tryMerge.cls ≠ "java/lang/invoke/MethodHandle" ∧ yX0_tryMerge.cls ≠ "java/lang/invoke/VarHandle" ∧ (parseMethodDescriptor yX0_tryMerge.desc).map (fun d => d.parameters.length) = some 3 := by decide +kernel
theorem hdV_X0_tryPick : yX0_tryPick.cls = RX0 ∧ yX0_tryPick.cls ≠ "java/lang/invoke/MethodHandle" ∧ yX0_tryPick.cls ≠ "java/lang/invoke/VarHandle" ∧ (parseMethodDescriptor yX0_tryPick.desc).map (fun d => d.parameters.length) = some 3 := by decide +kernel
theorem hdV_X0_tryPlay : yX0_tryPlay.cls = RX0 ∧ yX0_tryPlay.cls ≠ "java/lang/invoke/MethodHandle" ∧ yX0_tryPlay.cls ≠ "java/lang/invoke/VarHandle" ∧ (parseMethodDescriptor yX0_tryPlay.desc).map (fun d => d.parameters.length) = some 2 := by decide +kernel
theorem hdV_X0_tryPut : yX0_tryPut.cls = RX0 ∧ yX0_tryPut.cls ≠ "java/lang/invoke/MethodHandle" ∧ yX0_tryPut.cls ≠ "java/lang/invoke/VarHandle" ∧ (parseMethodDescriptor yX0_tryPut.desc).map (fun d => d.parameters.length) = some 2 := by decide +kernel
theorem hdV_X0_tryReset : yX0_tryReset.cls = RX0 ∧ yX0_tryReset.cls ≠ "java/lang/invoke/MethodHandle" ∧ yX0_tryReset.cls ≠ "java/lang/invoke/VarHandle" ∧ (parseMethodDescriptor yX0_tryReset.desc).map (fun d => d.parameters.length) = some 2 := by decide +kernel
theorem hdV_X0_tryRevert : yX0_tryRevert.cls = RX0 ∧ yX0_tryRevert.cls ≠ "java/lang/invoke/MethodHandle" ∧ yX0_tryRevert.cls ≠ "java/lang/invoke/VarHandle" ∧ (parseMethodDescriptor yX0_tryRevert.desc).map (fun d => d.parameters.length) = some 3 := by decide +kernel
theorem hdV_X1_addBranch : yX1_addBranch.cls = RX1 ∧ yX1_addBranch.cls ≠ "java/lang/invoke/MethodHandle" ∧ yX1_addBranch.cls ≠ "java/lang/invoke/VarHandle" ∧ (parseMethodDescriptor yX1_addBranch.desc).map (fun d => d.parameters.length) = some 1 := by decide +kernel
theorem hdV_X1_addCommit : yX1_addCommit.cls = RX1 ∧ yX1_addCommit.cls ≠ "java/lang/invoke/MethodHandle" ∧ yX1_addCommit.cls ≠ "java/lang/invoke/VarHandle" ∧ (parseMethodDescriptor yX1_addCommit.desc).map (fun d => d.parameters.length) = some 4 := by decide +kernel
theorem hdV_X1_amountIn : yX1_amountIn.cls = RX1 ∧ yX1_amountIn.cls ≠ "java/lang/invoke/MethodHandle" ∧ yX1_amountIn.cls ≠ "java/lang/invoke/VarHandle" ∧ (parseMethodDescriptor yX1_amountIn.desc).map (fun d => d.parameters.length) = some 2 := by decide +kernel
theorem hdV_X1_areBasesSame : yX1_areBasesSame.cls = RX1 ∧ yX1_areBasesSame.cls ≠ "java/lang/invoke/MethodHandle" ∧ yX1_areBasesSame.cls ≠ "java/lang/invoke/VarHandle" ∧ (parseMethodDescriptor yX1_areBasesSame.desc).map (fun d => d.parameters.length) = some 1 := by decide +kernel
theorem hdV_X1_become : yX1_become.cls = RX1 ∧ yX1_become.cls ≠ "java/lang/invoke/MethodHandle" ∧ yX1_become.cls ≠ "java/lang/invoke/VarHandle" ∧ (parseMethodDescriptor yX1_become.desc).map (fun d => d.parameters.length) = some 1 := by decide +kernel
theorem hdV_X1_branchCount : yX1_branchCount.cls = RX1 ∧ yX1_branchCount.cls ≠ "java/lang/invoke/MethodHandle" ∧ yX1_branchCount.cls ≠ "java/lang/invoke/VarHandle" ∧ (parseMethodDescriptor yX1_branchCount.desc).map (fun d => d.parameters.length) = some 0 := by decide +kernel
theorem hdV_X1_bundleKind : yX1_bundleKind.cls = RX1 ∧ yX1_bundleKind.cls ≠ "java/lang/invoke/MethodHandle" ∧ yX1_bundleKind.cls ≠ "java/lang/invoke/VarHandle" ∧ (parseMethodDescriptor yX1_bundleKind.desc).map (fun d => d.parameters.length) = some 0 := by decide +kernel
theorem hdV_X1_bundledAt : yX1_bundledAt.cls = RX1 ∧ yX1_bundledAt.cls ≠ "java/lang/invoke/MethodHandle" ∧ yX1_bundledAt.cls ≠ "java/lang/invoke/VarHandle" ∧ (parseMethodDescriptor yX1_bundledAt.desc).map (fun d => d.parameters.length) = some 1 := by decide +kernel
theorem hdV_X1_bundledCount : yX1_bundledCount.cls = RX1 ∧ yX1_bundledCount.cls ≠ "java/lang/invoke/MethodHandle" ∧ yX1_bundledCount.cls ≠ "java/lang/invoke/VarHandle" ∧ (parseMethodDescriptor yX1_bundledCount.desc).map (fun d => d.parameters.length) = some 0 := by decide +kernel
theorem hdV_X1_changedIn : yX1_changedIn.cls = RX1 ∧ yX1_changedIn.cls ≠ "java/lang/invoke/MethodHandle" ∧ yX1_changedIn.cls ≠ "java/lang/invoke/VarHandle" ∧ (parseMethodDescriptor yX1_changedIn.desc).map (fun d => d.parameters.length) = some 1 := by decide +kernel
theorem hdV_X1_commitCount : yX1_commitCount.cls = RX1 ∧ yX1_commitCount.cls ≠ "java/lang/invoke/MethodHandle" ∧ yX1_commitCount.cls ≠ "java/lang/invoke/VarHandle" ∧ (parseMethodDescriptor yX1_commitCount.desc).map (fun d => d.parameters.length) = some 0 := by decide +kernel
theorem hdV_X1_commonGround : yX1_commonGround.cls = RX1 ∧ yX1_commonGround.cls ≠ "java/lang/invoke/MethodHandle" ∧ yX1_commonGround.cls ≠ "java/lang/invoke/VarHandle" ∧ (parseMethodDescriptor yX1_commonGround.desc).map (fun d => d.parameters.length) = some 2 := by decide +kernel
theorem hdV_X1_countKind : yX1_countKind.cls = RX1 ∧ yX1_countKind.cls ≠ "java/lang/invoke/MethodHandle" ∧ yX1_countKind.cls ≠ "java/lang/invoke/VarHandle" ∧ (parseMethodDescriptor yX1_countKind.desc).map (fun d => d.parameters.length) = some 1 := by decide +kernel
theorem hdV_X1_countLost : yX1_countLost.cls = RX1 ∧ yX1_countLost.cls ≠ "java/lang/invoke/MethodHandle" ∧ yX1_countLost.cls ≠ "java/lang/invoke/VarHandle" ∧ (parseMethodDescriptor yX1_countLost.desc).map (fun d => d.parameters.length) = some 0 := by decide +kernel
theorem hdV_X1_depthOf : yX1_depthOf.cls = RX1 ∧ yX1_depthOf.cls ≠ "java/lang/invoke/MethodHandle" ∧ yX1_depthOf.cls ≠ "java/lang/invoke/VarHandle" ∧ (parseMethodDescriptor yX1_depthOf.desc).map (fun d => d.parameters.length) = some 1 := by decide +kernel
theorem hdV_X1_familyOf : yX1_familyOf.cls = RX1 ∧ yX1_familyOf.cls ≠ "java/lang/invoke/MethodHandle" ∧ yX1_familyOf.cls ≠ "java/lang/invoke/VarHandle" ∧ (parseMethodDescriptor yX1_familyOf.desc).map (fun d => d.parameters.length) = some 1 := by decide +kernel
theorem hdV_X1_fillPlace : yX1_fillPlace.cls = RX1 ∧ yX1_fillPlace.cls ≠ "java/lang/invoke/MethodHandle" ∧ yX1_fillPlace.cls ≠ "java/lang/invoke/VarHandle" ∧ (parseMethodDescriptor yX1_fillPlace.desc).map (fun d => d.parameters.length) = some 2 := by decide +kernel
theorem hdV_X1_firstOf : yX1_firstOf.cls = RX1 ∧ yX1_firstOf.cls ≠ "java/lang/invoke/MethodHandle" ∧ yX1_firstOf.cls ≠ "java/lang/invoke/VarHandle" ∧ (parseMethodDescriptor yX1_firstOf.desc).map (fun d => d.parameters.length) = some 1 := by decide +kernel
theorem hdV_X1_hasInFamily : yX1_hasInFamily.cls = RX1 ∧ yX1_hasInFamily.cls ≠ "java/lang/invoke/MethodHandle" ∧ yX1_hasInFamily.cls ≠ "java/lang/invoke/VarHandle" ∧ (parseMethodDescriptor yX1_hasInFamily.desc).map (fun d => d.parameters.length) = some 2 := by decide +kernel
theorem hdV_X1_isBornWell : yX1_isBornWell.cls = RX1 ∧ yX1_isBornWell.cls ≠ "java/lang/invoke/MethodHandle" ∧ yX1_isBornWell.cls ≠ "java/lang/invoke/VarHandle" ∧ (parseMethodDescriptor yX1_isBornWell.desc).map (fun d => d.parameters.length) = some 1 := by decide +kernel
theorem hdV_X1_isBranch : yX1_isBranch.cls = RX1 ∧ yX1_isBranch.cls ≠ "java/lang/invoke/MethodHandle" ∧ yX1_isBranch.cls ≠ "java/lang/invoke/VarHandle" ∧ (parseMethodDescriptor yX1_isBranch.desc).map (fun d => d.parameters.length) = some 1 := by decide +kernel
theorem hdV_X1_isCommit : yX1_isCommit.cls = RX1 ∧ yX1_isCommit.cls ≠ "java/lang/invoke/MethodHandle" ∧ yX1_isCommit.cls ≠ "java/lang/invoke/VarHandle" ∧ (parseMethodDescriptor yX1_isCommit.desc).map (fun d => d.parameters.length) = some 1 := by decide +kernel
theorem hdV_X1_isFull : yX1_isFull.cls = RX1 ∧ yX1_isFull.cls ≠ "java/lang/invoke/MethodHandle" ∧ yX1_isFull.cls ≠ "java/lang/invoke/VarHandle" ∧ (parseMethodDescriptor yX1_isFull.desc).map (fun d => d.parameters.length) = some 0 := by decide +kernel
theorem hdV_X1_kindOf : yX1_kindOf.cls = RX1 ∧ yX1_kindOf.cls ≠ "java/lang/invoke/MethodHandle" ∧ yX1_kindOf.cls ≠ "java/lang/invoke/VarHandle" ∧ (parseMethodDescriptor yX1_kindOf.desc).map (fun d => d.parameters.length) = some 1 := by decide +kernel
theorem hdV_X1_meetingPoint : yX1_meetingPoint.cls = RX1 ∧ yX1_meetingPoint.cls ≠ "java/lang/invoke/MethodHandle" ∧ yX1_meetingPoint.cls ≠ "java/lang/invoke/VarHandle" ∧ (parseMethodDescriptor yX1_meetingPoint.desc).map (fun d => d.parameters.length) = some 2 := by decide +kernel
theorem hdV_X1_moveTip : yX1_moveTip.cls = RX1 ∧ yX1_moveTip.cls ≠ "java/lang/invoke/MethodHandle" ∧ yX1_moveTip.cls ≠ "java/lang/invoke/VarHandle" ∧ (parseMethodDescriptor yX1_moveTip.desc).map (fun d => d.parameters.length) = some 2 := by decide +kernel
theorem hdV_X1_placeOf : yX1_placeOf.cls = RX1 ∧ yX1_placeOf.cls ≠ "java/lang/invoke/MethodHandle" ∧ yX1_placeOf.cls ≠ "java/lang/invoke/VarHandle" ∧ (parseMethodDescriptor yX1_placeOf.desc).map (fun d => d.parameters.length) = some 1 := by decide +kernel
theorem hdV_X1_secondOf : yX1_secondOf.cls = RX1 ∧ yX1_secondOf.cls ≠ "java/lang/invoke/MethodHandle" ∧ yX1_secondOf.cls ≠ "java/lang/invoke/VarHandle" ∧ (parseMethodDescriptor yX1_secondOf.desc).map (fun d => d.parameters.length) = some 1 := by decide +kernel
theorem hdV_X1_sumOfTips : yX1_sumOfTips.cls = RX1 ∧ yX1_sumOfTips.cls ≠ "java/lang/invoke/MethodHandle" ∧ yX1_sumOfTips.cls ≠ "java/lang/invoke/VarHandle" ∧ (parseMethodDescriptor yX1_sumOfTips.desc).map (fun d => d.parameters.length) = some 0 := by decide +kernel
theorem hdV_X1_takeBundle : yX1_takeBundle.cls = RX1 ∧ yX1_takeBundle.cls ≠ "java/lang/invoke/MethodHandle" ∧ yX1_takeBundle.cls ≠ "java/lang/invoke/VarHandle" ∧ (parseMethodDescriptor yX1_takeBundle.desc).map (fun d => d.parameters.length) = some 1 := by decide +kernel
theorem hdV_X1_tasteOf : yX1_tasteOf.cls = RX1 ∧ yX1_tasteOf.cls ≠ "java/lang/invoke/MethodHandle" ∧ yX1_tasteOf.cls ≠ "java/lang/invoke/VarHandle" ∧ (parseMethodDescriptor yX1_tasteOf.desc).map (fun d => d.parameters.length) = some 1 := by decide +kernel
theorem hdV_X1_tipOf : yX1_tipOf.cls = RX1 ∧ yX1_tipOf.cls ≠ "java/lang/invoke/MethodHandle" ∧ yX1_tipOf.cls ≠ "java/lang/invoke/VarHandle" ∧ (parseMethodDescriptor yX1_tipOf.desc).map (fun d => d.parameters.length) = some 1 := by decide +kernel
theorem hdV_X2_forgetAll : yX2_forgetAll.cls = RX2 ∧ yX2_forgetAll.cls ≠ "java/lang/invoke/MethodHandle" ∧ yX2_forgetAll.cls ≠ "java/lang/invoke/VarHandle" ∧ (parseMethodDescriptor yX2_forgetAll.desc).map (fun d => d.parameters.length) = some 0 := by decide +kernel
theorem hdV_X2_keep : yX2_keep.cls = RX2 ∧ yX2_keep.cls ≠ "java/lang/invoke/MethodHandle" ∧ yX2_keep.cls ≠ "java/lang/invoke/VarHandle" ∧ (parseMethodDescriptor yX2_keep.desc).map (fun d => d.parameters.length) = some 1 := by decide +kernel
theorem hdV_X2_rowAt : yX2_rowAt.cls = RX2 ∧ yX2_rowAt.cls ≠ "java/lang/invoke/MethodHandle" ∧ yX2_rowAt.cls ≠ "java/lang/invoke/VarHandle" ∧ (parseMethodDescriptor yX2_rowAt.desc).map (fun d => d.parameters.length) = some 1 := by decide +kernel
theorem hdV_X2_size : yX2_size.cls = RX2 ∧ yX2_size.cls ≠ "java/lang/invoke/MethodHandle" ∧ yX2_size.cls ≠ "java/lang/invoke/VarHandle" ∧ (parseMethodDescriptor yX2_size.desc).map (fun d => d.parameters.length) = some 0 := by decide +kernel
theorem hdV_X2_takeBack : yX2_takeBack.cls = RX2 ∧ yX2_takeBack.cls ≠ "java/lang/invoke/MethodHandle" ∧ yX2_takeBack.cls ≠ "java/lang/invoke/VarHandle" ∧ (parseMethodDescriptor yX2_takeBack.desc).map (fun d => d.parameters.length) = some 1 := by decide +kernel
theorem hdV_X3_add : yX3_add.cls = RX3 ∧ yX3_add.cls ≠ "java/lang/invoke/MethodHandle" ∧ yX3_add.cls ≠ "java/lang/invoke/VarHandle" ∧ (parseMethodDescriptor yX3_add.desc).map (fun d => d.parameters.length) = some 1 := by decide +kernel
theorem hdV_X3_clear : yX3_clear.cls = RX3 ∧ yX3_clear.cls ≠ "java/lang/invoke/MethodHandle" ∧ yX3_clear.cls ≠ "java/lang/invoke/VarHandle" ∧ (parseMethodDescriptor yX3_clear.desc).map (fun d => d.parameters.length) = some 0 := by decide +kernel
theorem hdV_X3_isFull : yX3_isFull.cls = RX3 ∧ yX3_isFull.cls ≠ "java/lang/invoke/MethodHandle" ∧ yX3_isFull.cls ≠ "java/lang/invoke/VarHandle" ∧ (parseMethodDescriptor yX3_isFull.desc).map (fun d => d.parameters.length) = some 0 := by decide +kernel
theorem hdV_X3_signAt : yX3_signAt.cls = RX3 ∧ yX3_signAt.cls ≠ "java/lang/invoke/MethodHandle" ∧ yX3_signAt.cls ≠ "java/lang/invoke/VarHandle" ∧ (parseMethodDescriptor yX3_signAt.desc).map (fun d => d.parameters.length) = some 1 := by decide +kernel
theorem hdV_X3_size : yX3_size.cls = RX3 ∧ yX3_size.cls ≠ "java/lang/invoke/MethodHandle" ∧ yX3_size.cls ≠ "java/lang/invoke/VarHandle" ∧ (parseMethodDescriptor yX3_size.desc).map (fun d => d.parameters.length) = some 0 := by decide +kernel
theorem hdV_X4_addNumber : yX4_addNumber.cls = RX4 ∧ yX4_addNumber.cls ≠ "java/lang/invoke/MethodHandle" ∧ yX4_addNumber.cls ≠ "java/lang/invoke/VarHandle" ∧ (parseMethodDescriptor yX4_addNumber.desc).map (fun d => d.parameters.length) = some 1 := by decide +kernel
theorem hdV_X4_addSign : yX4_addSign.cls = RX4 ∧ yX4_addSign.cls ≠ "java/lang/invoke/MethodHandle" ∧ yX4_addSign.cls ≠ "java/lang/invoke/VarHandle" ∧ (parseMethodDescriptor yX4_addSign.desc).map (fun d => d.parameters.length) = some 1 := by decide +kernel
theorem hdV_X4_has : yX4_has.cls = RX4 ∧ yX4_has.cls ≠ "java/lang/invoke/MethodHandle" ∧ yX4_has.cls ≠ "java/lang/invoke/VarHandle" ∧ (parseMethodDescriptor yX4_has.desc).map (fun d => d.parameters.length) = some 1 := by decide +kernel
theorem hdS_X4_letterOf : yX4_letterOf.cls ≠ "java/lang/invoke/MethodHandle" ∧ yX4_letterOf.cls ≠ "java/lang/invoke/VarHandle" ∧ (parseMethodDescriptor yX4_letterOf.desc).map (fun d => d.parameters.length) = some 1 := by decide +kernel
theorem hdV_X4_signAt : yX4_signAt.cls = RX4 ∧ yX4_signAt.cls ≠ "java/lang/invoke/MethodHandle" ∧ yX4_signAt.cls ≠ "java/lang/invoke/VarHandle" ∧ (parseMethodDescriptor yX4_signAt.desc).map (fun d => d.parameters.length) = some 1 := by decide +kernel
theorem hdV_X4_write : yX4_write.cls = RX4 ∧ yX4_write.cls ≠ "java/lang/invoke/MethodHandle" ∧ yX4_write.cls ≠ "java/lang/invoke/VarHandle" ∧ (parseMethodDescriptor yX4_write.desc).map (fun d => d.parameters.length) = some 2 := by decide +kernel
theorem hdV_X5_amounts : yX5_amounts.cls = RX5 ∧ yX5_amounts.cls ≠ "java/lang/invoke/MethodHandle" ∧ yX5_amounts.cls ≠ "java/lang/invoke/VarHandle" ∧ (parseMethodDescriptor yX5_amounts.desc).map (fun d => d.parameters.length) = some 0 := by decide +kernel
theorem hdS_X5_byRule : yX5_byRule.cls ≠ "java/lang/invoke/MethodHandle" ∧ yX5_byRule.cls ≠ "java/lang/invoke/VarHandle" ∧ (parseMethodDescriptor yX5_byRule.desc).map (fun d => d.parameters.length) = some 3 := by decide +kernel
theorem hdV_X5_change : yX5_change.cls = RX5 ∧ yX5_change.cls ≠ "java/lang/invoke/MethodHandle" ∧ yX5_change.cls ≠ "java/lang/invoke/VarHandle" ∧ (parseMethodDescriptor yX5_change.desc).map (fun d => d.parameters.length) = some 4 := by decide +kernel
theorem hdV_X5_conflictsFound : yX5_conflictsFound.cls = RX5 ∧ yX5_conflictsFound.cls ≠ "java/lang/invoke/MethodHandle" ∧ yX5_conflictsFound.cls ≠ "java/lang/invoke/VarHandle" ∧ (parseMethodDescriptor yX5_conflictsFound.desc).map (fun d => d.parameters.length) = some 0 := by decide +kernel
theorem hdV_X5_isRowOf : yX5_isRowOf.cls = RX5 ∧ yX5_isRowOf.cls ≠ "java/lang/invoke/MethodHandle" ∧ yX5_isRowOf.cls ≠ "java/lang/invoke/VarHandle" ∧ (parseMethodDescriptor yX5_isRowOf.desc).map (fun d => d.parameters.length) = some 2 := by decide +kernel
theorem hdV_X5_lowestConflict : yX5_lowestConflict.cls = RX5 ∧ yX5_lowestConflict.cls ≠ "java/lang/invoke/MethodHandle" ∧ yX5_lowestConflict.cls ≠ "java/lang/invoke/VarHandle" ∧ (parseMethodDescriptor yX5_lowestConflict.desc).map (fun d => d.parameters.length) = some 0 := by decide +kernel
theorem hdV_X5_putTogether : yX5_putTogether.cls = RX5 ∧ yX5_putTogether.cls ≠ "java/lang/invoke/MethodHandle" ∧ yX5_putTogether.cls ≠ "java/lang/invoke/VarHandle" ∧ (parseMethodDescriptor yX5_putTogether.desc).map (fun d => d.parameters.length) = some 5 := by decide +kernel
theorem hdV_X6_carryOut : yX6_carryOut.cls = RX6 ∧ yX6_carryOut.cls ≠ "java/lang/invoke/MethodHandle" ∧ yX6_carryOut.cls ≠ "java/lang/invoke/VarHandle" ∧ (parseMethodDescriptor yX6_carryOut.desc).map (fun d => d.parameters.length) = some 1 := by decide +kernel
theorem hdV_X6_carryOutOrder : yX6_carryOutOrder.cls = RX6 ∧ yX6_carryOutOrder.cls ≠ "java/lang/invoke/MethodHandle" ∧ yX6_carryOutOrder.cls ≠ "java/lang/invoke/VarHandle" ∧ (parseMethodDescriptor yX6_carryOutOrder.desc).map (fun d => d.parameters.length) = some 2 := by decide +kernel
theorem hdS_X6_isDigit : yX6_isDigit.cls ≠ "java/lang/invoke/MethodHandle" ∧ yX6_isDigit.cls ≠ "java/lang/invoke/VarHandle" ∧ (parseMethodDescriptor yX6_isDigit.desc).map (fun d => d.parameters.length) = some 1 := by decide +kernel
theorem hdV_X6_numberAt : yX6_numberAt.cls = RX6 ∧ yX6_numberAt.cls ≠ "java/lang/invoke/MethodHandle" ∧ yX6_numberAt.cls ≠ "java/lang/invoke/VarHandle" ∧ (parseMethodDescriptor yX6_numberAt.desc).map (fun d => d.parameters.length) = some 2 := by decide +kernel
theorem hdV_X6_parse : yX6_parse.cls = RX6 ∧ yX6_parse.cls ≠ "java/lang/invoke/MethodHandle" ∧ yX6_parse.cls ≠ "java/lang/invoke/VarHandle" ∧ (parseMethodDescriptor yX6_parse.desc).map (fun d => d.parameters.length) = some 1 := by decide +kernel
theorem hdV_X6_parseOrder : yX6_parseOrder.cls = RX6 ∧ yX6_parseOrder.cls ≠ "java/lang/invoke/MethodHandle" ∧ yX6_parseOrder.cls ≠ "java/lang/invoke/VarHandle" ∧ (parseMethodDescriptor yX6_parseOrder.desc).map (fun d => d.parameters.length) = some 1 := by decide +kernel
theorem hdV_X6_parseSign : yX6_parseSign.cls = RX6 ∧ yX6_parseSign.cls ≠ "java/lang/invoke/MethodHandle" ∧ yX6_parseSign.cls ≠ "java/lang/invoke/VarHandle" ∧ (parseMethodDescriptor yX6_parseSign.desc).map (fun d => d.parameters.length) = some 2 := by decide +kernel
theorem hdS_X6_shapeOf : yX6_shapeOf.cls ≠ "java/lang/invoke/MethodHandle" ∧ yX6_shapeOf.cls ≠ "java/lang/invoke/VarHandle" ∧ (parseMethodDescriptor yX6_shapeOf.desc).map (fun d => d.parameters.length) = some 1 := by decide +kernel
theorem hdV_X6_store : yX6_store.cls = RX6 ∧ yX6_store.cls ≠ "java/lang/invoke/MethodHandle" ∧ yX6_store.cls ≠ "java/lang/invoke/VarHandle" ∧ (parseMethodDescriptor yX6_store.desc).map (fun d => d.parameters.length) = some 1 := by decide +kernel
theorem hdV_X7_at : yX7_at.cls = RX7 ∧ yX7_at.cls ≠ "java/lang/invoke/MethodHandle" ∧ yX7_at.cls ≠ "java/lang/invoke/VarHandle" ∧ (parseMethodDescriptor yX7_at.desc).map (fun d => d.parameters.length) = some 1 := by decide +kernel
theorem hdV_X7_farthestBad : yX7_farthestBad.cls = RX7 ∧ yX7_farthestBad.cls ≠ "java/lang/invoke/MethodHandle" ∧ yX7_farthestBad.cls ≠ "java/lang/invoke/VarHandle" ∧ (parseMethodDescriptor yX7_farthestBad.desc).map (fun d => d.parameters.length) = some 3 := by decide +kernel
theorem hdV_X7_farthestBest : yX7_farthestBest.cls = RX7 ∧ yX7_farthestBest.cls ≠ "java/lang/invoke/MethodHandle" ∧ yX7_farthestBest.cls ≠ "java/lang/invoke/VarHandle" ∧ (parseMethodDescriptor yX7_farthestBest.desc).map (fun d => d.parameters.length) = some 1 := by decide +kernel
theorem hdV_X7_follow : yX7_follow.cls = RX7 ∧ yX7_follow.cls ≠ "java/lang/invoke/MethodHandle" ∧ yX7_follow.cls ≠ "java/lang/invoke/VarHandle" ∧ (parseMethodDescriptor yX7_follow.desc).map (fun d => d.parameters.length) = some 2 := by decide +kernel
theorem hdV_X7_latestChange : yX7_latestChange.cls = RX7 ∧ yX7_latestChange.cls ≠ "java/lang/invoke/MethodHandle" ∧ yX7_latestChange.cls ≠ "java/lang/invoke/VarHandle" ∧ (parseMethodDescriptor yX7_latestChange.desc).map (fun d => d.parameters.length) = some 2 := by decide +kernel
theorem hdV_X7_looksTaken : yX7_looksTaken.cls = RX7 ∧ yX7_looksTaken.cls ≠ "java/lang/invoke/MethodHandle" ∧ yX7_looksTaken.cls ≠ "java/lang/invoke/VarHandle" ∧ (parseMethodDescriptor yX7_looksTaken.desc).map (fun d => d.parameters.length) = some 0 := by decide +kernel
theorem hdV_X7_searchByHalves : yX7_searchByHalves.cls = RX7 ∧ yX7_searchByHalves.cls ≠ "java/lang/invoke/MethodHandle" ∧ yX7_searchByHalves.cls ≠ "java/lang/invoke/VarHandle" ∧ (parseMethodDescriptor yX7_searchByHalves.desc).map (fun d => d.parameters.length) = some 3 := by decide +kernel
theorem hdV_X8_account : yX8_account.cls = RX8 ∧ yX8_account.cls ≠ "java/lang/invoke/MethodHandle" ∧ yX8_account.cls ≠ "java/lang/invoke/VarHandle" ∧ (parseMethodDescriptor yX8_account.desc).map (fun d => d.parameters.length) = some 1 := by decide +kernel
theorem hdV_X8_amount : yX8_amount.cls = RX8 ∧ yX8_amount.cls ≠ "java/lang/invoke/MethodHandle" ∧ yX8_amount.cls ≠ "java/lang/invoke/VarHandle" ∧ (parseMethodDescriptor yX8_amount.desc).map (fun d => d.parameters.length) = some 2 := by decide +kernel
theorem hdV_X8_append : yX8_append.cls = RX8 ∧ yX8_append.cls ≠ "java/lang/invoke/MethodHandle" ∧ yX8_append.cls ≠ "java/lang/invoke/VarHandle" ∧ (parseMethodDescriptor yX8_append.desc).map (fun d => d.parameters.length) = some 1 := by decide +kernel
theorem hdV_X8_base : yX8_base.cls = RX8 ∧ yX8_base.cls ≠ "java/lang/invoke/MethodHandle" ∧ yX8_base.cls ≠ "java/lang/invoke/VarHandle" ∧ (parseMethodDescriptor yX8_base.desc).map (fun d => d.parameters.length) = some 2 := by decide +kernel
theorem hdV_X8_baseAgain : yX8_baseAgain.cls = RX8 ∧ yX8_baseAgain.cls ≠ "java/lang/invoke/MethodHandle" ∧ yX8_baseAgain.cls ≠ "java/lang/invoke/VarHandle" ∧ (parseMethodDescriptor yX8_baseAgain.desc).map (fun d => d.parameters.length) = some 2 := by decide +kernel
theorem hdS_X8_bitsOf : yX8_bitsOf.cls ≠ "java/lang/invoke/MethodHandle" ∧ yX8_bitsOf.cls ≠ "java/lang/invoke/VarHandle" ∧ (parseMethodDescriptor yX8_bitsOf.desc).map (fun d => d.parameters.length) = some 1 := by decide +kernel
theorem hdV_X8_blame : yX8_blame.cls = RX8 ∧ yX8_blame.cls ≠ "java/lang/invoke/MethodHandle" ∧ yX8_blame.cls ≠ "java/lang/invoke/VarHandle" ∧ (parseMethodDescriptor yX8_blame.desc).map (fun d => d.parameters.length) = some 2 := by decide +kernel
theorem hdV_X8_bundle : yX8_bundle.cls = RX8 ∧ yX8_bundle.cls ≠ "java/lang/invoke/MethodHandle" ∧ yX8_bundle.cls ≠ "java/lang/invoke/VarHandle" ∧ (parseMethodDescriptor yX8_bundle.desc).map (fun d => d.parameters.length) = some 1 := by decide +kernel
theorem hdV_X8_character : yX8_character.cls = RX8 ∧ yX8_character.cls ≠ "java/lang/invoke/MethodHandle" ∧ yX8_character.cls ≠ "java/lang/invoke/VarHandle" ∧ (parseMethodDescriptor yX8_character.desc).map (fun d => d.parameters.length) = some 1 := by decide +kernel
theorem hdV_X8_commitOf : yX8_commitOf.cls = RX8 ∧ yX8_commitOf.cls ≠ "java/lang/invoke/MethodHandle" ∧ yX8_commitOf.cls ≠ "java/lang/invoke/VarHandle" ∧ (parseMethodDescriptor yX8_commitOf.desc).map (fun d => d.parameters.length) = some 2 := by decide +kernel
theorem hdV_X8_conflicts : yX8_conflicts.cls = RX8 ∧ yX8_conflicts.cls ≠ "java/lang/invoke/MethodHandle" ∧ yX8_conflicts.cls ≠ "java/lang/invoke/VarHandle" ∧ (parseMethodDescriptor yX8_conflicts.desc).map (fun d => d.parameters.length) = some 2 := by decide +kernel
theorem hdV_X8_difference : yX8_difference.cls = RX8 ∧ yX8_difference.cls ≠ "java/lang/invoke/MethodHandle" ∧ yX8_difference.cls ≠ "java/lang/invoke/VarHandle" ∧ (parseMethodDescriptor yX8_difference.desc).map (fun d => d.parameters.length) = some 2 := by decide +kernel
theorem hdV_X8_edit : yX8_edit.cls = RX8 ∧ yX8_edit.cls ≠ "java/lang/invoke/MethodHandle" ∧ yX8_edit.cls ≠ "java/lang/invoke/VarHandle" ∧ (parseMethodDescriptor yX8_edit.desc).map (fun d => d.parameters.length) = some 3 := by decide +kernel
theorem hdV_X8_editShare : yX8_editShare.cls = RX8 ∧ yX8_editShare.cls ≠ "java/lang/invoke/MethodHandle" ∧ yX8_editShare.cls ≠ "java/lang/invoke/VarHandle" ∧ (parseMethodDescriptor yX8_editShare.desc).map (fun d => d.parameters.length) = some 0 := by decide +kernel
theorem hdV_X8_errorPosition : yX8_errorPosition.cls = RX8 ∧ yX8_errorPosition.cls ≠ "java/lang/invoke/MethodHandle" ∧ yX8_errorPosition.cls ≠ "java/lang/invoke/VarHandle" ∧ (parseMethodDescriptor yX8_errorPosition.desc).map (fun d => d.parameters.length) = some 0 := by decide +kernel
theorem hdV_X8_finished : yX8_finished.cls = RX8 ∧ yX8_finished.cls ≠ "java/lang/invoke/MethodHandle" ∧ yX8_finished.cls ≠ "java/lang/invoke/VarHandle" ∧ (parseMethodDescriptor yX8_finished.desc).map (fun d => d.parameters.length) = some 1 := by decide +kernel
theorem hdV_X8_firstBad : yX8_firstBad.cls = RX8 ∧ yX8_firstBad.cls ≠ "java/lang/invoke/MethodHandle" ∧ yX8_firstBad.cls ≠ "java/lang/invoke/VarHandle" ∧ (parseMethodDescriptor yX8_firstBad.desc).map (fun d => d.parameters.length) = some 3 := by decide +kernel
theorem hdV_X8_fork : yX8_fork.cls = RX8 ∧ yX8_fork.cls ≠ "java/lang/invoke/MethodHandle" ∧ yX8_fork.cls ≠ "java/lang/invoke/VarHandle" ∧ (parseMethodDescriptor yX8_fork.desc).map (fun d => d.parameters.length) = some 1 := by decide +kernel
theorem hdV_X8_halve : yX8_halve.cls = RX8 ∧ yX8_halve.cls ≠ "java/lang/invoke/MethodHandle" ∧ yX8_halve.cls ≠ "java/lang/invoke/VarHandle" ∧ (parseMethodDescriptor yX8_halve.desc).map (fun d => d.parameters.length) = some 4 := by decide +kernel
theorem hdV_X8_inBundle : yX8_inBundle.cls = RX8 ∧ yX8_inBundle.cls ≠ "java/lang/invoke/MethodHandle" ∧ yX8_inBundle.cls ≠ "java/lang/invoke/VarHandle" ∧ (parseMethodDescriptor yX8_inBundle.desc).map (fun d => d.parameters.length) = some 1 := by decide +kernel
theorem hdS_X8_isAmount : yX8_isAmount.cls ≠ "java/lang/invoke/MethodHandle" ∧ yX8_isAmount.cls ≠ "java/lang/invoke/VarHandle" ∧ (parseMethodDescriptor yX8_isAmount.desc).map (fun d => d.parameters.length) = some 1 := by decide +kernel
theorem hdV_X8_isIn : yX8_isIn.cls = RX8 ∧ yX8_isIn.cls ≠ "java/lang/invoke/MethodHandle" ∧ yX8_isIn.cls ≠ "java/lang/invoke/VarHandle" ∧ (parseMethodDescriptor yX8_isIn.desc).map (fun d => d.parameters.length) = some 2 := by decide +kernel
theorem hdS_X8_isInSet : yX8_isInSet.cls ≠ "java/lang/invoke/MethodHandle" ∧ yX8_isInSet.cls ≠ "java/lang/invoke/VarHandle" ∧ (parseMethodDescriptor yX8_isInSet.desc).map (fun d => d.parameters.length) = some 2 := by decide +kernel
theorem hdS_X8_isIngredient : yX8_isIngredient.cls ≠ "java/lang/invoke/MethodHandle" ∧ yX8_isIngredient.cls ≠ "java/lang/invoke/VarHandle" ∧ (parseMethodDescriptor yX8_isIngredient.desc).map (fun d => d.parameters.length) = some 1 := by decide +kernel
theorem hdS_X8_isPlace : yX8_isPlace.cls ≠ "java/lang/invoke/MethodHandle" ∧ yX8_isPlace.cls ≠ "java/lang/invoke/VarHandle" ∧ (parseMethodDescriptor yX8_isPlace.desc).map (fun d => d.parameters.length) = some 1 := by decide +kernel
theorem hdS_X8_isRule : yX8_isRule.cls ≠ "java/lang/invoke/MethodHandle" ∧ yX8_isRule.cls ≠ "java/lang/invoke/VarHandle" ∧ (parseMethodDescriptor yX8_isRule.desc).map (fun d => d.parameters.length) = some 1 := by decide +kernel
theorem hdV_X8_isWell : yX8_isWell.cls = RX8 ∧ yX8_isWell.cls ≠ "java/lang/invoke/MethodHandle" ∧ yX8_isWell.cls ≠ "java/lang/invoke/VarHandle" ∧ (parseMethodDescriptor yX8_isWell.desc).map (fun d => d.parameters.length) = some 0 := by decide +kernel
theorem hdV_X8_line : yX8_line.cls = RX8 ∧ yX8_line.cls ≠ "java/lang/invoke/MethodHandle" ∧ yX8_line.cls ≠ "java/lang/invoke/VarHandle" ∧ (parseMethodDescriptor yX8_line.desc).map (fun d => d.parameters.length) = some 1 := by decide +kernel
theorem hdV_X8_meanTaste : yX8_meanTaste.cls = RX8 ∧ yX8_meanTaste.cls ≠ "java/lang/invoke/MethodHandle" ∧ yX8_meanTaste.cls ≠ "java/lang/invoke/VarHandle" ∧ (parseMethodDescriptor yX8_meanTaste.desc).map (fun d => d.parameters.length) = some 0 := by decide +kernel
theorem hdV_X8_merge : yX8_merge.cls = RX8 ∧ yX8_merge.cls ≠ "java/lang/invoke/MethodHandle" ∧ yX8_merge.cls ≠ "java/lang/invoke/VarHandle" ∧ (parseMethodDescriptor yX8_merge.desc).map (fun d => d.parameters.length) = some 3 := by decide +kernel
theorem hdV_X8_needAmount : yX8_needAmount.cls = RX8 ∧ yX8_needAmount.cls ≠ "java/lang/invoke/MethodHandle" ∧ yX8_needAmount.cls ≠ "java/lang/invoke/VarHandle" ∧ (parseMethodDescriptor yX8_needAmount.desc).map (fun d => d.parameters.length) = some 1 := by decide +kernel
theorem hdV_X8_needBranch : yX8_needBranch.cls = RX8 ∧ yX8_needBranch.cls ≠ "java/lang/invoke/MethodHandle" ∧ yX8_needBranch.cls ≠ "java/lang/invoke/VarHandle" ∧ (parseMethodDescriptor yX8_needBranch.desc).map (fun d => d.parameters.length) = some 1 := by decide +kernel
theorem hdV_X8_needCommit : yX8_needCommit.cls = RX8 ∧ yX8_needCommit.cls ≠ "java/lang/invoke/MethodHandle" ∧ yX8_needCommit.cls ≠ "java/lang/invoke/VarHandle" ∧ (parseMethodDescriptor yX8_needCommit.desc).map (fun d => d.parameters.length) = some 1 := by decide +kernel
theorem hdV_X8_needIngredient : yX8_needIngredient.cls = RX8 ∧ yX8_needIngredient.cls ≠ "java/lang/invoke/MethodHandle" ∧ yX8_needIngredient.cls ≠ "java/lang/invoke/VarHandle" ∧ (parseMethodDescriptor yX8_needIngredient.desc).map (fun d => d.parameters.length) = some 1 := by decide +kernel
theorem hdV_X8_onLine : yX8_onLine.cls = RX8 ∧ yX8_onLine.cls ≠ "java/lang/invoke/MethodHandle" ∧ yX8_onLine.cls ≠ "java/lang/invoke/VarHandle" ∧ (parseMethodDescriptor yX8_onLine.desc).map (fun d => d.parameters.length) = some 2 := by decide +kernel
theorem hdV_X8_pick : yX8_pick.cls = RX8 ∧ yX8_pick.cls ≠ "java/lang/invoke/MethodHandle" ∧ yX8_pick.cls ≠ "java/lang/invoke/VarHandle" ∧ (parseMethodDescriptor yX8_pick.desc).map (fun d => d.parameters.length) = some 3 := by decide +kernel
theorem hdV_X8_play : yX8_play.cls = RX8 ∧ yX8_play.cls ≠ "java/lang/invoke/MethodHandle" ∧ yX8_play.cls ≠ "java/lang/invoke/VarHandle" ∧ (parseMethodDescriptor yX8_play.desc).map (fun d => d.parameters.length) = some 2 := by decide +kernel
theorem hdV_X8_put : yX8_put.cls = RX8 ∧ yX8_put.cls ≠ "java/lang/invoke/MethodHandle" ∧ yX8_put.cls ≠ "java/lang/invoke/VarHandle" ∧ (parseMethodDescriptor yX8_put.desc).map (fun d => d.parameters.length) = some 2 := by decide +kernel
theorem hdV_X8_read : yX8_read.cls = RX8 ∧ yX8_read.cls ≠ "java/lang/invoke/MethodHandle" ∧ yX8_read.cls ≠ "java/lang/invoke/VarHandle" ∧ (parseMethodDescriptor yX8_read.desc).map (fun d => d.parameters.length) = some 0 := by decide +kernel
theorem hdV_X8_refusal : yX8_refusal.cls = RX8 ∧ yX8_refusal.cls ≠ "java/lang/invoke/MethodHandle" ∧ yX8_refusal.cls ≠ "java/lang/invoke/VarHandle" ∧ (parseMethodDescriptor yX8_refusal.desc).map (fun d => d.parameters.length) = some 1 := by decide +kernel
theorem hdV_X8_reset : yX8_reset.cls = RX8 ∧ yX8_reset.cls ≠ "java/lang/invoke/MethodHandle" ∧ yX8_reset.cls ≠ "java/lang/invoke/VarHandle" ∧ (parseMethodDescriptor yX8_reset.desc).map (fun d => d.parameters.length) = some 2 := by decide +kernel
theorem hdV_X8_restore : yX8_restore.cls = RX8 ∧ yX8_restore.cls ≠ "java/lang/invoke/MethodHandle" ∧ yX8_restore.cls ≠ "java/lang/invoke/VarHandle" ∧ (parseMethodDescriptor yX8_restore.desc).map (fun d => d.parameters.length) = some 0 := by decide +kernel
theorem hdV_X8_revert : yX8_revert.cls = RX8 ∧ yX8_revert.cls ≠ "java/lang/invoke/MethodHandle" ∧ yX8_revert.cls ≠ "java/lang/invoke/VarHandle" ∧ (parseMethodDescriptor yX8_revert.desc).map (fun d => d.parameters.length) = some 3 := by decide +kernel
theorem hdV_X8_save : yX8_save.cls = RX8 ∧ yX8_save.cls ≠ "java/lang/invoke/MethodHandle" ∧ yX8_save.cls ≠ "java/lang/invoke/VarHandle" ∧ (parseMethodDescriptor yX8_save.desc).map (fun d => d.parameters.length) = some 0 := by decide +kernel
theorem hdS_X8_setOf : yX8_setOf.cls ≠ "java/lang/invoke/MethodHandle" ∧ yX8_setOf.cls ≠ "java/lang/invoke/VarHandle" ∧ (parseMethodDescriptor yX8_setOf.desc).map (fun d => d.parameters.length) = some 1 := by decide +kernel
theorem hdV_X8_taste : yX8_taste.cls = RX8 ∧ yX8_taste.cls ≠ "java/lang/invoke/MethodHandle" ∧ yX8_taste.cls ≠ "java/lang/invoke/VarHandle" ∧ (parseMethodDescriptor yX8_taste.desc).map (fun d => d.parameters.length) = some 1 := by decide +kernel
theorem hdV_X8_tasteBits : yX8_tasteBits.cls = RX8 ∧ yX8_tasteBits.cls ≠ "java/lang/invoke/MethodHandle" ∧ yX8_tasteBits.cls ≠ "java/lang/invoke/VarHandle" ∧ (parseMethodDescriptor yX8_tasteBits.desc).map (fun d => d.parameters.length) = some 1 := by decide +kernel
theorem hdV_X8_tastiest : yX8_tastiest.cls = RX8 ∧ yX8_tastiest.cls ≠ "java/lang/invoke/MethodHandle" ∧ yX8_tastiest.cls ≠ "java/lang/invoke/VarHandle" ∧ (parseMethodDescriptor yX8_tastiest.desc).map (fun d => d.parameters.length) = some 1 := by decide +kernel
theorem hdV_X8_tip : yX8_tip.cls = RX8 ∧ yX8_tip.cls ≠ "java/lang/invoke/MethodHandle" ∧ yX8_tip.cls ≠ "java/lang/invoke/VarHandle" ∧ (parseMethodDescriptor yX8_tip.desc).map (fun d => d.parameters.length) = some 1 := by decide +kernel
theorem hdV_X8_undo : yX8_undo.cls = RX8 ∧ yX8_undo.cls ≠ "java/lang/invoke/MethodHandle" ∧ yX8_undo.cls ≠ "java/lang/invoke/VarHandle" ∧ (parseMethodDescriptor yX8_undo.desc).map (fun d => d.parameters.length) = some 0 := by decide +kernel
abbrev Fo : Type := Int32 × Int32 × Int32 × AI × AI × AI × AI × AI × AI × AI × AI
def fo_commits (φ : Fo) : Int32 := φ.1
def fo_branches (φ : Fo) : Int32 := φ.2.1
def fo_purpose (φ : Fo) : Int32 := φ.2.2.1
def fo_kinds (φ : Fo) : AI := φ.2.2.2.1
def fo_firsts (φ : Fo) : AI := φ.2.2.2.2.1
def fo_seconds (φ : Fo) : AI := φ.2.2.2.2.2.1
def fo_families (φ : Fo) : AI := φ.2.2.2.2.2.2.1
def fo_depths (φ : Fo) : AI := φ.2.2.2.2.2.2.2.1
def fo_amounts (φ : Fo) : AI := φ.2.2.2.2.2.2.2.2.1
def fo_tips (φ : Fo) : AI := φ.2.2.2.2.2.2.2.2.2.1
def fo_bundled (φ : Fo) : AI := φ.2.2.2.2.2.2.2.2.2.2
def fo_s_commits (φ : Fo) (v : Int32) : Fo := (v, φ.2.1, φ.2.2.1, φ.2.2.2.1, φ.2.2.2.2.1, φ.2.2.2.2.2.1, φ.2.2.2.2.2.2.1, φ.2.2.2.2.2.2.2.1, φ.2.2.2.2.2.2.2.2.1, φ.2.2.2.2.2.2.2.2.2.1, φ.2.2.2.2.2.2.2.2.2.2)
def fo_s_branches (φ : Fo) (v : Int32) : Fo := (φ.1, v, φ.2.2.1, φ.2.2.2.1, φ.2.2.2.2.1, φ.2.2.2.2.2.1, φ.2.2.2.2.2.2.1, φ.2.2.2.2.2.2.2.1, φ.2.2.2.2.2.2.2.2.1, φ.2.2.2.2.2.2.2.2.2.1, φ.2.2.2.2.2.2.2.2.2.2)
def fo_s_purpose (φ : Fo) (v : Int32) : Fo := (φ.1, φ.2.1, v, φ.2.2.2.1, φ.2.2.2.2.1, φ.2.2.2.2.2.1, φ.2.2.2.2.2.2.1, φ.2.2.2.2.2.2.2.1, φ.2.2.2.2.2.2.2.2.1, φ.2.2.2.2.2.2.2.2.2.1, φ.2.2.2.2.2.2.2.2.2.2)
def fo_s_kinds (φ : Fo) (v : AI) : Fo := (φ.1, φ.2.1, φ.2.2.1, v, φ.2.2.2.2.1, φ.2.2.2.2.2.1, φ.2.2.2.2.2.2.1, φ.2.2.2.2.2.2.2.1, φ.2.2.2.2.2.2.2.2.1, φ.2.2.2.2.2.2.2.2.2.1, φ.2.2.2.2.2.2.2.2.2.2)
def fo_s_firsts (φ : Fo) (v : AI) : Fo := (φ.1, φ.2.1, φ.2.2.1, φ.2.2.2.1, v, φ.2.2.2.2.2.1, φ.2.2.2.2.2.2.1, φ.2.2.2.2.2.2.2.1, φ.2.2.2.2.2.2.2.2.1, φ.2.2.2.2.2.2.2.2.2.1, φ.2.2.2.2.2.2.2.2.2.2)
def fo_s_seconds (φ : Fo) (v : AI) : Fo := (φ.1, φ.2.1, φ.2.2.1, φ.2.2.2.1, φ.2.2.2.2.1, v, φ.2.2.2.2.2.2.1, φ.2.2.2.2.2.2.2.1, φ.2.2.2.2.2.2.2.2.1, φ.2.2.2.2.2.2.2.2.2.1, φ.2.2.2.2.2.2.2.2.2.2)
def fo_s_families (φ : Fo) (v : AI) : Fo := (φ.1, φ.2.1, φ.2.2.1, φ.2.2.2.1, φ.2.2.2.2.1, φ.2.2.2.2.2.1, v, φ.2.2.2.2.2.2.2.1, φ.2.2.2.2.2.2.2.2.1, φ.2.2.2.2.2.2.2.2.2.1, φ.2.2.2.2.2.2.2.2.2.2)
def fo_s_depths (φ : Fo) (v : AI) : Fo := (φ.1, φ.2.1, φ.2.2.1, φ.2.2.2.1, φ.2.2.2.2.1, φ.2.2.2.2.2.1, φ.2.2.2.2.2.2.1, v, φ.2.2.2.2.2.2.2.2.1, φ.2.2.2.2.2.2.2.2.2.1, φ.2.2.2.2.2.2.2.2.2.2)
def fo_s_amounts (φ : Fo) (v : AI) : Fo := (φ.1, φ.2.1, φ.2.2.1, φ.2.2.2.1, φ.2.2.2.2.1, φ.2.2.2.2.2.1, φ.2.2.2.2.2.2.1, φ.2.2.2.2.2.2.2.1, v, φ.2.2.2.2.2.2.2.2.2.1, φ.2.2.2.2.2.2.2.2.2.2)
def fo_s_tips (φ : Fo) (v : AI) : Fo := (φ.1, φ.2.1, φ.2.2.1, φ.2.2.2.1, φ.2.2.2.2.1, φ.2.2.2.2.2.1, φ.2.2.2.2.2.2.1, φ.2.2.2.2.2.2.2.1, φ.2.2.2.2.2.2.2.2.1, v, φ.2.2.2.2.2.2.2.2.2.2)
def fo_s_bundled (φ : Fo) (v : AI) : Fo := (φ.1, φ.2.1, φ.2.2.1, φ.2.2.2.1, φ.2.2.2.2.1, φ.2.2.2.2.2.1, φ.2.2.2.2.2.2.1, φ.2.2.2.2.2.2.2.1, φ.2.2.2.2.2.2.2.2.1, φ.2.2.2.2.2.2.2.2.2.1, v)
def gX0 (E : PE) (a : Nat → Nat) (r_forest : Nat) (r_mix : Nat) (v_reason : Int32) (v_detail : Int32) : va_W := [(a 0, .inr (0, [.ref r_forest, .ref r_mix, .int v_reason, .int v_detail]))]
def gX1 (E : PE) (a : Nat → Nat) (φ : Fo) : va_W := [(a 0, .inr (1, [.int (fo_commits φ), .int (fo_branches φ), .int (fo_purpose φ), .ref (a 1), .ref (a 2), .ref (a 3), .ref (a 4), .ref (a 5), .ref (a 6), .ref (a 7), .ref (a 8)])), (a 1, .inl (E.2.1, 24, .inl (fo_kinds φ))), (a 2, .inl (E.2.1, 24, .inl (fo_firsts φ))), (a 3, .inl (E.2.1, 24, .inl (fo_seconds φ))), (a 4, .inl (E.2.1, 24, .inl (fo_families φ))), (a 5, .inl (E.2.1, 24, .inl (fo_depths φ))), (a 6, .inl (E.2.1, 144, .inl (fo_amounts φ))), (a 7, .inl (E.2.1, 5, .inl (fo_tips φ))), (a 8, .inl (E.2.1, 4, .inl (fo_bundled φ)))]
def gX3 (E : PE) (a : Nat → Nat) (v_signs : AI) (v_length : Int32) : va_W := [(a 0, .inr (3, [.ref (a 1), .int v_length])), (a 1, .inl (E.2.2.1, 60, .inl (fun j => ch (v_signs j))))]
def gX4 (E : PE) (a : Nat → Nat) (v_signs : AI) (v_length : Int32) : va_W := [(a 0, .inr (4, [.ref (a 1), .int v_length])), (a 1, .inl (E.2.2.1, 24, .inl (fun j => ch (v_signs j))))]
def gX5 (E : PE) (a : Nat → Nat) (v_row : AI) (v_conflictCount : Int32) (v_lowest : Int32) : va_W := [(a 0, .inr (5, [.ref (a 1), .int v_conflictCount, .int v_lowest])), (a 1, .inl (E.2.1, 6, .inl (v_row)))]
def gX6 (E : PE) (a : Nat → Nat) (v_rows : AI) (v_count : Int32) (v_position : Int32) (v_column : Int32) : va_W := [(a 0, .inr (6, [.ref (a 1), .int v_count, .int v_position, .int v_column])), (a 1, .inl (E.2.1, 84, .inl (v_rows)))]
def gX7 (E : PE) (a : Nat → Nat) (v_commits : AI) (v_length : Int32) (v_looks : Int32) : va_W := [(a 0, .inr (7, [.ref (a 1), .int v_length, .int v_looks])), (a 1, .inl (E.2.1, 24, .inl (v_commits)))]
set_option maxRecDepth 20000 in
theorem iX0 : ∀ w ∈ u_ws RX0 TX0 4, w ∈ lw_all := show ∀ w ∈ [u_lay RX0 TX0 0, u_lay RX0 TX0 1, u_lay RX0 TX0 2, u_lay RX0 TX0 3], w ∈ lw_all from (List.forall_mem_cons.mpr ⟨lw_in 143 rfl rfl, (List.forall_mem_cons.mpr ⟨lw_in 145 rfl rfl, (List.forall_mem_cons.mpr ⟨lw_in 147 rfl rfl, (List.forall_mem_cons.mpr ⟨lw_in 149 rfl rfl, (fun _ h => absurd h List.not_mem_nil)⟩)⟩)⟩)⟩)
set_option maxRecDepth 20000 in
theorem iX1 : ∀ w ∈ u_ws RX1 TX1 11, w ∈ lw_all := show ∀ w ∈ [u_lay RX1 TX1 0, u_lay RX1 TX1 1, u_lay RX1 TX1 2, u_lay RX1 TX1 3, u_lay RX1 TX1 4, u_lay RX1 TX1 5, u_lay RX1 TX1 6, u_lay RX1 TX1 7, u_lay RX1 TX1 8, u_lay RX1 TX1 9, u_lay RX1 TX1 10], w ∈ lw_all from (List.forall_mem_cons.mpr ⟨lw_in 74 rfl rfl, (List.forall_mem_cons.mpr ⟨lw_in 76 rfl rfl, (List.forall_mem_cons.mpr ⟨lw_in 78 rfl rfl, (List.forall_mem_cons.mpr ⟨lw_in 80 rfl rfl, (List.forall_mem_cons.mpr ⟨lw_in 82 rfl rfl, (List.forall_mem_cons.mpr ⟨lw_in 84 rfl rfl, (List.forall_mem_cons.mpr ⟨lw_in 86 rfl rfl, (List.forall_mem_cons.mpr ⟨lw_in 88 rfl rfl, (List.forall_mem_cons.mpr ⟨lw_in 90 rfl rfl, (List.forall_mem_cons.mpr ⟨lw_in 92 rfl rfl, (List.forall_mem_cons.mpr ⟨lw_in 94 rfl rfl, (fun _ h => absurd h List.not_mem_nil)⟩)⟩)⟩)⟩)⟩)⟩)⟩)⟩)⟩)⟩)⟩)
set_option maxRecDepth 20000 in
theorem iX2 : ∀ w ∈ u_ws RX2 TX2 3, w ∈ lw_all := show ∀ w ∈ [u_lay RX2 TX2 0, u_lay RX2 TX2 1, u_lay RX2 TX2 2], w ∈ lw_all from (List.forall_mem_cons.mpr ⟨lw_in 110 rfl rfl, (List.forall_mem_cons.mpr ⟨lw_in 112 rfl rfl, (List.forall_mem_cons.mpr ⟨lw_in 114 rfl rfl, (fun _ h => absurd h List.not_mem_nil)⟩)⟩)⟩)
set_option maxRecDepth 20000 in
theorem iX3 : ∀ w ∈ u_ws RX3 TX3 2, w ∈ lw_all := show ∀ w ∈ [u_lay RX3 TX3 0, u_lay RX3 TX3 1], w ∈ lw_all from (List.forall_mem_cons.mpr ⟨lw_in 176 rfl rfl, (List.forall_mem_cons.mpr ⟨lw_in 178 rfl rfl, (fun _ h => absurd h List.not_mem_nil)⟩)⟩)
set_option maxRecDepth 20000 in
theorem iX4 : ∀ w ∈ u_ws RX4 TX4 2, w ∈ lw_all := show ∀ w ∈ [u_lay RX4 TX4 0, u_lay RX4 TX4 1], w ∈ lw_all from (List.forall_mem_cons.mpr ⟨lw_in 209 rfl rfl, (List.forall_mem_cons.mpr ⟨lw_in 211 rfl rfl, (fun _ h => absurd h List.not_mem_nil)⟩)⟩)
set_option maxRecDepth 20000 in
theorem iX5 : ∀ w ∈ u_ws RX5 TX5 3, w ∈ lw_all := show ∀ w ∈ [u_lay RX5 TX5 0, u_lay RX5 TX5 1, u_lay RX5 TX5 2], w ∈ lw_all from (List.forall_mem_cons.mpr ⟨lw_in 132 rfl rfl, (List.forall_mem_cons.mpr ⟨lw_in 134 rfl rfl, (List.forall_mem_cons.mpr ⟨lw_in 136 rfl rfl, (fun _ h => absurd h List.not_mem_nil)⟩)⟩)⟩)
set_option maxRecDepth 20000 in
theorem iX6 : ∀ w ∈ u_ws RX6 TX6 4, w ∈ lw_all := show ∀ w ∈ [u_lay RX6 TX6 0, u_lay RX6 TX6 1, u_lay RX6 TX6 2, u_lay RX6 TX6 3], w ∈ lw_all from (List.forall_mem_cons.mpr ⟨lw_in 192 rfl rfl, (List.forall_mem_cons.mpr ⟨lw_in 194 rfl rfl, (List.forall_mem_cons.mpr ⟨lw_in 196 rfl rfl, (List.forall_mem_cons.mpr ⟨lw_in 198 rfl rfl, (fun _ h => absurd h List.not_mem_nil)⟩)⟩)⟩)⟩)
set_option maxRecDepth 20000 in
theorem iX7 : ∀ w ∈ u_ws RX7 TX7 3, w ∈ lw_all := show ∀ w ∈ [u_lay RX7 TX7 0, u_lay RX7 TX7 1, u_lay RX7 TX7 2], w ∈ lw_all from (List.forall_mem_cons.mpr ⟨lw_in 161 rfl rfl, (List.forall_mem_cons.mpr ⟨lw_in 163 rfl rfl, (List.forall_mem_cons.mpr ⟨lw_in 165 rfl rfl, (fun _ h => absurd h List.not_mem_nil)⟩)⟩)⟩)
set_option maxRecDepth 20000 in
theorem iX8 : ∀ w ∈ u_ws RX8 TX8 11, w ∈ lw_all := show ∀ w ∈ [u_lay RX8 TX8 0, u_lay RX8 TX8 1, u_lay RX8 TX8 2, u_lay RX8 TX8 3, u_lay RX8 TX8 4, u_lay RX8 TX8 5, u_lay RX8 TX8 6, u_lay RX8 TX8 7, u_lay RX8 TX8 8, u_lay RX8 TX8 9, u_lay RX8 TX8 10], w ∈ lw_all from (List.forall_mem_cons.mpr ⟨lw_in 225 rfl rfl, (List.forall_mem_cons.mpr ⟨lw_in 227 rfl rfl, (List.forall_mem_cons.mpr ⟨lw_in 229 rfl rfl, (List.forall_mem_cons.mpr ⟨lw_in 231 rfl rfl, (List.forall_mem_cons.mpr ⟨lw_in 233 rfl rfl, (List.forall_mem_cons.mpr ⟨lw_in 235 rfl rfl, (List.forall_mem_cons.mpr ⟨lw_in 237 rfl rfl, (List.forall_mem_cons.mpr ⟨lw_in 239 rfl rfl, (List.forall_mem_cons.mpr ⟨lw_in 241 rfl rfl, (List.forall_mem_cons.mpr ⟨lw_in 243 rfl rfl, (List.forall_mem_cons.mpr ⟨lw_in 245 rfl rfl, (fun _ h => absurd h List.not_mem_nil)⟩)⟩)⟩)⟩)⟩)⟩)⟩)⟩)⟩)⟩)⟩)
