/-! a call of the law's own methods -/
theorem wsw_s {own : String} {idx : Nat} {y : MethodName} {c : ByteArray} {n : Nat} {r : Option FieldType} {hh : List (Nat × Nat × Nat × Nat)} (ha : Cond.methodLink own idx y ∈ lw_all) (hb : Cond.static y ∈ lw_all) (hc : Cond.initialized y.cls ∈ lw_all) (h : Cond.codeWith y c n r hh ∈ lw_all) : GoodIn lw_all (va_wsS own idx y (wsw_ y c n r hh)) := ws_c3 ha hb hc (wsw_g h)
section PXSL
variable {p : Program} {l : Launch} {e : Env} {R : Room} {s : State} {m : MethodId} {args : Array Value} {below : List Frame} {meth : Method} {c : Code} {H : Heap} {locs : List Loc} {cells slots : Nat} {Q : State → Prop}
variable {y : MethodName} {bytes cc : ByteArray} {maxL nL mc ms n index pc : Nat} {hh : List (Nat × Nat × Nat × Nat)} {rm : Room} {own : String} {As rest st0 : List Value} {E : PE} {X : PX} {L : LX} {A0 : Nat → Prop} {gs gr gc g1 g2 : List va_W} {v : Option Value} {ls : Array Slot}
theorem px_SL (S : CallFix p m c cc nL s args lw_all own) (hM : ML l y bytes maxL hh rm E X L As gc.flatten mc ms v g1.flatten) (cw : vx_CSW R s args own index y bytes maxL (some .int) hh (wsw_ y bytes maxL (some .int) hh) rm mc ms n)
    (hK : va_K E.1 vwCl (tyE E) s) (hN : px_N s) (hX : px_X X A0 s s.heap) (hLL : px_L E L s) (hP : va_P E.1 vwCl gs.flatten H) (hD : va_D A0 gs.flatten) (hS : va_S A0 s.heap H locs) (hA : ∀ q, s.heap.size ≤ q → A0 q)
    (iR iC iF : List Nat) (hR : iR.map (fun i => gs[i]?) = gr.map some) (hC : iC.map (fun i => gs[i]?) = gc.map some) (hn : va_nd (iR ++ iC) = true) (hnC : va_nd iC = true) (hF : iF.map (fun i => (gr ++ g1)[i]?) = g2.map some) (hnF : va_nd iF = true)
    (hlen : As.length = n) (hls : ls.size = nL) (hst : st0 = As.reverse ++ rest) (hroom : (rest.map fun v => v.category).sum ≤ 8) (hdg : decode cc pc = .ok (.invokestatic index, 3)) (hf : cells + mc ≤ R.cells ∧ slots + ms ≤ R.slots)
    (kk : ∀ (H1 : Heap) (locs1 : List Loc), va_P E.1 vwCl g2.flatten H1 → va_D A0 g2.flatten → va_S A0 s.heap H1 locs1 → W p l e R s m args below meth c H1 locs1 (cells + mc) (slots + ms) Q (F0 m (pc + 3) ls (v.toList ++ rest))) : W p l e R s m args below meth c H locs cells slots Q (F0 m pc ls st0) :=
  px_go (vx_runSW S (hM H.size) cw ⟨PWL_blind, fun U h1 h2 => ⟨px_preX hK hN hX hP hD hS hA iC hC hnC U h1 h2, px_L.moved h2.alike hLL⟩⟩ rfl hlen hls hst (lv_room (pc := pc) (ls := ls) (m := m) (rest := []) hroom) hdg hf) hP hD hS hA iR iC iF hR hC hn hF hnF kk
end PXSL
set_option maxRecDepth 20000 in
theorem q387 : (Jvm.Cond.codeWith ({ cls := "RecipeForestsLaw", name := "edit", desc := "(LRecipeForests;III[J)I" } : Jvm.MethodName) method_3_code (6 : Nat) (Option.some Jvm.ClassFile.FieldType.int) [((0 : Nat), (12 : Nat), (15 : Nat), (13 : Nat)), ((0 : Nat), (12 : Nat), (19 : Nat), (15 : Nat)), ((0 : Nat), (12 : Nat), (23 : Nat), (17 : Nat))]) ∈ lw_all := lw_in 387 rfl rfl
set_option maxRecDepth 20000 in
theorem q555 : (Jvm.Cond.codeWith ({ cls := "RecipeForestsLaw", name := "fork", desc := "(LRecipeForests;I[J)I" } : Jvm.MethodName) method_4_code (4 : Nat) (Option.some Jvm.ClassFile.FieldType.int) [((0 : Nat), (9 : Nat), (12 : Nat), (13 : Nat)), ((0 : Nat), (9 : Nat), (15 : Nat), (17 : Nat))]) ∈ lw_all := lw_in 555 rfl rfl
set_option maxRecDepth 20000 in
theorem q571 : (Jvm.Cond.codeWith ({ cls := "RecipeForestsLaw", name := "reset", desc := "(LRecipeForests;II[J)I" } : Jvm.MethodName) method_5_code (5 : Nat) (Option.some Jvm.ClassFile.FieldType.int) [((0 : Nat), (10 : Nat), (13 : Nat), (13 : Nat)), ((0 : Nat), (10 : Nat), (17 : Nat), (17 : Nat))]) ∈ lw_all := lw_in 571 rfl rfl
set_option maxRecDepth 20000 in
theorem q590 : (Jvm.Cond.codeWith ({ cls := "RecipeForestsLaw", name := "tip", desc := "(LRecipeForests;I[J)I" } : Jvm.MethodName) method_6_code (4 : Nat) (Option.some Jvm.ClassFile.FieldType.int) [((0 : Nat), (9 : Nat), (12 : Nat), (13 : Nat))]) ∈ lw_all := lw_in 590 rfl rfl
set_option maxRecDepth 20000 in
theorem q603 : (Jvm.Cond.codeWith ({ cls := "RecipeForestsLaw", name := "amount", desc := "(LRecipeForests;II[J)I" } : Jvm.MethodName) method_7_code (5 : Nat) (Option.some Jvm.ClassFile.FieldType.int) [((0 : Nat), (10 : Nat), (13 : Nat), (13 : Nat))]) ∈ lw_all := lw_in 603 rfl rfl
set_option maxRecDepth 20000 in
theorem q623 : (Jvm.Cond.codeWith ({ cls := "RecipeForestsLaw", name := "commitOf", desc := "(LRecipeForests;II[J)I" } : Jvm.MethodName) method_8_code (5 : Nat) (Option.some Jvm.ClassFile.FieldType.int) [((0 : Nat), (10 : Nat), (13 : Nat), (13 : Nat)), ((0 : Nat), (10 : Nat), (17 : Nat), (15 : Nat))]) ∈ lw_all := lw_in 623 rfl rfl
set_option maxRecDepth 20000 in
theorem q643 : (Jvm.Cond.codeWith ({ cls := "RecipeForestsLaw", name := "merge", desc := "(LRecipeForests;III[J)I" } : Jvm.MethodName) method_9_code (6 : Nat) (Option.some Jvm.ClassFile.FieldType.int) [((0 : Nat), (12 : Nat), (15 : Nat), (13 : Nat)), ((0 : Nat), (12 : Nat), (19 : Nat), (15 : Nat)), ((0 : Nat), (12 : Nat), (23 : Nat), (17 : Nat))]) ∈ lw_all := lw_in 643 rfl rfl
set_option maxRecDepth 20000 in
theorem q681 : (Jvm.Cond.codeWith ({ cls := "RecipeForestsLaw", name := "pick", desc := "(LRecipeForests;III[J)I" } : Jvm.MethodName) method_10_code (6 : Nat) (Option.some Jvm.ClassFile.FieldType.int) [((0 : Nat), (12 : Nat), (15 : Nat), (13 : Nat)), ((0 : Nat), (12 : Nat), (19 : Nat), (15 : Nat)), ((0 : Nat), (12 : Nat), (23 : Nat), (17 : Nat))]) ∈ lw_all := lw_in 681 rfl rfl
set_option maxRecDepth 20000 in
theorem q701 : (Jvm.Cond.codeWith ({ cls := "RecipeForestsLaw", name := "revert", desc := "(LRecipeForests;III[J)I" } : Jvm.MethodName) method_11_code (6 : Nat) (Option.some Jvm.ClassFile.FieldType.int) [((0 : Nat), (12 : Nat), (15 : Nat), (13 : Nat)), ((0 : Nat), (12 : Nat), (19 : Nat), (15 : Nat)), ((0 : Nat), (12 : Nat), (23 : Nat), (17 : Nat))]) ∈ lw_all := lw_in 701 rfl rfl
set_option maxRecDepth 20000 in
theorem q712 : (Jvm.Cond.codeWith ({ cls := "RecipeForestsLaw", name := "conflicts", desc := "(LRecipeForests;II[J)I" } : Jvm.MethodName) method_12_code (5 : Nat) (Option.some Jvm.ClassFile.FieldType.int) [((0 : Nat), (10 : Nat), (13 : Nat), (13 : Nat))]) ∈ lw_all := lw_in 712 rfl rfl
set_option maxRecDepth 20000 in
theorem q723 : (Jvm.Cond.codeWith ({ cls := "RecipeForestsLaw", name := "isIn", desc := "(LRecipeForests;II[J)I" } : Jvm.MethodName) method_13_code (5 : Nat) (Option.some Jvm.ClassFile.FieldType.int) [((0 : Nat), (17 : Nat), (20 : Nat), (13 : Nat))]) ∈ lw_all := lw_in 723 rfl rfl
set_option maxRecDepth 20000 in
theorem q731 : (Jvm.Cond.codeWith ({ cls := "RecipeForestsLaw", name := "base", desc := "(LRecipeForests;II[J)I" } : Jvm.MethodName) method_14_code (5 : Nat) (Option.some Jvm.ClassFile.FieldType.int) [((0 : Nat), (10 : Nat), (13 : Nat), (13 : Nat))]) ∈ lw_all := lw_in 731 rfl rfl
set_option maxRecDepth 20000 in
theorem q739 : (Jvm.Cond.codeWith ({ cls := "RecipeForestsLaw", name := "baseAgain", desc := "(LRecipeForests;II[J)I" } : Jvm.MethodName) method_15_code (5 : Nat) (Option.some Jvm.ClassFile.FieldType.int) [((0 : Nat), (10 : Nat), (13 : Nat), (13 : Nat))]) ∈ lw_all := lw_in 739 rfl rfl
set_option maxRecDepth 20000 in
theorem q747 : (Jvm.Cond.codeWith ({ cls := "RecipeForestsLaw", name := "difference", desc := "(LRecipeForests;II[J)I" } : Jvm.MethodName) method_16_code (5 : Nat) (Option.some Jvm.ClassFile.FieldType.int) [((0 : Nat), (10 : Nat), (13 : Nat), (13 : Nat))]) ∈ lw_all := lw_in 747 rfl rfl
set_option maxRecDepth 20000 in
theorem q757 : (Jvm.Cond.codeWith ({ cls := "RecipeForestsLaw", name := "onLine", desc := "(LRecipeForests;II[J)I" } : Jvm.MethodName) method_17_code (5 : Nat) (Option.some Jvm.ClassFile.FieldType.int) [((0 : Nat), (10 : Nat), (13 : Nat), (13 : Nat)), ((0 : Nat), (10 : Nat), (17 : Nat), (64 : Nat))]) ∈ lw_all := lw_in 757 rfl rfl
set_option maxRecDepth 20000 in
theorem q790 : (Jvm.Cond.codeWith ({ cls := "RecipeForestsLaw", name := "halve", desc := "(LRecipeForests;IIIZ[J)I" } : Jvm.MethodName) method_18_code (7 : Nat) (Option.some Jvm.ClassFile.FieldType.int) [((0 : Nat), (14 : Nat), (17 : Nat), (13 : Nat)), ((0 : Nat), (14 : Nat), (21 : Nat), (15 : Nat)), ((0 : Nat), (14 : Nat), (25 : Nat), (64 : Nat))]) ∈ lw_all := lw_in 790 rfl rfl
set_option maxRecDepth 20000 in
theorem q814 : (Jvm.Cond.codeWith ({ cls := "RecipeForestsLaw", name := "firstBad", desc := "(LRecipeForests;III[J)I" } : Jvm.MethodName) method_19_code (6 : Nat) (Option.some Jvm.ClassFile.FieldType.int) [((0 : Nat), (12 : Nat), (15 : Nat), (13 : Nat)), ((0 : Nat), (12 : Nat), (19 : Nat), (15 : Nat)), ((0 : Nat), (12 : Nat), (23 : Nat), (64 : Nat))]) ∈ lw_all := lw_in 814 rfl rfl
set_option maxRecDepth 20000 in
theorem q826 : (Jvm.Cond.codeWith ({ cls := "RecipeForestsLaw", name := "blame", desc := "(LRecipeForests;II[J)I" } : Jvm.MethodName) method_20_code (5 : Nat) (Option.some Jvm.ClassFile.FieldType.int) [((0 : Nat), (10 : Nat), (13 : Nat), (13 : Nat))]) ∈ lw_all := lw_in 826 rfl rfl
set_option maxRecDepth 20000 in
theorem q837 : (Jvm.Cond.codeWith ({ cls := "RecipeForestsLaw", name := "taste", desc := "(LRecipeForests;I[D)I" } : Jvm.MethodName) method_21_code (4 : Nat) (Option.some Jvm.ClassFile.FieldType.int) [((0 : Nat), (9 : Nat), (12 : Nat), (13 : Nat))]) ∈ lw_all := lw_in 837 rfl rfl
set_option maxRecDepth 20000 in
theorem q844 : (Jvm.Cond.codeWith ({ cls := "RecipeForestsLaw", name := "tasteBits", desc := "(LRecipeForests;I[J)I" } : Jvm.MethodName) method_22_code (4 : Nat) (Option.some Jvm.ClassFile.FieldType.int) [((0 : Nat), (9 : Nat), (12 : Nat), (13 : Nat))]) ∈ lw_all := lw_in 844 rfl rfl
set_option maxRecDepth 20000 in
theorem q855 : (Jvm.Cond.codeWith ({ cls := "RecipeForestsLaw", name := "tastiest", desc := "(LRecipeForests;I[J)I" } : Jvm.MethodName) method_23_code (4 : Nat) (Option.some Jvm.ClassFile.FieldType.int) [((0 : Nat), (9 : Nat), (12 : Nat), (13 : Nat))]) ∈ lw_all := lw_in 855 rfl rfl
set_option maxRecDepth 20000 in
theorem q867 : (Jvm.Cond.codeWith ({ cls := "RecipeForestsLaw", name := "bundle", desc := "(LRecipeForests;I[J)I" } : Jvm.MethodName) method_24_code (4 : Nat) (Option.some Jvm.ClassFile.FieldType.int) [((0 : Nat), (9 : Nat), (12 : Nat), (15 : Nat))]) ∈ lw_all := lw_in 867 rfl rfl
set_option maxRecDepth 20000 in
theorem q886 : (Jvm.Cond.codeWith ({ cls := "RecipeForestsLaw", name := "put", desc := "(LRecipeForests;II[J)I" } : Jvm.MethodName) method_25_code (5 : Nat) (Option.some Jvm.ClassFile.FieldType.int) [((0 : Nat), (10 : Nat), (13 : Nat), (13 : Nat)), ((0 : Nat), (10 : Nat), (17 : Nat), (17 : Nat))]) ∈ lw_all := lw_in 886 rfl rfl
set_option maxRecDepth 20000 in
theorem q913 : (Jvm.Cond.codeWith ({ cls := "RecipeForestsLaw", name := "inBundle", desc := "(LRecipeForests;I[J)I" } : Jvm.MethodName) method_26_code (4 : Nat) (Option.some Jvm.ClassFile.FieldType.int) [((0 : Nat), (9 : Nat), (12 : Nat), (13 : Nat)), ((0 : Nat), (9 : Nat), (15 : Nat), (64 : Nat))]) ∈ lw_all := lw_in 913 rfl rfl
set_option maxRecDepth 20000 in
theorem q926 : (Jvm.Cond.codeWith ({ cls := "RecipeForestsLaw", name := "play", desc := "(LRecipeForests;II[J)I" } : Jvm.MethodName) method_27_code (5 : Nat) (Option.some Jvm.ClassFile.FieldType.int) [((0 : Nat), (10 : Nat), (13 : Nat), (13 : Nat)), ((0 : Nat), (10 : Nat), (17 : Nat), (15 : Nat)), ((0 : Nat), (10 : Nat), (21 : Nat), (17 : Nat))]) ∈ lw_all := lw_in 926 rfl rfl
set_option maxRecDepth 20000 in
theorem q939 : (Jvm.Cond.codeWith ({ cls := "RecipeForestsLaw", name := "line", desc := "(LRecipeForests;I[J)I" } : Jvm.MethodName) method_28_code (4 : Nat) (Option.some Jvm.ClassFile.FieldType.int) [((0 : Nat), (9 : Nat), (12 : Nat), (13 : Nat))]) ∈ lw_all := lw_in 939 rfl rfl
set_option maxRecDepth 20000 in
theorem q963 : (Jvm.Cond.codeWith ({ cls := "RecipeForestsLaw", name := "character", desc := "(LRecipeForests;I[J)I" } : Jvm.MethodName) method_29_code (4 : Nat) (Option.some Jvm.ClassFile.FieldType.int) [((0 : Nat), (9 : Nat), (12 : Nat), (13 : Nat))]) ∈ lw_all := lw_in 963 rfl rfl
set_option maxRecDepth 20000 in
theorem q980 : (Jvm.Cond.codeWith ({ cls := "RecipeForestsLaw", name := "append", desc := "(LRecipeForests;C[J)I" } : Jvm.MethodName) method_30_code (4 : Nat) (Option.some Jvm.ClassFile.FieldType.int) [((0 : Nat), (9 : Nat), (12 : Nat), (109 : Nat))]) ∈ lw_all := lw_in 980 rfl rfl
set_option maxRecDepth 20000 in
theorem q1012 : (Jvm.Cond.codeWith ({ cls := "RecipeForestsLaw", name := "read", desc := "(LRecipeForests;[J)I" } : Jvm.MethodName) method_31_code (3 : Nat) (Option.some Jvm.ClassFile.FieldType.int) [((0 : Nat), (8 : Nat), (11 : Nat), (15 : Nat)), ((0 : Nat), (8 : Nat), (14 : Nat), (17 : Nat))]) ∈ lw_all := lw_in 1012 rfl rfl
set_option maxRecDepth 20000 in
theorem q1126 : (Jvm.Cond.codeWith ({ cls := "RecipeForestsLaw", name := "refusal", desc := "(LRecipeForests;Z[J)I" } : Jvm.MethodName) method_32_code (4 : Nat) (Option.some Jvm.ClassFile.FieldType.int) [((0 : Nat), (9 : Nat), (12 : Nat), (64 : Nat))]) ∈ lw_all := lw_in 1126 rfl rfl
set_option maxRecDepth 20000 in
theorem q1142 : (Jvm.Cond.codeWith ({ cls := "RecipeForestsLaw", name := "account", desc := "(LRecipeForests;I[J)I" } : Jvm.MethodName) method_33_code (4 : Nat) (Option.some Jvm.ClassFile.FieldType.int) [((0 : Nat), (9 : Nat), (12 : Nat), (15 : Nat))]) ∈ lw_all := lw_in 1142 rfl rfl
set_option maxRecDepth 20000 in
theorem q1170 : (Jvm.Cond.codeWith ({ cls := "RecipeForestsLaw", name := "undo", desc := "(LRecipeForests;[J)I" } : Jvm.MethodName) method_34_code (3 : Nat) (Option.some Jvm.ClassFile.FieldType.int) [((0 : Nat), (8 : Nat), (11 : Nat), (109 : Nat))]) ∈ lw_all := lw_in 1170 rfl rfl
set_option maxRecDepth 20000 in
theorem q1182 : (Jvm.Cond.codeWith ({ cls := "RecipeForestsLaw", name := "restore", desc := "(LRecipeForests;[J)I" } : Jvm.MethodName) method_35_code (3 : Nat) (Option.some Jvm.ClassFile.FieldType.int) [((0 : Nat), (8 : Nat), (11 : Nat), (109 : Nat))]) ∈ lw_all := lw_in 1182 rfl rfl
theorem hdS_L_account : yL_account.cls ≠ "java/lang/invoke/MethodHandle" ∧ yL_account.cls ≠ "java/lang/invoke/VarHandle" ∧ (parseMethodDescriptor yL_account.desc).map (fun d => d.parameters.length) = some 3 := by decide +kernel
theorem hdS_L_amount : yL_amount.cls ≠ "java/lang/invoke/MethodHandle" ∧ yL_amount.cls ≠ "java/lang/invoke/VarHandle" ∧ (parseMethodDescriptor yL_amount.desc).map (fun d => d.parameters.length) = some 4 := by decide +kernel
theorem hdS_L_append : yL_append.cls ≠ "java/lang/invoke/MethodHandle" ∧ yL_append.cls ≠ "java/lang/invoke/VarHandle" ∧ (parseMethodDescriptor yL_append.desc).map (fun d => d.parameters.length) = some 3 := by decide +kernel
theorem hdS_L_base : yL_base.cls ≠ "java/lang/invoke/MethodHandle" ∧ yL_base.cls ≠ "java/lang/invoke/VarHandle" ∧ (parseMethodDescriptor yL_base.desc).map (fun d => d.parameters.length) = some 4 := by decide +kernel
theorem hdS_L_baseAgain : yL_baseAgain.cls ≠ "java/lang/invoke/MethodHandle" ∧ yL_baseAgain.cls ≠ "java/lang/invoke/VarHandle" ∧ (parseMethodDescriptor yL_baseAgain.desc).map (fun d => d.parameters.length) = some 4 := by decide +kernel
theorem hdS_L_blame : yL_blame.cls ≠ "java/lang/invoke/MethodHandle" ∧ yL_blame.cls ≠ "java/lang/invoke/VarHandle" ∧ (parseMethodDescriptor yL_blame.desc).map (fun d => d.parameters.length) = some 4 := by decide +kernel
theorem hdS_L_bundle : yL_bundle.cls ≠ "java/lang/invoke/MethodHandle" ∧ yL_bundle.cls ≠ "java/lang/invoke/VarHandle" ∧ (parseMethodDescriptor yL_bundle.desc).map (fun d => d.parameters.length) = some 3 := by decide +kernel
theorem hdS_L_character : yL_character.cls ≠ "java/lang/invoke/MethodHandle" ∧ yL_character.cls ≠ "java/lang/invoke/VarHandle" ∧ (parseMethodDescriptor yL_character.desc).map (fun d => d.parameters.length) = some 3 := by decide +kernel
theorem hdS_L_commitOf : yL_commitOf.cls ≠ "java/lang/invoke/MethodHandle" ∧ yL_commitOf.cls ≠ "java/lang/invoke/VarHandle" ∧ (parseMethodDescriptor yL_commitOf.desc).map (fun d => d.parameters.length) = some 4 := by decide +kernel
theorem hdS_L_conflicts : yL_conflicts.cls ≠ "java/lang/invoke/MethodHandle" ∧ yL_conflicts.cls ≠ "java/lang/invoke/VarHandle" ∧ (parseMethodDescriptor yL_conflicts.desc).map (fun d => d.parameters.length) = some 4 := by decide +kernel
theorem hdS_L_difference : yL_difference.cls ≠ "java/lang/invoke/MethodHandle" ∧ yL_difference.cls ≠ "java/lang/invoke/VarHandle" ∧ (parseMethodDescriptor yL_difference.desc).map (fun d => d.parameters.length) = some 4 := by decide +kernel
theorem hdS_L_edit : yL_edit.cls ≠ "java/lang/invoke/MethodHandle" ∧ yL_edit.cls ≠ "java/lang/invoke/VarHandle" ∧ (parseMethodDescriptor yL_edit.desc).map (fun d => d.parameters.length) = some 5 := by decide +kernel
theorem hdS_L_firstBad : yL_firstBad.cls ≠ "java/lang/invoke/MethodHandle" ∧ yL_firstBad.cls ≠ "java/lang/invoke/VarHandle" ∧ (parseMethodDescriptor yL_firstBad.desc).map (fun d => d.parameters.length) = some 5 := by decide +kernel
theorem hdS_L_fork : yL_fork.cls ≠ "java/lang/invoke/MethodHandle" ∧ yL_fork.cls ≠ "java/lang/invoke/VarHandle" ∧ (parseMethodDescriptor yL_fork.desc).map (fun d => d.parameters.length) = some 3 := by decide +kernel
theorem hdS_L_halve : yL_halve.cls ≠ "java/lang/invoke/MethodHandle" ∧ yL_halve.cls ≠ "java/lang/invoke/VarHandle" ∧ (parseMethodDescriptor yL_halve.desc).map (fun d => d.parameters.length) = some 6 := by decide +kernel
theorem hdS_L_inBundle : yL_inBundle.cls ≠ "java/lang/invoke/MethodHandle" ∧ yL_inBundle.cls ≠ "java/lang/invoke/VarHandle" ∧ (parseMethodDescriptor yL_inBundle.desc).map (fun d => d.parameters.length) = some 3 := by decide +kernel
theorem hdS_L_isIn : yL_isIn.cls ≠ "java/lang/invoke/MethodHandle" ∧ yL_isIn.cls ≠ "java/lang/invoke/VarHandle" ∧ (parseMethodDescriptor yL_isIn.desc).map (fun d => d.parameters.length) = some 4 := by decide +kernel
theorem hdS_L_line : yL_line.cls ≠ "java/lang/invoke/MethodHandle" ∧ yL_line.cls ≠ "java/lang/invoke/VarHandle" ∧ (parseMethodDescriptor yL_line.desc).map (fun d => d.parameters.length) = some 3 := by decide +kernel
theorem hdS_L_merge : yL_merge.cls ≠ "java/lang/invoke/MethodHandle" ∧ yL_merge.cls ≠ "java/lang/invoke/VarHandle" ∧ (parseMethodDescriptor yL_merge.desc).map (fun d => d.parameters.length) = some 5 := by decide +kernel
theorem hdS_L_onLine : yL_onLine.cls ≠ "java/lang/invoke/MethodHandle" ∧ yL_onLine.cls ≠ "java/lang/invoke/VarHandle" ∧ (parseMethodDescriptor yL_onLine.desc).map (fun d => d.parameters.length) = some 4 := by decide +kernel
theorem hdS_L_pick : yL_pick.cls ≠ "java/lang/invoke/MethodHandle" ∧ yL_pick.cls ≠ "java/lang/invoke/VarHandle" ∧ (parseMethodDescriptor yL_pick.desc).map (fun d => d.parameters.length) = some 5 := by decide +kernel
theorem hdS_L_play : yL_play.cls ≠ "java/lang/invoke/MethodHandle" ∧ yL_play.cls ≠ "java/lang/invoke/VarHandle" ∧ (parseMethodDescriptor yL_play.desc).map (fun d => d.parameters.length) = some 4 := by decide +kernel
theorem hdS_L_put : yL_put.cls ≠ "java/lang/invoke/MethodHandle" ∧ yL_put.cls ≠ "java/lang/invoke/VarHandle" ∧ (parseMethodDescriptor yL_put.desc).map (fun d => d.parameters.length) = some 4 := by decide +kernel
theorem hdS_L_read : yL_read.cls ≠ "java/lang/invoke/MethodHandle" ∧ yL_read.cls ≠ "java/lang/invoke/VarHandle" ∧ (parseMethodDescriptor yL_read.desc).map (fun d => d.parameters.length) = some 2 := by decide +kernel
theorem hdS_L_refusal : yL_refusal.cls ≠ "java/lang/invoke/MethodHandle" ∧ yL_refusal.cls ≠ "java/lang/invoke/VarHandle" ∧ (parseMethodDescriptor yL_refusal.desc).map (fun d => d.parameters.length) = some 3 := by decide +kernel
theorem hdS_L_reset : yL_reset.cls ≠ "java/lang/invoke/MethodHandle" ∧ yL_reset.cls ≠ "java/lang/invoke/VarHandle" ∧ (parseMethodDescriptor yL_reset.desc).map (fun d => d.parameters.length) = some 4 := by decide +kernel
theorem hdS_L_restore : yL_restore.cls ≠ "java/lang/invoke/MethodHandle" ∧ yL_restore.cls ≠ "java/lang/invoke/VarHandle" ∧ (parseMethodDescriptor yL_restore.desc).map (fun d => d.parameters.length) = some 2 := by decide +kernel
theorem hdS_L_revert : yL_revert.cls ≠ "java/lang/invoke/MethodHandle" ∧ yL_revert.cls ≠ "java/lang/invoke/VarHandle" ∧ (parseMethodDescriptor yL_revert.desc).map (fun d => d.parameters.length) = some 5 := by decide +kernel
theorem hdS_L_taste : yL_taste.cls ≠ "java/lang/invoke/MethodHandle" ∧ yL_taste.cls ≠ "java/lang/invoke/VarHandle" ∧ (parseMethodDescriptor yL_taste.desc).map (fun d => d.parameters.length) = some 3 := by decide +kernel
theorem hdS_L_tasteBits : yL_tasteBits.cls ≠ "java/lang/invoke/MethodHandle" ∧ yL_tasteBits.cls ≠ "java/lang/invoke/VarHandle" ∧ (parseMethodDescriptor yL_tasteBits.desc).map (fun d => d.parameters.length) = some 3 := by decide +kernel
theorem hdS_L_tastiest : yL_tastiest.cls ≠ "java/lang/invoke/MethodHandle" ∧ yL_tastiest.cls ≠ "java/lang/invoke/VarHandle" ∧ (parseMethodDescriptor yL_tastiest.desc).map (fun d => d.parameters.length) = some 3 := by decide +kernel
theorem hdS_L_tip : yL_tip.cls ≠ "java/lang/invoke/MethodHandle" ∧ yL_tip.cls ≠ "java/lang/invoke/VarHandle" ∧ (parseMethodDescriptor yL_tip.desc).map (fun d => d.parameters.length) = some 3 := by decide +kernel
theorem hdS_L_undo : yL_undo.cls ≠ "java/lang/invoke/MethodHandle" ∧ yL_undo.cls ≠ "java/lang/invoke/VarHandle" ∧ (parseMethodDescriptor yL_undo.desc).map (fun d => d.parameters.length) = some 2 := by decide +kernel
