def sLen : List Nat := [5, 1, 5, 5, 3, 0, 1, 1, 1, 3, 1, 1, 1, 1, 5, 14, 9]
def sByt : List (List Int32) := [[49, 46, 49, 61, 50], [49], [49, 60, 49, 33, 49], [49, 60, 50, 33, 49], [49, 61, 50], [], [101], [46], [61], [59, 102, 48], [109], [60], [33], [113], [102, 48, 59, 102, 57], [102, 48, 59, 102, 48, 59, 102, 48, 59, 102, 48, 59, 102, 48], [114, 48, 61, 48, 59, 114, 48, 61, 48]]
def strs : List (String × Nat × String) := [(RX6, 65, "1.1=2"), (RX6, 67, "1"), (RX6, 69, "1<1!1"), (RX6, 71, "1<2!1"), (RX6, 73, "1=2"), (RX6, 75, ""), (RL, 246, "e"), (RL, 254, "."), (RL, 256, "="), (RL, 258, ";f0"), (RL, 264, "m"), (RL, 266, "<"), (RL, 268, "!"), (RL, 282, "q"), (RL, 287, "f0;f9"), (RL, 289, "f0;f0;f0;f0;f0"), (RL, 291, "r0=0;r0=0"), (RX8, 324, "there is no such branch, commit, ingredient or place"), (RX8, 326, "an argument or an order is out of range"), (RX8, 330, "it is refused"), (RX8, 336, "there is no such branch"), (RX8, 341, "there is no such commit"), (RX8, 133, "there is no such number of a commit"), (RX8, 346, "there is no such ingredient"), (RX8, 351, "the limit is out of range"), (RX8, 180, "the tip is not bad"), (RX8, 193, "no commit is bad"), (RX8, 250, "the input is full"), (RX8, 264, "the text has an error"), (RX8, 303, "there is no such account"), (RX8, 311, "no change can be undone"), (RX8, 316, "there is no snapshot"), (RX8, 273, "nothing was refused"), (RX8, 238, "there is no such index"), (RX8, 174, "there is no such place"), (RX8, 227, "the place is empty"), (RJ7, 337, " > ")]
abbrev PS : Type := Nat × Nat × Nat × (Nat → Int32)
abbrev PX : Type := (Nat → Nat) × (Nat → Nat) × List PS
/-- a String of Latin letters at d.1 that nobody writes: its row at d.2.1, its length, its bytes -/
def px_Str (d : PS) (A : Nat → Prop) (U : State) (H : Heap) : Prop := va_O "java/lang/String" d.1 A U H ∧ va_OF "java/lang/String" "coder" "B" (.int 0) d.1 A U H ∧ va_OF "java/lang/String" "value" "[B" (.ref d.2.1) d.1 A U H ∧ va_T .byte d.2.1 d.2.2.1 (fun j => .int (d.2.2.2 j)) A U H
theorem px_Str.kept {d : PS} {A : Nat → Prop} {U : State} {H H1 : Heap} (h : px_Str d A U H) (hq : ∀ a : Nat, a < H.size → ¬ A a → H1[a]? = H[a]?) : px_Str d A U H1 := ⟨h.1.kept hq, h.2.1.kept hq, h.2.2.1.kept hq, h.2.2.2.kept hq⟩
theorem px_Str.narrow {d : PS} {A B : Nat → Prop} {U : State} {H : Heap} (h : px_Str d A U H) (hAB : ∀ q, B q → A q) : px_Str d B U H := ⟨h.1.narrow hAB, h.2.1.narrow hAB, h.2.2.1.narrow hAB, h.2.2.2.narrow hAB⟩
theorem px_Str.moved {d : PS} {A : Nat → Prop} {u U : State} {H : Heap} (hvm : u.vm.Alike U.vm) (h : px_Str d A u H) : px_Str d A U H := ⟨h.1.moved hvm, h.2.1.moved hvm, h.2.2.1.moved hvm, h.2.2.2.moved hvm⟩
def px_cast : List (String × String) := [("java/lang/IndexOutOfBoundsException", "java/lang/IndexOutOfBoundsException"), ("java/lang/IllegalArgumentException", "java/lang/IllegalArgumentException"), ("java/lang/UnsupportedOperationException", "java/lang/UnsupportedOperationException"), ("java/util/NoSuchElementException", "java/util/NoSuchElementException"), ("java/lang/IllegalStateException", "java/lang/IllegalStateException"), ("[B", "java/lang/Cloneable"), ("RecipeForests", "java/lang/Object"), ("RecipeForests$Forest", "java/lang/Object"), ("RecipeForests$History", "java/lang/Object"), ("RecipeForests$Desk", "java/lang/Object"), ("RecipeForests$Mix", "java/lang/Object"), ("RecipeForests$Walk", "java/lang/Object"), ("RecipeForests$Input", "java/lang/Object"), ("RecipeForests$Orders", "java/lang/Object"), ("RecipeForests$Line", "java/lang/Object"), ("java/lang/IllegalStateException", "java/lang/Object"), ("java/lang/IndexOutOfBoundsException", "java/lang/Object"), ("java/lang/IllegalArgumentException", "java/lang/Object"), ("java/lang/UnsupportedOperationException", "java/lang/Object"), ("java/util/NoSuchElementException", "java/lang/Object"), ("java/lang/StringBuilder", "java/lang/Object"), ("java/lang/String", "java/lang/Object"), ("java/lang/Throwable", "java/lang/Object")]
def px_decl : List MethodName := [⟨"java/lang/RuntimeException", "<init>", "()V"⟩, ⟨"java/lang/RuntimeException", "<init>", "(Ljava/lang/String;)V"⟩, ⟨"java/lang/Exception", "<init>", "()V"⟩, ⟨"java/lang/Exception", "<init>", "(Ljava/lang/String;)V"⟩, ⟨"java/lang/Throwable", "<init>", "()V"⟩, ⟨"java/lang/Throwable", "<init>", "(Ljava/lang/String;)V"⟩]
def px_X (X : PX) (A : Nat → Prop) (U : State) (H : Heap) : Prop :=
  (∀ (i : Nat) (q : String × Nat × String), strs[i]? = some q → vk_R q.1 q.2.1 q.2.2 (X.1 i) U) ∧ (vk_S 17 sLen sByt X.1 X.2.1 A U H ∧ ∀ d ∈ X.2.2, px_Str d A U H) ∧ va_Z "java/lang/String" "COMPACT_STRINGS" "Z" (.int 1) A U H ∧ va_Zq "jdk/internal/util/Preconditions" "SIOOBE_FORMATTER" "Ljava/util/function/BiFunction;" A U H ∧ vx_Zq Bundle.tN "UNASSIGNED_STACK" Bundle.steD A U H ∧ vx_Zq Bundle.tN "SUPPRESSED_SENTINEL" Bundle.listD A U H ∧ (∀ w ∈ px_cast, va_Nw (.castable w.1 w.2) U) ∧ (∀ y ∈ px_decl, va_Nw (.declares y) U)
theorem px_X.kept {X : PX} {A : Nat → Prop} {U : State} {H H1 : Heap} (h : px_X X A U H) (hq : ∀ a : Nat, a < H.size → ¬ A a → H1[a]? = H[a]?) : px_X X A U H1 :=
  ⟨h.1, ⟨h.2.1.1.kept hq, fun d hd => (h.2.1.2 d hd).kept hq⟩, va_Z.kept h.2.2.1 hq, va_Zq.kept h.2.2.2.1 hq, vx_Zq.kept h.2.2.2.2.1 hq, vx_Zq.kept h.2.2.2.2.2.1 hq, h.2.2.2.2.2.2⟩
theorem px_X.narrow {X : PX} {A B : Nat → Prop} {U : State} {H : Heap} (h : px_X X A U H) (hAB : ∀ q, B q → A q) : px_X X B U H :=
  ⟨h.1, ⟨h.2.1.1.narrow hAB, fun d hd => (h.2.1.2 d hd).narrow hAB⟩, va_Z.narrow h.2.2.1 hAB, va_Zq.narrow h.2.2.2.1 hAB, vx_Zq.narrow h.2.2.2.2.1 hAB, vx_Zq.narrow h.2.2.2.2.2.1 hAB, h.2.2.2.2.2.2⟩
theorem px_X.warm {X : PX} {A : Nat → Prop} {s U : State} {H : Heap} (hW : s.WarmedH U.vm) (h : px_X X A s H) : px_X X A U H :=
  ⟨fun i q hi => (h.1 i q hi).warm hW, ⟨h.2.1.1.moved hW.alike, fun d hd => (h.2.1.2 d hd).moved hW.alike⟩, va_Z.moved hW.alike h.2.2.1, va_Zq.moved hW.alike h.2.2.2.1, vx_Zq.moved hW.alike h.2.2.2.2.1, vx_Zq.moved hW.alike h.2.2.2.2.2.1, fun w hw => va_Nw.warmC hW (h.2.2.2.2.2.2.1 w hw), fun y hy => va_Nw.warmD hW (h.2.2.2.2.2.2.2 y hy)⟩
theorem px_X.same {X : PX} {A : Nat → Prop} {s U : State} {H : Heap} (hv : s.vm = U.vm) (h : px_X X A s H) : px_X X A U H := by
  have ha : s.vm.Alike U.vm := by rw [hv]; exact Vm.Alike.refl _
  exact ⟨fun i q hi => vk_R.same hv.symm (h.1 i q hi), ⟨h.2.1.1.moved ha, fun d hd => (h.2.1.2 d hd).moved ha⟩, va_Z.moved ha h.2.2.1, va_Zq.moved ha h.2.2.2.1, vx_Zq.moved ha h.2.2.2.2.1, vx_Zq.moved ha h.2.2.2.2.2.1, fun w hw => va_Nw.same rfl hv (h.2.2.2.2.2.2.1 w hw), fun y hy => va_Nw.same rfl hv (h.2.2.2.2.2.2.2 y hy)⟩
def px_In (X : PX) (d : PS) : Prop := d ∈ X.2.2 ∨ ∃ i, i < 17 ∧ d = (X.1 i, X.2.1 i, sLen.getD i 0, fun j => (sByt.getD i []).getD j 0)
theorem px_gs {X : PX} {d : PS} {A : Nat → Prop} {U : State} {H : Heap} (hX : px_X X A U H) (hd : px_In X d) : px_Str d A U H := by
  rcases hd with h | ⟨i, hi, rfl⟩
  · exact hX.2.1.2 d h
  · exact hX.2.1.1.1 i hi
theorem px_ct {X : PX} {i : Nat} (hi : i < 17) : px_In X (X.1 i, X.2.1 i, sLen.getD i 0, fun j => (sByt.getD i []).getD j 0) := Or.inr ⟨i, hi, rfl⟩
def PWX (E : PE) (X : PX) (av : List Value) (ws : va_W) (sz : Nat) : Array Value → State → Prop := fun v U => PW E av ws sz v U ∧ px_X X (va_A ws sz) U U.heap
theorem PWX_blind {E : PE} {X : PX} {av : List Value} {ws : va_W} {sz : Nat} : FrameBlind (PWX E X av ws sz) := fun a U g mk q => ⟨PW_blind a U g mk q.1, px_X.same (U := U.calling g mk a) rfl q.2⟩
def MPX (l : Launch) (y : MethodName) (c : ByteArray) (n : Nat) (ret : Option FieldType) (rm : Room) (E : PE) (X : PX) (av : List Value) (ws : va_W) (v : Option Value) : Prop := ∀ sz, Met l y (ws_ y c n ret) rm (PWX E X av ws sz) (QP v) 0 0 (fun _ => False)
def MWX (l : Launch) (y : MethodName) (c : ByteArray) (n : Nat) (ret : Option FieldType) (rm : Room) (E : PE) (X : PX) (av : List Value) (ws : va_W) (mc ms : Nat) (v : Option Value) (ws' : va_W) : Prop := ∀ sz, Met l y (ws_ y c n ret) rm (PWX E X av ws sz) (QW E ws sz v ws') mc ms (va_A ws sz)
theorem px_startPX {l : Launch} {y : MethodName} {c : ByteArray} {n : Nat} {ret : Option FieldType} {rm : Room} {E : PE} {X : PX} {av : List Value} {ws : va_W} {v : Option Value} (hy : plainName y.cls = true) (hlen : (lg_sl av).length ≤ n)
    (body : ∀ (p : Program) (e : Env) (s : State) (m : MethodId) (args : Array Value) (below : List Frame) (meth : Method) (cd : Code) (R : Room) (Q : State → Prop) (A : Nat → Prop) (ls : Array Slot), px_C p s m args meth cd y c n ret E R rm A ws ls av → px_X X A s s.heap → Q = MQ below (QP v) args s 0 0 (fun _ => False) → W p l e R s m args below meth cd s.heap [] 0 0 Q (F0 m 0 ls [])) : MPX l y c n ret rm E X av ws v := by
  intro sz
  refine Met.ofW (cc := c) (maxL := n) (ret := ret) hy rfl ?_
  intro p e s m args below meth cd s₁ B hml hv
  obtain ⟨⟨rfl, hsz, hP, hK, hN, hD0⟩, hX⟩ := hv
  subst hsz
  have hl := lv_entry av hlen
  rw [lg_entry_eq]
  generalize (lg_sl av ++ List.replicate (n - (lg_sl av).length) Slot.unset).toArray = ls at hl ⊢
  exact body p e s m av.toArray below meth cd _ _ (va_A ws s.heap.size) ls ⟨B.exec, B.bytes, B.returns, hml, ws_hts (atoms_spec (ws := ws_ y c n ret) B.pre), findClass_of_methodNamed B.named, B.notSynchronized, rfl, hK, hN, hP, hD0.self, fun q h => Or.inr h, hl, (name_of_methodNamed B.named B.method).1⟩ hX rfl
theorem px_startWX {l : Launch} {y : MethodName} {c : ByteArray} {n mc ms : Nat} {ret : Option FieldType} {rm : Room} {E : PE} {X : PX} {av : List Value} {ws ws' : va_W} {v : Option Value} (hy : plainName y.cls = true) (hlen : (lg_sl av).length ≤ n)
    (body : ∀ (p : Program) (e : Env) (s : State) (m : MethodId) (args : Array Value) (below : List Frame) (meth : Method) (cd : Code) (R : Room) (Q : State → Prop) (A : Nat → Prop) (ls : Array Slot), px_C p s m args meth cd y c n ret E R rm A ws ls av → px_X X A s s.heap → A = va_A ws s.heap.size → Q = MQ below (QW E ws s.heap.size v ws') args s mc ms (va_A ws s.heap.size) → W p l e R s m args below meth cd s.heap [] 0 0 Q (F0 m 0 ls [])) : MWX l y c n ret rm E X av ws mc ms v ws' := by
  intro sz
  refine Met.ofW (cc := c) (maxL := n) (ret := ret) hy rfl ?_
  intro p e s m args below meth cd s₁ B hml hv
  obtain ⟨⟨rfl, hsz, hP, hK, hN, hD0⟩, hX⟩ := hv
  subst hsz
  have hl := lv_entry av hlen
  rw [lg_entry_eq]
  generalize (lg_sl av ++ List.replicate (n - (lg_sl av).length) Slot.unset).toArray = ls at hl ⊢
  exact body p e s m av.toArray below meth cd _ _ (va_A ws s.heap.size) ls ⟨B.exec, B.bytes, B.returns, hml, ws_hts (atoms_spec (ws := ws_ y c n ret) B.pre), findClass_of_methodNamed B.named, B.notSynchronized, rfl, hK, hN, hP, hD0.self, fun q h => Or.inr h, hl, (name_of_methodNamed B.named B.method).1⟩ hX rfl rfl
section PXX
variable {p : Program} {l : Launch} {e : Env} {R : Room} {s : State} {m : MethodId} {args : Array Value} {below : List Frame} {meth : Method} {c : Code} {H : Heap} {locs : List Loc} {cells slots : Nat} {Q : State → Prop}
variable {y : MethodName} {bytes cc : ByteArray} {maxL nL mc ms n index pc : Nat} {ret : Option FieldType} {rm : Room} {own C : String} {b : Addr} {As rest st0 : List Value} {v : Option Value} {E : PE} {X : PX} {A0 : Nat → Prop} {gs gr gc g1 g2 : List va_W} {ls : Array Slot} {a : Array Value}
theorem px_preX (hK : va_K E.1 vwCl (tyE E) s) (hN : px_N s) (hX : px_X X A0 s s.heap) {av : List Value} {gc : List va_W} (hP : va_P E.1 vwCl gs.flatten H) (hD : va_D A0 gs.flatten) (hS : va_S A0 s.heap H locs) (hA : ∀ q, s.heap.size ≤ q → A0 q) (iC : List Nat) (hC : iC.map (fun i => gs[i]?) = gc.map some) (hn : va_nd iC = true) : ∀ U : State, U.heap = H → s.WarmedH U.vm → PWX E X av gc.flatten H.size av.toArray U :=
  fun U hU hW => ⟨px_pre hK hN hP hD iC hC hn U hU hW, by rw [hU]; exact ((hX.kept hS.2.1).narrow (g_free hD hS hA iC hC)).warm hW⟩
/-- a virtual call that only reads, of a method with strings -/
theorem px_VpX (S : CallFix p m c cc nL s args lw_all own) (hM : MPX l y bytes maxL ret rm E X (.ref b :: As) gc.flatten v) (cw : CallW R s args own C index y bytes maxL ret (ws_ y bytes maxL ret) rm 0 0 n)
    (hK : va_K E.1 vwCl (tyE E) s) (hN : px_N s) (hX : px_X X A0 s s.heap) (hP : va_P E.1 vwCl gs.flatten H) (hD : va_D A0 gs.flatten) (hS : va_S A0 s.heap H locs) (hA : ∀ q, s.heap.size ≤ q → A0 q)
    (iC : List Nat) (hC : iC.map (fun i => gs[i]?) = gc.map some) (hnC : va_nd iC = true)
    (hrec : ∃ cellB : Cell, H[b]? = some cellB ∧ cellB.vm.isStatics = false ∧ s.vm.findClass C = some cellB.cls)
    (hlen : As.length = n) (hls : ls.size = nL) (hst : st0 = As.reverse ++ .ref b :: rest) (hroom : (rest.map fun v => v.category).sum ≤ 8) (hdg : decode cc pc = .ok (.invokevirtual index, 3)) (hf : cells + 0 ≤ R.cells ∧ slots + 0 ≤ R.slots)
    (kk : W p l e R s m args below meth c H locs cells slots Q (F0 m (pc + 3) ls (v.toList ++ rest))) : W p l e R s m args below meth c H locs cells slots Q (F0 m pc ls st0) :=
  px_goP (va_runV S (hM H.size) cw ⟨PWX_blind, hrec, px_preX hK hN hX hP hD hS hA iC hC hnC⟩ rfl hlen hls hst (lv_room (pc := pc) (ls := ls) (m := m) (rest := []) hroom) hdg hf) kk
theorem px_SpX (S : CallFix p m c cc nL s args lw_all own) (hM : MPX l y bytes maxL ret rm E X As gc.flatten v) (cw : CallB R s args own index y bytes maxL ret (ws_ y bytes maxL ret) rm 0 0 n ∧ (Cond.static y).before args s = true)
    (hK : va_K E.1 vwCl (tyE E) s) (hN : px_N s) (hX : px_X X A0 s s.heap) (hP : va_P E.1 vwCl gs.flatten H) (hD : va_D A0 gs.flatten) (hS : va_S A0 s.heap H locs) (hA : ∀ q, s.heap.size ≤ q → A0 q)
    (iC : List Nat) (hC : iC.map (fun i => gs[i]?) = gc.map some) (hnC : va_nd iC = true)
    (hlen : As.length = n) (hls : ls.size = nL) (hst : st0 = As.reverse ++ rest) (hroom : (rest.map fun v => v.category).sum ≤ 8) (hdg : decode cc pc = .ok (.invokestatic index, 3)) (hf : cells + 0 ≤ R.cells ∧ slots + 0 ≤ R.slots)
    (kk : W p l e R s m args below meth c H locs cells slots Q (F0 m (pc + 3) ls (v.toList ++ rest))) : W p l e R s m args below meth c H locs cells slots Q (F0 m pc ls st0) :=
  px_goP (va_runS S (hM H.size) cw ⟨PWX_blind, px_preX hK hN hX hP hD hS hA iC hC hnC⟩ rfl hlen hls hst (lv_room (pc := pc) (ls := ls) (m := m) (rest := []) hroom) hdg hf) kk
theorem px_VX (S : CallFix p m c cc nL s args lw_all own) (hM : MWX l y bytes maxL ret rm E X (.ref b :: As) gc.flatten mc ms v g1.flatten) (cw : CallW R s args own C index y bytes maxL ret (ws_ y bytes maxL ret) rm mc ms n)
    (hK : va_K E.1 vwCl (tyE E) s) (hN : px_N s) (hX : px_X X A0 s s.heap) (hP : va_P E.1 vwCl gs.flatten H) (hD : va_D A0 gs.flatten) (hS : va_S A0 s.heap H locs) (hA : ∀ q, s.heap.size ≤ q → A0 q)
    (iR iC iF : List Nat) (hR : iR.map (fun i => gs[i]?) = gr.map some) (hC : iC.map (fun i => gs[i]?) = gc.map some) (hn : va_nd (iR ++ iC) = true) (hnC : va_nd iC = true) (hF : iF.map (fun i => (gr ++ g1)[i]?) = g2.map some) (hnF : va_nd iF = true)
    (k ci : Nat) {q : vw_C} {fs : List Value} (hc : vwCl[ci]? = some q) (he : gc.flatten[k]? = some (b, .inr (ci, fs))) (hq : q.1 = C)
    (hlen : As.length = n) (hls : ls.size = nL) (hst : st0 = As.reverse ++ .ref b :: rest) (hroom : (rest.map fun v => v.category).sum ≤ 8) (hdg : decode cc pc = .ok (.invokevirtual index, 3)) (hf : cells + mc ≤ R.cells ∧ slots + ms ≤ R.slots)
    (kk : ∀ (H1 : Heap) (locs1 : List Loc), va_P E.1 vwCl g2.flatten H1 → va_D A0 g2.flatten → va_S A0 s.heap H1 locs1 → W p l e R s m args below meth c H1 locs1 (cells + mc) (slots + ms) Q (F0 m (pc + 3) ls (v.toList ++ rest))) : W p l e R s m args below meth c H locs cells slots Q (F0 m pc ls st0) :=
  px_go (va_runV S (hM H.size) cw ⟨PWX_blind, px_recv hK hP iC hC k ci hc he hq, px_preX hK hN hX hP hD hS hA iC hC hnC⟩ rfl hlen hls hst (lv_room (pc := pc) (ls := ls) (m := m) (rest := []) hroom) hdg hf) hP hD hS hA iR iC iF hR hC hn hF hnF kk
theorem px_strRecv {d : PS} (hX : px_X X A0 s s.heap) (hS : va_S A0 s.heap H locs) (hd : px_In X d) : ∃ cellB : Cell, H[d.1]? = some cellB ∧ cellB.vm.isStatics = false ∧ s.vm.findClass "java/lang/String" = some cellB.cls :=
  va_Orecv ((px_gs hX hd).1) hS
/-- 'ldc' of a string -/
theorem px_ldcS (hexec : p.tables.exec = Jvm.exec) (hb : c.code = cc) {i : Nat} {tx : String} (hown : s.vm.findClass own = some m.cls) (hX : px_X X A0 s s.heap) (hi : strs[i]? = some (own, index, tx)) (hdg : decode cc pc = .ok (.ldc index, 2))
    (k : W p l e R s m args below meth c H locs cells slots Q (F0 m (pc + 2) ls (.ref (X.1 i) :: rest))) : W p l e R s m args below meth c H locs cells slots Q (F0 m pc ls rest) :=
  va_ldcS hexec hb hown (hX.1 i _ hi) hdg k
theorem px_ldcSW0 {T : State} (X : Stand p l e R s m args below meth c T locs cells slots) (hexec : p.tables.exec = Jvm.exec) {own text : String} {index a : Nat} (hown : s.vm.findClass own = some m.cls)
    (hconst : (Cond.stringRef own index text).before args s = true) (hev : (Term.string own index).eval args s none [] s = some (.ref a)) {g : JFrame} (hg : g.method = m) (hdg : decode c.code g.pc = .ok (.ldc_w index, 3)) :
    ∀ target, Steps p.tables e below (T.setTop { g with pc := g.pc + 3, stack := .ref a :: g.stack }) target → Steps p.tables e below (T.setTop g) target := by
  obtain ⟨k, cf, i, a', hk, hcf, hcp, -, hr, hev'⟩ := Cond.stringRef_spec hown hconst
  cases hev.symm.trans hev'
  obtain ⟨k', hk', he⟩ := X.warmed.alike.2.2 _ _ hk
  have hr' : k'.resolved[index]? = some (some (.string a)) := by
    rcases X.warmed.entry hk hk' index with h | ⟨h, -⟩
    · rw [h]; exact hr
    · rw [hr] at h; cases h
  intro target hrest
  subst hg
  jvm_step X.here [hexec, hdg, ldc_w.wp_string (e := e) (s := T) (f := g) X.here.top hk' (by rw [he]; exact hcf) hcp hr']
  exact hrest
theorem px_ldcSW (hexec : p.tables.exec = Jvm.exec) (hb : c.code = cc) {i : Nat} {tx : String} (hown : s.vm.findClass own = some m.cls) (hX : px_X X A0 s s.heap) (hi : strs[i]? = some (own, index, tx)) (hdg : decode cc pc = .ok (.ldc_w index, 3))
    (k : W p l e R s m args below meth c H locs cells slots Q (F0 m (pc + 3) ls (.ref (X.1 i) :: rest))) : W p l e R s m args below meth c H locs cells slots Q (F0 m pc ls rest) :=
  fun T hT X9 => by
    obtain ⟨t, a1, b1⟩ := k T hT X9
    exact ⟨t, px_ldcSW0 X9 hexec hown (text := tx) (a := X.1 i) (hX.1 i _ hi).1 (hX.1 i _ hi).2 (g := F0 m pc ls rest) rfl (by rw [hb]; exact hdg) t a1, b1⟩
/-- a string's field -/
theorem px_strV (hexec : p.tables.exec = Jvm.exec) (hb : c.code = cc) {ref : String} {d : PS} (hX : px_X X A0 s s.heap) (hd : px_In X d) (hS : va_S A0 s.heap H locs) (hown : s.vm.findClass own = some m.cls) (hlink : (Cond.fieldLink own index "java/lang/String" "value" "[B").before args s = true) (hdg : decode cc pc = .ok (.getfield index, 3))
    (kk : W p l e R s m args below meth c H locs cells slots Q (F0 m (pc + 3) ls (.ref d.2.1 :: rest))) : W p l e R s m args below meth c H locs cells slots Q (F0 m pc ls (.ref d.1 :: rest)) :=
  va_getX (N := 1) (i := 0) (v := fun _ => .ref d.2.1) (ad := fun _ => d.1) hexec hb (fun j hj => (px_gs hX hd).2.2.1) (by decide) hS hown hlink (fun _ h => h) hdg kk
theorem px_strC (hexec : p.tables.exec = Jvm.exec) (hb : c.code = cc) {ref : String} {d : PS} (hX : px_X X A0 s s.heap) (hd : px_In X d) (hS : va_S A0 s.heap H locs) (hown : s.vm.findClass own = some m.cls) (hlink : (Cond.fieldLink own index "java/lang/String" "coder" "B").before args s = true) (hdg : decode cc pc = .ok (.getfield index, 3))
    (kk : W p l e R s m args below meth c H locs cells slots Q (F0 m (pc + 3) ls (.int 0 :: rest))) : W p l e R s m args below meth c H locs cells slots Q (F0 m pc ls (.ref d.1 :: rest)) :=
  va_getX (N := 1) (i := 0) (v := fun _ => .int 0) (ad := fun _ => d.1) hexec hb (fun j hj => (px_gs hX hd).2.1) (by decide) hS hown hlink (fun _ h => h) hdg kk
end PXX
/-- the char at k of the string i -/
def sCh (i k : Nat) : Int32 := (sByt.getD i []).getD k 0 &&& 255
theorem sLen_lt : ∀ i, i < 17 → sLen.getD i 0 < 100 := by decide
section PXV
variable {p : Program} {l : Launch} {e : Env} {R : Room} {s : State} {m : MethodId} {args : Array Value} {below : List Frame} {meth : Method} {c : Code} {Q : State → Prop} {cc : ByteArray} {pc : Nat} {ls : Array Slot}
theorem px_ePv (hQ : Q = MQ below (QP none) args s 0 0 (fun _ => False)) (hx : p.tables.exec = Jvm.exec) (hb : c.code = cc) (hr : meth.sig.returnType = none) (hlocks : meth.locks = false) (hdg : decode cc pc = .ok (.return_, 1)) : W p l e R s m args below meth c s.heap [] 0 0 Q (F0 m pc ls []) := by
  subst hQ; exact W.vret hx hb hr (fun t ht _ => ⟨rfl, ht⟩) (fun q h => by cases h) hdg
end PXV
theorem cJ3_checkIndex_n (l : Launch) (E : PE) (X : PX) (k n : Nat) (hk : k < n) (hn : n < 2 ^ 31) : MPX l yJ3_checkIndex_8e157 cJ3_checkIndex_8e157 3 (some .int) { frames := 0, cells := 0, slots := 0, locals := 0 } E X [.int (nI k), .int (nI n), .null] ([] : List va_W).flatten (some (.int (nI k))) := by
  refine px_startPX (by decide +kernel) (Nat.le_of_ble_eq_true rfl) ?_
  intro p e s m args below meth c R Q A ls hC hX hQ
  obtain ⟨hx, hb, hr, hml, hts, hown, hlocks, hR, hK, hN, hP, hD, hA, hl, hin⟩ := hC
  have hl : lv_has ls 3 [(0, .int (nI k)), (1, .int (nI n)), (2, .null)] := hl
  refine lv_iload_n hx hb dJ3_checkIndex_8e157_0 rfl (lv_at hl 0 rfl) ?_
  refine lv_if_lt (tgt := 9) hx hb dJ3_checkIndex_8e157_1 (by decide) (fun c => absurd c (nI_pos (by omega))) (fun _ => ?_)
  refine lv_iload_n hx hb dJ3_checkIndex_8e157_4 rfl (lv_at hl 0 rfl) ?_
  refine lv_iload_n hx hb dJ3_checkIndex_8e157_5 rfl (lv_at hl 1 rfl) ?_
  refine lv_icmp_lt (tgt := 16) hx hb dJ3_checkIndex_8e157_6 (by decide) (fun _ => ?_) (fun c => absurd (nI_lt hk hn) c)
  refine lv_iload_n hx hb dJ3_checkIndex_8e157_16 rfl (lv_at hl 0 rfl) ?_
  exact px_ePi hQ hx hb hr hlocks dJ3_checkIndex_8e157_17
theorem cJ3_checkIndex_r (l : Launch) (E : PE) (X : PX) (k n t : Nat) (hk : k < n) (hn : n < 2 ^ 31) : MPX l yJ3_checkIndex_8e157 cJ3_checkIndex_8e157 3 (some .int) { frames := 0, cells := 0, slots := 0, locals := 0 } E X [.int (nI k), .int (nI n), .ref t] ([] : List va_W).flatten (some (.int (nI k))) := by
  refine px_startPX (by decide +kernel) (Nat.le_of_ble_eq_true rfl) ?_
  intro p e s m args below meth c R Q A ls hC hX hQ
  obtain ⟨hx, hb, hr, hml, hts, hown, hlocks, hR, hK, hN, hP, hD, hA, hl, hin⟩ := hC
  have hl : lv_has ls 3 [(0, .int (nI k)), (1, .int (nI n)), (2, .ref t)] := hl
  refine lv_iload_n hx hb dJ3_checkIndex_8e157_0 rfl (lv_at hl 0 rfl) ?_
  refine lv_if_lt (tgt := 9) hx hb dJ3_checkIndex_8e157_1 (by decide) (fun c => absurd c (nI_pos (by omega))) (fun _ => ?_)
  refine lv_iload_n hx hb dJ3_checkIndex_8e157_4 rfl (lv_at hl 0 rfl) ?_
  refine lv_iload_n hx hb dJ3_checkIndex_8e157_5 rfl (lv_at hl 1 rfl) ?_
  refine lv_icmp_lt (tgt := 16) hx hb dJ3_checkIndex_8e157_6 (by decide) (fun _ => ?_) (fun c => absurd (nI_lt hk hn) c)
  refine lv_iload_n hx hb dJ3_checkIndex_8e157_16 rfl (lv_at hl 0 rfl) ?_
  exact px_ePi hQ hx hb hr hlocks dJ3_checkIndex_8e157_17
theorem cJ0_checkIndex (l : Launch) (E : PE) (X : PX) (k n : Nat) (hk : k < n) (hn : n < 2 ^ 31) : MPX l yJ0_checkIndex_df160 cJ0_checkIndex_df160 2 none { frames := 1, cells := 0, slots := 0, locals := 22 } E X [.int (nI k), .int (nI n)] ([] : List va_W).flatten none := by
  refine px_startPX (by decide +kernel) (Nat.le_of_ble_eq_true rfl) ?_
  intro p e s m args below meth c R Q A ls hC hX hQ
  obtain ⟨hx, hb, hr, hml, hts, hown, hlocks, hR, hK, hN, hP, hD, hA, hl, hin⟩ := hC
  have hl : lv_has ls 2 [(0, .int (nI k)), (1, .int (nI n))] := hl
  refine lv_iload_n hx hb dJ0_checkIndex_df160_0 rfl (lv_at hl 0 rfl) ?_
  refine lv_iload_n hx hb dJ0_checkIndex_df160_1 rfl (lv_at hl 1 rfl) ?_
  rcases hX.2.2.2.1 with hz | ⟨t, hz⟩
  · refine va_gets (C := "jdk/internal/util/Preconditions") hx hb hz va_S.rf hown (hts _ q791) (fun _ h => h) dJ0_checkIndex_df160_2 ?_
    refine px_SpX (As := [.int (nI k), .int (nI n), .null]) (rest := []) (gs := []) (gc := []) ⟨hx, hb, hml, hown, hts⟩ (cJ3_checkIndex_n l E X k n hk hn) (va_cwS 3 hts (ws_s q793 q794 q40 q795) rfl rfl rfl hdS_J3_checkIndex_8e157 (by rw [hR]; exact ⟨Nat.le_of_ble_eq_true rfl, Nat.le_of_ble_eq_true rfl⟩)) hK hN hX hP hD va_S.rf hA [] rfl (by decide) rfl hl.1 rfl (Nat.le_of_ble_eq_true rfl) dJ0_checkIndex_df160_5 (by rw [hR]; exact ⟨Nat.le_of_ble_eq_true rfl, Nat.le_of_ble_eq_true rfl⟩) ?_
    refine W.eq (g2 := F0 m 8 ls [.int (nI k)]) rfl ?_
    refine lv_pop hx hb dJ0_checkIndex_df160_8 rfl ?_
    exact px_ePv hQ hx hb hr hlocks dJ0_checkIndex_df160_9
  · refine va_gets (C := "jdk/internal/util/Preconditions") hx hb hz va_S.rf hown (hts _ q791) (fun _ h => h) dJ0_checkIndex_df160_2 ?_
    refine px_SpX (As := [.int (nI k), .int (nI n), .ref t]) (rest := []) (gs := []) (gc := []) ⟨hx, hb, hml, hown, hts⟩ (cJ3_checkIndex_r l E X k n t hk hn) (va_cwS 3 hts (ws_s q793 q794 q40 q795) rfl rfl rfl hdS_J3_checkIndex_8e157 (by rw [hR]; exact ⟨Nat.le_of_ble_eq_true rfl, Nat.le_of_ble_eq_true rfl⟩)) hK hN hX hP hD va_S.rf hA [] rfl (by decide) rfl hl.1 rfl (Nat.le_of_ble_eq_true rfl) dJ0_checkIndex_df160_5 (by rw [hR]; exact ⟨Nat.le_of_ble_eq_true rfl, Nat.le_of_ble_eq_true rfl⟩) ?_
    refine W.eq (g2 := F0 m 8 ls [.int (nI k)]) rfl ?_
    refine lv_pop hx hb dJ0_checkIndex_df160_8 rfl ?_
    exact px_ePv hQ hx hb hr hlocks dJ0_checkIndex_df160_9
theorem cJ1_charAt (l : Launch) (E : PE) (X : PX) (d : PS) (k : Nat) (hd : px_In X d) (hn : d.2.2.1 < 2 ^ 31) (hk : k < d.2.2.1) : MPX l yJ1_charAt_3b067 cJ1_charAt_3b067 2 (some .char) { frames := 2, cells := 0, slots := 0, locals := 43 } E X [.ref (d.2.1), .int (nI k)] ([] : List va_W).flatten (some (.int (ch (d.2.2.2 k &&& 255)))) := by
  refine px_startPX (by decide +kernel) (Nat.le_of_ble_eq_true rfl) ?_
  intro p e s m args below meth c R Q A ls hC hX hQ
  obtain ⟨hx, hb, hr, hml, hts, hown, hlocks, hR, hK, hN, hP, hD, hA, hl, hin⟩ := hC
  have hl : lv_has ls 2 [(0, .ref (d.2.1)), (1, .int (nI k))] := hl
  have hT := (px_gs hX hd).2.2.2
  refine lv_iload_n hx hb dJ1_charAt_3b067_0 rfl (lv_at hl 1 rfl) ?_
  refine lv_aload_n hx hb dJ1_charAt_3b067_1 rfl (lv_at hl 0 rfl) ?_
  refine va_tlen (v := nI (d.2.2.1)) hx hb hT va_S.rf rfl dJ1_charAt_3b067_2 ?_
  refine px_SpX (As := [.int (nI k), .int (nI (d.2.2.1))]) (rest := []) (gs := []) (gc := []) ⟨hx, hb, hml, hown, hts⟩ (cJ0_checkIndex l E X k _ hk hn) (va_cwS 2 hts (ws_s q788 q789 q38 q790) rfl rfl rfl hdS_J0_checkIndex_df160 (by rw [hR]; exact ⟨Nat.le_of_ble_eq_true rfl, Nat.le_of_ble_eq_true rfl⟩)) hK hN hX hP hD va_S.rf hA [] rfl (by decide) rfl hl.1 rfl (Nat.le_of_ble_eq_true rfl) dJ1_charAt_3b067_3 (by rw [hR]; exact ⟨Nat.le_of_ble_eq_true rfl, Nat.le_of_ble_eq_true rfl⟩) ?_
  refine W.eq (g2 := F0 m 6 ls []) rfl ?_
  refine lv_aload_n hx hb dJ1_charAt_3b067_6 rfl (lv_at hl 0 rfl) ?_
  refine lv_iload_n hx hb dJ1_charAt_3b067_7 rfl (lv_at hl 1 rfl) ?_
  refine va_tb (v := .int (d.2.2.2 k)) hx hb hT va_S.rf (vp_in_nI hk hn) (by rw [nI_clamp (by omega)]) dJ1_charAt_3b067_8 ?_
  refine lv_sipush (v := 255) hx hb dJ1_charAt_3b067_9 (by decide) ?_
  refine lv_iand hx hb dJ1_charAt_3b067_12 ?_
  refine lv_i2c (v := ch (d.2.2.2 k &&& 255)) hx hb dJ1_charAt_3b067_13 rfl ?_
  exact px_ePz (ch_n _) hQ hx hb hr hlocks dJ1_charAt_3b067_14
theorem cJ0_isLatin1 (l : Launch) (E : PE) (X : PX) (d : PS) (hd : px_In X d) (hn : d.2.2.1 < 2 ^ 31) : MPX l yJ0_isLatin1_aae02 cJ0_isLatin1_aae02 1 (some .boolean) { frames := 0, cells := 0, slots := 0, locals := 0 } E X [.ref (d.1)] ([] : List va_W).flatten (some (.int (b2i true))) := by
  refine px_startPX (by decide +kernel) (Nat.le_of_ble_eq_true rfl) ?_
  intro p e s m args below meth c R Q A ls hC hX hQ
  obtain ⟨hx, hb, hr, hml, hts, hown, hlocks, hR, hK, hN, hP, hD, hA, hl, hin⟩ := hC
  have hl : lv_has ls 1 [(0, .ref (d.1))] := hl
  refine va_gets (C := "java/lang/String") hx hb hX.2.2.1 va_S.rf hown (hts _ q775) (fun _ h => h) dJ0_isLatin1_aae02_0 ?_
  refine lv_if_eq (tgt := 17) hx hb dJ0_isLatin1_aae02_3 (by decide) (fun c => absurd c (by decide)) (fun _ => ?_)
  refine lv_aload_n hx hb dJ0_isLatin1_aae02_6 rfl (lv_at hl 0 rfl) ?_
  refine px_strC (ref := "") hx hb hX hd va_S.rf hown (hts _ q1404) dJ0_isLatin1_aae02_7 ?_
  refine lv_if_ne (tgt := 17) hx hb dJ0_isLatin1_aae02_10 (by decide) (fun c => absurd rfl c) (fun _ => ?_)
  refine lv_iconst (v := 1) hx hb dJ0_isLatin1_aae02_13 (by decide) ?_
  refine lv_goto (tgt := 18) hx hb dJ0_isLatin1_aae02_14 (by decide) ?_
  refine W.eq (g2 := F0 m 18 ls [.int (b2i true)]) rfl ?_
  exact px_ePz (b2i_n _) hQ hx hb hr hlocks dJ0_isLatin1_aae02_18
theorem cJ0_coder (l : Launch) (E : PE) (X : PX) (d : PS) (hd : px_In X d) (hn : d.2.2.1 < 2 ^ 31) : MPX l yJ0_coder_7d493 cJ0_coder_7d493 1 (some .byte) { frames := 0, cells := 0, slots := 0, locals := 0 } E X [.ref (d.1)] ([] : List va_W).flatten (some (.int 0)) := by
  refine px_startPX (by decide +kernel) (Nat.le_of_ble_eq_true rfl) ?_
  intro p e s m args below meth c R Q A ls hC hX hQ
  obtain ⟨hx, hb, hr, hml, hts, hown, hlocks, hR, hK, hN, hP, hD, hA, hl, hin⟩ := hC
  have hl : lv_has ls 1 [(0, .ref (d.1))] := hl
  refine va_gets (C := "java/lang/String") hx hb hX.2.2.1 va_S.rf hown (hts _ q775) (fun _ h => h) dJ0_coder_7d493_0 ?_
  refine lv_if_eq (tgt := 13) hx hb dJ0_coder_7d493_3 (by decide) (fun c => absurd c (by decide)) (fun _ => ?_)
  refine lv_aload_n hx hb dJ0_coder_7d493_6 rfl (lv_at hl 0 rfl) ?_
  refine px_strC (ref := "") hx hb hX hd va_S.rf hown (hts _ q1404) dJ0_coder_7d493_7 ?_
  refine lv_goto (tgt := 14) hx hb dJ0_coder_7d493_10 (by decide) ?_
  exact px_ePz (by decide +kernel) hQ hx hb hr hlocks dJ0_coder_7d493_14
theorem cJ0_lengthD (l : Launch) (E : PE) (X : PX) (d : PS) (hd : px_In X d) (hn : d.2.2.1 < 2 ^ 31) : MPX l yJ0_length_8abf5 cJ0_length_8abf5 1 (some .int) { frames := 1, cells := 0, slots := 0, locals := 20 } E X [.ref (d.1)] ([] : List va_W).flatten (some (.int (nI (d.2.2.1)))) := by
  refine px_startPX (by decide +kernel) (Nat.le_of_ble_eq_true rfl) ?_
  intro p e s m args below meth c R Q A ls hC hX hQ
  obtain ⟨hx, hb, hr, hml, hts, hown, hlocks, hR, hK, hN, hP, hD, hA, hl, hin⟩ := hC
  have hl : lv_has ls 1 [(0, .ref (d.1))] := hl
  refine lv_aload_n hx hb dJ0_length_8abf5_0 rfl (lv_at hl 0 rfl) ?_
  refine px_strV (ref := "") hx hb hX hd va_S.rf hown (hts _ q1403) dJ0_length_8abf5_1 ?_
  refine va_tlen (v := nI (d.2.2.1)) hx hb (px_gs hX hd).2.2.2 va_S.rf rfl dJ0_length_8abf5_4 ?_
  refine lv_aload_n hx hb dJ0_length_8abf5_5 rfl (lv_at hl 0 rfl) ?_
  refine px_VpX (As := []) (rest := [.int (nI (d.2.2.1))]) (gs := []) (gc := []) ⟨hx, hb, hml, hown, hts⟩ (cJ0_coder l E X d hd hn) (cwV 0 hts (ws_v q771 q772 q773 q38 q774) rfl rfl rfl hdV_J0_coder_7d493 (by rw [hR]; exact ⟨Nat.le_of_ble_eq_true rfl, Nat.le_of_ble_eq_true rfl⟩)) hK hN hX hP hD va_S.rf hA [] rfl (by decide) (px_strRecv hX va_S.rf hd) rfl hl.1 rfl (Nat.le_of_ble_eq_true rfl) dJ0_length_8abf5_6 (by rw [hR]; exact ⟨Nat.le_of_ble_eq_true rfl, Nat.le_of_ble_eq_true rfl⟩) ?_
  refine W.eq (g2 := F0 m 9 ls [.int 0, .int (nI (d.2.2.1))]) rfl ?_
  refine lv_ishr hx hb dJ0_length_8abf5_9 ?_
  refine W.eq (g2 := F0 m 10 ls [.int (nI (d.2.2.1))]) (by rw [sc_shr0 hn]) ?_
  exact px_ePi hQ hx hb hr hlocks dJ0_length_8abf5_10
theorem cJ0_isEmptyD (l : Launch) (E : PE) (X : PX) (d : PS) (hd : px_In X d) (hn : d.2.2.1 < 2 ^ 31) : MPX l yJ0_isEmpty_aae02 cJ0_isEmpty_aae02 1 (some .boolean) { frames := 0, cells := 0, slots := 0, locals := 0 } E X [.ref (d.1)] ([] : List va_W).flatten (some (.int (b2i (decide (nI (d.2.2.1) = 0))))) := by
  refine px_startPX (by decide +kernel) (Nat.le_of_ble_eq_true rfl) ?_
  intro p e s m args below meth c R Q A ls hC hX hQ
  obtain ⟨hx, hb, hr, hml, hts, hown, hlocks, hR, hK, hN, hP, hD, hA, hl, hin⟩ := hC
  have hl : lv_has ls 1 [(0, .ref (d.1))] := hl
  refine lv_aload_n hx hb dJ0_isEmpty_aae02_0 rfl (lv_at hl 0 rfl) ?_
  refine px_strV (ref := "") hx hb hX hd va_S.rf hown (hts _ q1403) dJ0_isEmpty_aae02_1 ?_
  refine va_tlen (v := nI (d.2.2.1)) hx hb (px_gs hX hd).2.2.2 va_S.rf rfl dJ0_isEmpty_aae02_4 ?_
  refine lv_if_ne (tgt := 12) hx hb dJ0_isEmpty_aae02_5 (by decide) (fun c => ?_) (fun c => ?_)
  · rw [decide_eq_false c] at hQ
    refine lv_iconst (v := 0) hx hb dJ0_isEmpty_aae02_12 (by decide) ?_
    refine W.eq (g2 := F0 m 13 ls [.int (b2i false)]) rfl ?_
    exact px_ePz (b2i_n _) hQ hx hb hr hlocks dJ0_isEmpty_aae02_13
  · rw [decide_eq_true c] at hQ
    refine lv_iconst (v := 1) hx hb dJ0_isEmpty_aae02_8 (by decide) ?_
    refine lv_goto (tgt := 13) hx hb dJ0_isEmpty_aae02_9 (by decide) ?_
    refine W.eq (g2 := F0 m 13 ls [.int (b2i true)]) rfl ?_
    exact px_ePz (b2i_n _) hQ hx hb hr hlocks dJ0_isEmpty_aae02_13
theorem cJ0_charAtD (l : Launch) (E : PE) (X : PX) (d : PS) (k : Nat) (hd : px_In X d) (hn : d.2.2.1 < 2 ^ 31) (hk : k < d.2.2.1) : MPX l yJ0_charAt_5068e cJ0_charAt_5068e 2 (some .char) { frames := 3, cells := 0, slots := 0, locals := 64 } E X [.ref (d.1), .int (nI k)] ([] : List va_W).flatten (some (.int (ch (d.2.2.2 k &&& 255)))) := by
  refine px_startPX (by decide +kernel) (Nat.le_of_ble_eq_true rfl) ?_
  intro p e s m args below meth c R Q A ls hC hX hQ
  obtain ⟨hx, hb, hr, hml, hts, hown, hlocks, hR, hK, hN, hP, hD, hA, hl, hin⟩ := hC
  have hl : lv_has ls 2 [(0, .ref (d.1)), (1, .int (nI k))] := hl
  refine lv_aload_n hx hb dJ0_charAt_5068e_0 rfl (lv_at hl 0 rfl) ?_
  refine px_VpX (As := []) (rest := []) (gs := []) (gc := []) ⟨hx, hb, hml, hown, hts⟩ (cJ0_isLatin1 l E X d hd hn) (cwV 0 hts (ws_v q781 q782 q783 q38 q784) rfl rfl rfl hdV_J0_isLatin1_aae02 (by rw [hR]; exact ⟨Nat.le_of_ble_eq_true rfl, Nat.le_of_ble_eq_true rfl⟩)) hK hN hX hP hD va_S.rf hA [] rfl (by decide) (px_strRecv hX va_S.rf hd) rfl hl.1 rfl (Nat.le_of_ble_eq_true rfl) dJ0_charAt_5068e_1 (by rw [hR]; exact ⟨Nat.le_of_ble_eq_true rfl, Nat.le_of_ble_eq_true rfl⟩) ?_
  refine W.eq (g2 := F0 m 4 ls [.int (b2i true)]) rfl ?_
  refine lv_if_eq (tgt := 16) hx hb dJ0_charAt_5068e_4 (by decide) (fun c => absurd c (by decide)) (fun _ => ?_)
  refine lv_aload_n hx hb dJ0_charAt_5068e_7 rfl (lv_at hl 0 rfl) ?_
  refine px_strV (ref := "") hx hb hX hd va_S.rf hown (hts _ q1403) dJ0_charAt_5068e_8 ?_
  refine lv_iload_n hx hb dJ0_charAt_5068e_11 rfl (lv_at hl 1 rfl) ?_
  refine px_SpX (As := [.ref (d.2.1), .int (nI k)]) (rest := []) (gs := []) (gc := []) ⟨hx, hb, hml, hown, hts⟩ (cJ1_charAt l E X d k hd hn hk) (va_cwS 2 hts (ws_s q785 q786 q39 q787) rfl rfl rfl hdS_J1_charAt_3b067 (by rw [hR]; exact ⟨Nat.le_of_ble_eq_true rfl, Nat.le_of_ble_eq_true rfl⟩)) hK hN hX hP hD va_S.rf hA [] rfl (by decide) rfl hl.1 rfl (Nat.le_of_ble_eq_true rfl) dJ0_charAt_5068e_12 (by rw [hR]; exact ⟨Nat.le_of_ble_eq_true rfl, Nat.le_of_ble_eq_true rfl⟩) ?_
  refine W.eq (g2 := F0 m 15 ls [.int (ch (d.2.2.2 k &&& 255))]) rfl ?_
  exact px_ePz (ch_n _) hQ hx hb hr hlocks dJ0_charAt_5068e_15
theorem cJ0_length (l : Launch) (E : PE) (X : PX) (i : Nat) (hi : i < 7) : MPX l yJ0_length_8abf5 cJ0_length_8abf5 1 (some .int) { frames := 1, cells := 0, slots := 0, locals := 20 } E X [.ref (X.1 i)] ([] : List va_W).flatten (some (.int (nI (sLen.getD i 0)))) := cJ0_lengthD l E X _ (px_ct (show i < 17 by omega)) (show sLen.getD i 0 < 2 ^ 31 by have := sLen_lt i (by omega); omega)
theorem cJ0_isEmpty (l : Launch) (E : PE) (X : PX) (i : Nat) (hi : i < 7) : MPX l yJ0_isEmpty_aae02 cJ0_isEmpty_aae02 1 (some .boolean) { frames := 0, cells := 0, slots := 0, locals := 0 } E X [.ref (X.1 i)] ([] : List va_W).flatten (some (.int (b2i (decide (nI (sLen.getD i 0) = 0))))) := cJ0_isEmptyD l E X _ (px_ct (show i < 17 by omega)) (show sLen.getD i 0 < 2 ^ 31 by have := sLen_lt i (by omega); omega)
theorem cJ0_charAtE (l : Launch) (E : PE) (X : PX) (d : PS) (k : Int32) (hd : px_In X d) (hn : d.2.2.1 < 2 ^ 31) (hk : inb k d.2.2.1 = true) : MPX l yJ0_charAt_5068e cJ0_charAt_5068e 2 (some .char) { frames := 3, cells := 0, slots := 0, locals := 64 } E X [.ref d.1, .int k] ([] : List va_W).flatten (some (.int (ch (d.2.2.2 k.toNatClampNeg &&& 255)))) := by
  obtain ⟨j, hj, rfl⟩ := vp_in_of (inb_in hk) (by omega)
  rw [nI_clamp (by omega)]
  exact cJ0_charAtD l E X d j hd hn hj
theorem cJ0_charAt2 (l : Launch) (E : PE) (X : PX) (i : Nat) (k : Int32) (hi : i < 7) (hk : inb k (sLen.getD i 0) = true) : MPX l yJ0_charAt_5068e cJ0_charAt_5068e 2 (some .char) { frames := 3, cells := 0, slots := 0, locals := 64 } E X [.ref (X.1 i), .int k] ([] : List va_W).flatten (some (.int (ch (sCh i k.toNatClampNeg)))) := cJ0_charAtE l E X _ k (px_ct (show i < 17 by omega)) (show sLen.getD i 0 < 2 ^ 31 by have := sLen_lt i (by omega); omega) hk


