/-! the law's own methods: o's method in a try; the script and the digits' rows lie where nobody writes -/
abbrev LX : Type := (Nat × Nat × AI) × (Nat × AI) × (Nat × AI) × ClassId
/-- the text builder's private methods, found by its receiver -/
def lw_ext : List Cond := [.selects RJ4 yJ5_ensureCapacityInternal_d00df yJ5_ensureCapacityInternal_d00df, .selects RJ4 yJ5_putStringAt_47b60 yJ5_putStringAt_47b60, .selects RJ4 yJ5_inflateIfNeededFor_a7421 yJ5_inflateIfNeededFor_a7421]
theorem lw_extG : ∀ w ∈ lw_ext, w.onTables = true ∧ goodWord w = true := by decide +kernel
def px_L (E : PE) (L : LX) (A : Nat → Prop) (U : State) (H : Heap) : Prop :=
  (va_T .int L.1.1 L.1.2.1 (fun j => .int (L.1.2.2 j)) A U H ∧ L.1.2.1 ≤ 260) ∧ ((va_Z "java/lang/Integer" "DigitOnes" "[B" (.ref L.2.1.1) A U H ∧ va_T .byte L.2.1.1 100 (fun j => .int (L.2.1.2 j)) A U H) ∧ (va_Z "java/lang/Integer" "DigitTens" "[B" (.ref L.2.2.1.1) A U H ∧ va_T .byte L.2.2.1.1 100 (fun j => .int (L.2.2.1.2 j)) A U H) ∧ va_K E.1 vwCl (tyE E ++ [(L.2.2.2, .byte)]) U ∧ ∀ w ∈ lw_ext, va_Nw w U) ∧ ∀ i j : Nat, 1 ≤ i → i ≤ 5 → 1 ≤ j → j ≤ 5 → i ≠ j → va_Nc (exn i) (exn j) U
theorem px_L.warm {E : PE} {L : LX} {A : Nat → Prop} {s U : State} {H : Heap} (hW : s.WarmedH U.vm) (h : px_L E L A s H) : px_L E L A U H :=
  ⟨⟨va_T.moved hW.alike h.1.1, h.1.2⟩, ⟨⟨va_Z.moved hW.alike h.2.1.1.1, va_T.moved hW.alike h.2.1.1.2⟩, ⟨va_Z.moved hW.alike h.2.1.2.1.1, va_T.moved hW.alike h.2.1.2.1.2⟩, va_K.moved hW.alike h.2.1.2.2.1, fun w hw => word_at hW (good_of_word (lw_extG w hw).2) (h.2.1.2.2.2 w hw)⟩, fun i j a b c d n => va_Nc.moved hW.alike (h.2.2 i j a b c d n)⟩
theorem px_L.same {E : PE} {L : LX} {A : Nat → Prop} {s U : State} {H : Heap} (hv : s.vm = U.vm) (h : px_L E L A s H) : px_L E L A U H := by
  have ha : s.vm.Alike U.vm := by rw [hv]; exact Vm.Alike.refl _
  exact ⟨⟨va_T.moved ha h.1.1, h.1.2⟩, ⟨⟨va_Z.moved ha h.2.1.1.1, va_T.moved ha h.2.1.1.2⟩, ⟨va_Z.moved ha h.2.1.2.1.1, va_T.moved ha h.2.1.2.1.2⟩, va_K.moved ha h.2.1.2.2.1, fun w hw => va_Nw.same (lw_extG w hw).1 hv (h.2.1.2.2.2 w hw)⟩, fun i j a b c d n => va_Nc.moved ha (h.2.2 i j a b c d n)⟩
theorem px_L.kept {E : PE} {L : LX} {A : Nat → Prop} {U : State} {H H1 : Heap} (h : px_L E L A U H) (hq : ∀ a : Nat, a < H.size → ¬ A a → H1[a]? = H[a]?) : px_L E L A U H1 :=
  ⟨⟨h.1.1.kept hq, h.1.2⟩, ⟨⟨va_Z.kept h.2.1.1.1 hq, h.2.1.1.2.kept hq⟩, ⟨va_Z.kept h.2.1.2.1.1 hq, h.2.1.2.1.2.kept hq⟩, h.2.1.2.2⟩, h.2.2⟩
theorem px_L.narrow {E : PE} {L : LX} {A B : Nat → Prop} {U : State} {H : Heap} (h : px_L E L A U H) (hAB : ∀ q, B q → A q) : px_L E L B U H :=
  ⟨⟨h.1.1.narrow hAB, h.1.2⟩, ⟨⟨va_Z.narrow h.2.1.1.1 hAB, h.2.1.1.2.narrow hAB⟩, ⟨va_Z.narrow h.2.1.2.1.1 hAB, h.2.1.2.1.2.narrow hAB⟩, h.2.1.2.2⟩, h.2.2⟩
def PWL (E : PE) (X : PX) (L : LX) (av : List Value) (ws : va_W) (sz : Nat) : Array Value → State → Prop := fun v U => PWX E X av ws sz v U ∧ px_L E L (va_A ws sz) U U.heap
theorem PWL_blind {E : PE} {X : PX} {L : LX} {av : List Value} {ws : va_W} {sz : Nat} : FrameBlind (PWL E X L av ws sz) := fun a U g mk q => ⟨PWX_blind a U g mk q.1, px_L.same (s := U) (U := U.calling g mk a) rfl q.2⟩
def wsw_ (y : MethodName) (c : ByteArray) (n : Nat) (r : Option FieldType) (hh : List (Nat × Nat × Nat × Nat)) : List Cond := Cond.codeWith y c n r hh :: lw_all
theorem wsw_g {y : MethodName} {c : ByteArray} {n : Nat} {r : Option FieldType} {hh : List (Nat × Nat × Nat × Nat)} (h : Cond.codeWith y c n r hh ∈ lw_all) : GoodIn lw_all (wsw_ y c n r hh) := fun w hw => (List.mem_cons.mp hw).elim (fun e => by rw [e]; exact lw_ag _ h) (fun h => lw_ag w h)
theorem wsw_s {own : String} {idx : Nat} {y : MethodName} {c : ByteArray} {n : Nat} {r : Option FieldType} {hh : List (Nat × Nat × Nat × Nat)} (ha : Cond.methodLink own idx y ∈ lw_all) (hb : Cond.static y ∈ lw_all) (hc : Cond.initialized y.cls ∈ lw_all) (h : Cond.codeWith y c n r hh ∈ lw_all) : GoodIn lw_all (va_wsS own idx y (wsw_ y c n r hh)) := ws_c3 ha hb hc (wsw_g h)
def ML (l : Launch) (y : MethodName) (c : ByteArray) (n : Nat) (ret : Option FieldType) (hh : List (Nat × Nat × Nat × Nat)) (rm : Room) (E : PE) (X : PX) (L : LX) (av : List Value) (ws : va_W) (mc ms : Nat) (v : Option Value) (ws' : va_W) : Prop := ∀ sz, Met l y (wsw_ y c n ret hh) rm (PWL E X L av ws sz) (QW E ws sz v ws') mc ms (va_A ws sz)
def MZ (l : Launch) (y : MethodName) (c : ByteArray) (n : Nat) (ret : Option FieldType) (rm : Room) (E : PE) (X : PX) (L : LX) (av : List Value) (ws : va_W) (mc ms : Nat) (v : Option Value) (ws' : va_W) : Prop := ∀ sz, Met l y (ws_ y c n ret) rm (PWL E X L av ws sz) (QW E ws sz v ws') mc ms (va_A ws sz)
theorem px_startL {l : Launch} {y : MethodName} {c : ByteArray} {n mc ms : Nat} {ret : Option FieldType} {hh : List (Nat × Nat × Nat × Nat)} {rm : Room} {E : PE} {X : PX} {L : LX} {av : List Value} {ws ws' : va_W} {v : Option Value} (hy : plainName y.cls = true) (hlen : (lg_sl av).length ≤ n)
    (body : ∀ (p : Program) (e : Env) (s : State) (m : MethodId) (args : Array Value) (below : List Frame) (meth : Method) (cd : Code) (R : Room) (Q : State → Prop) (A : Nat → Prop) (ls : Array Slot), px_C p s m args meth cd y c n ret E R rm A ws ls av → px_X X A s s.heap → px_L E L A s s.heap → A = va_A ws s.heap.size → Q = MQ below (QW E ws s.heap.size v ws') args s mc ms (va_A ws s.heap.size) → cd.exceptionTable.toList = tableOf hh → W p l e R s m args below meth cd s.heap [] 0 0 Q (F0 m 0 ls [])) : ML l y c n ret hh rm E X L av ws mc ms v ws' := by
  intro sz
  refine va_MetW (cc := c) (maxL := n) (ret := ret) (hh := hh) hy rfl ?_
  intro p e s m args below meth cd s₁ B hml hv
  obtain ⟨⟨⟨rfl, hsz, hP, hK, hN, hD0⟩, hX⟩, hL⟩ := hv
  subst hsz
  have hl := lv_entry av hlen
  rw [lg_entry_eq]
  generalize (lg_sl av ++ List.replicate (n - (lg_sl av).length) Slot.unset).toArray = ls at hl ⊢
  have h0 := atoms_spec (ws := wsw_ y c n ret hh) B.pre
  exact body p e s m av.toArray below meth cd _ _ (va_A ws s.heap.size) ls ⟨B.exec, B.bytes, B.returns, hml, fun w hw => h0 w (List.mem_cons_of_mem _ hw), findClass_of_methodNamed B.named, B.notSynchronized, rfl, hK, hN, hP, hD0.self, fun q h => Or.inr h, hl, (name_of_methodNamed B.named B.method).1⟩ hX hL rfl rfl (vx_table (x := y) B (h0 _ List.mem_cons_self))
theorem px_startZ {l : Launch} {y : MethodName} {c : ByteArray} {n mc ms : Nat} {ret : Option FieldType} {rm : Room} {E : PE} {X : PX} {L : LX} {av : List Value} {ws ws' : va_W} {v : Option Value} (hy : plainName y.cls = true) (hlen : (lg_sl av).length ≤ n)
    (body : ∀ (p : Program) (e : Env) (s : State) (m : MethodId) (args : Array Value) (below : List Frame) (meth : Method) (cd : Code) (R : Room) (Q : State → Prop) (A : Nat → Prop) (ls : Array Slot), px_C p s m args meth cd y c n ret E R rm A ws ls av → px_X X A s s.heap → px_L E L A s s.heap → A = va_A ws s.heap.size → Q = MQ below (QW E ws s.heap.size v ws') args s mc ms (va_A ws s.heap.size) → W p l e R s m args below meth cd s.heap [] 0 0 Q (F0 m 0 ls [])) : MZ l y c n ret rm E X L av ws mc ms v ws' := by
  intro sz
  refine Met.ofW (cc := c) (maxL := n) (ret := ret) hy rfl ?_
  intro p e s m args below meth cd s₁ B hml hv
  obtain ⟨⟨⟨rfl, hsz, hP, hK, hN, hD0⟩, hX⟩, hL⟩ := hv
  subst hsz
  have hl := lv_entry av hlen
  rw [lg_entry_eq]
  generalize (lg_sl av ++ List.replicate (n - (lg_sl av).length) Slot.unset).toArray = ls at hl ⊢
  exact body p e s m av.toArray below meth cd _ _ (va_A ws s.heap.size) ls ⟨B.exec, B.bytes, B.returns, hml, ws_hts (atoms_spec (ws := ws_ y c n ret) B.pre), findClass_of_methodNamed B.named, B.notSynchronized, rfl, hK, hN, hP, hD0.self, fun q h => Or.inr h, hl, (name_of_methodNamed B.named B.method).1⟩ hX hL rfl rfl
section PXSL
variable {p : Program} {l : Launch} {e : Env} {R : Room} {s : State} {m : MethodId} {args : Array Value} {below : List Frame} {meth : Method} {c : Code} {H : Heap} {locs : List Loc} {cells slots : Nat} {Q : State → Prop}
variable {y : MethodName} {bytes cc : ByteArray} {maxL nL mc ms n index pc : Nat} {ret : Option FieldType} {hh : List (Nat × Nat × Nat × Nat)} {rm : Room} {own : String} {As rest st0 : List Value} {E : PE} {X X2 : PX} {L : LX} {A0 : Nat → Prop} {gs gr gc g1 g2 : List va_W} {v : Option Value} {ls : Array Slot}
theorem px_preL (hK : va_K E.1 vwCl (tyE E) s) (hN : px_N s) (hX : px_X X A0 s s.heap) (hLL : px_L E L A0 s s.heap) {av : List Value} {gc : List va_W} (hP : va_P E.1 vwCl gs.flatten H) (hD : va_D A0 gs.flatten) (hS : va_S A0 s.heap H locs) (hA : ∀ q, s.heap.size ≤ q → A0 q) (iC : List Nat) (hC : iC.map (fun i => gs[i]?) = gc.map some) (hn : va_nd iC = true) : ∀ U : State, U.heap = H → s.WarmedH U.vm → PWL E X L av gc.flatten H.size av.toArray U :=
  fun U hU hW => ⟨px_preX hK hN hX hP hD hS hA iC hC hn U hU hW, by rw [hU]; exact ((hLL.kept hS.2.1).narrow (g_free hD hS hA iC hC)).warm hW⟩
theorem px_SL (S : CallFix p m c cc nL s args lw_all own) (hM : ML l y bytes maxL ret hh rm E X L As gc.flatten mc ms v g1.flatten) (cw : vx_CSW R s args own index y bytes maxL ret hh (wsw_ y bytes maxL ret hh) rm mc ms n)
    (hK : va_K E.1 vwCl (tyE E) s) (hN : px_N s) (hX : px_X X A0 s s.heap) (hLL : px_L E L A0 s s.heap) (hP : va_P E.1 vwCl gs.flatten H) (hD : va_D A0 gs.flatten) (hS : va_S A0 s.heap H locs) (hA : ∀ q, s.heap.size ≤ q → A0 q)
    (iR iC iF : List Nat) (hR : iR.map (fun i => gs[i]?) = gr.map some) (hC : iC.map (fun i => gs[i]?) = gc.map some) (hn : va_nd (iR ++ iC) = true) (hnC : va_nd iC = true) (hF : iF.map (fun i => (gr ++ g1)[i]?) = g2.map some) (hnF : va_nd iF = true)
    (hlen : As.length = n) (hls : ls.size = nL) (hst : st0 = As.reverse ++ rest) (hroom : (rest.map fun v => v.category).sum ≤ 8) (hdg : decode cc pc = .ok (.invokestatic index, 3)) (hf : cells + mc ≤ R.cells ∧ slots + ms ≤ R.slots)
    (kk : ∀ (H1 : Heap) (locs1 : List Loc), va_P E.1 vwCl g2.flatten H1 → va_D A0 g2.flatten → va_S A0 s.heap H1 locs1 → W p l e R s m args below meth c H1 locs1 (cells + mc) (slots + ms) Q (F0 m (pc + 3) ls (v.toList ++ rest))) : W p l e R s m args below meth c H locs cells slots Q (F0 m pc ls st0) :=
  px_go (vx_runSW S (hM H.size) cw ⟨PWL_blind, px_preL hK hN hX hLL hP hD hS hA iC hC hnC⟩ rfl hlen hls hst (lv_room (pc := pc) (ls := ls) (m := m) (rest := []) hroom) hdg hf) hP hD hS hA iR iC iF hR hC hn hF hnF kk
theorem px_SZ (S : CallFix p m c cc nL s args lw_all own) (hM : MZ l y bytes maxL ret rm E X L As gc.flatten mc ms v g1.flatten) (cw : CallB R s args own index y bytes maxL ret (ws_ y bytes maxL ret) rm mc ms n ∧ (Cond.static y).before args s = true)
    (hK : va_K E.1 vwCl (tyE E) s) (hN : px_N s) (hX : px_X X A0 s s.heap) (hLL : px_L E L A0 s s.heap) (hP : va_P E.1 vwCl gs.flatten H) (hD : va_D A0 gs.flatten) (hS : va_S A0 s.heap H locs) (hA : ∀ q, s.heap.size ≤ q → A0 q)
    (iR iC iF : List Nat) (hR : iR.map (fun i => gs[i]?) = gr.map some) (hC : iC.map (fun i => gs[i]?) = gc.map some) (hn : va_nd (iR ++ iC) = true) (hnC : va_nd iC = true) (hF : iF.map (fun i => (gr ++ g1)[i]?) = g2.map some) (hnF : va_nd iF = true)
    (hlen : As.length = n) (hls : ls.size = nL) (hst : st0 = As.reverse ++ rest) (hroom : (rest.map fun v => v.category).sum ≤ 8) (hdg : decode cc pc = .ok (.invokestatic index, 3)) (hf : cells + mc ≤ R.cells ∧ slots + ms ≤ R.slots)
    (kk : ∀ (H1 : Heap) (locs1 : List Loc), va_P E.1 vwCl g2.flatten H1 → va_D A0 g2.flatten → va_S A0 s.heap H1 locs1 → W p l e R s m args below meth c H1 locs1 (cells + mc) (slots + ms) Q (F0 m (pc + 3) ls (v.toList ++ rest))) : W p l e R s m args below meth c H locs cells slots Q (F0 m pc ls st0) :=
  px_go (va_runS S (hM H.size) cw ⟨PWL_blind, px_preL hK hN hX hLL hP hD hS hA iC hC hnC⟩ rfl hlen hls hst (lv_room (pc := pc) (ls := ls) (m := m) (rest := []) hroom) hdg hf) hP hD hS hA iR iC iF hR hC hn hF hnF kk
/-- a call with one more String at hand -/
theorem px_SZ2 (S : CallFix p m c cc nL s args lw_all own) (hM : MZ l y bytes maxL ret rm E X2 L As gc.flatten mc ms v g1.flatten) (cw : CallB R s args own index y bytes maxL ret (ws_ y bytes maxL ret) rm mc ms n ∧ (Cond.static y).before args s = true)
    (hK : va_K E.1 vwCl (tyE E) s) (hN : px_N s) (hX : px_X X A0 s s.heap) (hX2 : px_X X (va_A gc.flatten H.size) s H → px_X X2 (va_A gc.flatten H.size) s H) (hLL : px_L E L A0 s s.heap) (hP : va_P E.1 vwCl gs.flatten H) (hD : va_D A0 gs.flatten) (hS : va_S A0 s.heap H locs) (hA : ∀ q, s.heap.size ≤ q → A0 q)
    (iR iC iF : List Nat) (hR : iR.map (fun i => gs[i]?) = gr.map some) (hC : iC.map (fun i => gs[i]?) = gc.map some) (hn : va_nd (iR ++ iC) = true) (hnC : va_nd iC = true) (hF : iF.map (fun i => (gr ++ g1)[i]?) = g2.map some) (hnF : va_nd iF = true)
    (hlen : As.length = n) (hls : ls.size = nL) (hst : st0 = As.reverse ++ rest) (hroom : (rest.map fun v => v.category).sum ≤ 8) (hdg : decode cc pc = .ok (.invokestatic index, 3)) (hf : cells + mc ≤ R.cells ∧ slots + ms ≤ R.slots)
    (kk : ∀ (H1 : Heap) (locs1 : List Loc), va_P E.1 vwCl g2.flatten H1 → va_D A0 g2.flatten → va_S A0 s.heap H1 locs1 → W p l e R s m args below meth c H1 locs1 (cells + mc) (slots + ms) Q (F0 m (pc + 3) ls (v.toList ++ rest))) : W p l e R s m args below meth c H locs cells slots Q (F0 m pc ls st0) :=
  px_go (va_runS S (hM H.size) cw ⟨PWL_blind, fun U hU hW => ⟨⟨px_pre hK hN hP hD iC hC hnC U hU hW, by rw [hU]; exact (hX2 ((hX.kept hS.2.1).narrow (g_free hD hS hA iC hC))).warm hW⟩, by rw [hU]; exact ((hLL.kept hS.2.1).narrow (g_free hD hS hA iC hC)).warm hW⟩⟩ rfl hlen hls hst (lv_room (pc := pc) (ls := ls) (m := m) (rest := []) hroom) hdg hf) hP hD hS hA iR iC iF hR hC hn hF hnF kk
end PXSL
section PXEL
variable {p : Program} {l : Launch} {e : Env} {R : Room} {s : State} {m : MethodId} {args : Array Value} {below : List Frame} {meth : Method} {c : Code} {H : Heap} {locs : List Loc} {cells slots : Nat} {Q : State → Prop}
variable {cc : ByteArray} {pc mc ms : Nat} {E : PE} {A : Nat → Prop} {ws ws' : va_W} {ls : Array Slot} {x : Int64}
theorem px_eWl (hA : A = va_A ws s.heap.size) (hQ : Q = MQ below (QW E ws s.heap.size (some (.long x)) ws') args s cells slots (va_A ws s.heap.size)) (hP : va_P E.1 vwCl ws' H) (hD : va_D A ws') (hS : va_S A s.heap H locs) (hx : p.tables.exec = Jvm.exec) (hb : c.code = cc) (hr : meth.sig.returnType = some .long) (hlocks : meth.locks = false) (hdg : decode cc pc = .ok (.lreturn, 1)) : W p l e R s m args below meth c H locs cells slots Q (F0 m pc ls [.long x]) := by
  subst hQ; exact W.lret hx hb hr (px_qw hA hP hD hS) (by rw [← hA]; exact hS.2.2) hdg hlocks
theorem px_ePl (hQ : Q = MQ below (QP (some (.long x))) args s 0 0 (fun _ => False)) (hx : p.tables.exec = Jvm.exec) (hb : c.code = cc) (hr : meth.sig.returnType = some .long) (hlocks : meth.locks = false) (hdg : decode cc pc = .ok (.lreturn, 1)) : W p l e R s m args below meth c s.heap [] 0 0 Q (F0 m pc ls [.long x]) := by
  subst hQ; exact W.lret hx hb hr (fun t ht _ => ⟨rfl, ht⟩) (fun q h => by cases h) hdg hlocks
end PXEL
theorem fl1 {g : va_W} : ([g] : List va_W).flatten = g := by simp

set_option maxRecDepth 20000 in
theorem q272 : (Jvm.Cond.codeWith ({ cls := "RecipeForestsLaw", name := "edit", desc := "(LRecipeForests;III)I" } : Jvm.MethodName) method_4_code (5 : Nat) (Option.some Jvm.ClassFile.FieldType.int) [((0 : Nat), (7 : Nat), (8 : Nat), (13 : Nat)), ((0 : Nat), (7 : Nat), (14 : Nat), (15 : Nat)), ((0 : Nat), (7 : Nat), (20 : Nat), (17 : Nat))]) ∈ lw_all := lw_in 272 rfl rfl
set_option maxRecDepth 20000 in
theorem q458 : (Jvm.Cond.codeWith ({ cls := "RecipeForestsLaw", name := "fork", desc := "(LRecipeForests;I)I" } : Jvm.MethodName) method_5_code (3 : Nat) (Option.some Jvm.ClassFile.FieldType.int) [((0 : Nat), (5 : Nat), (6 : Nat), (13 : Nat)), ((0 : Nat), (5 : Nat), (11 : Nat), (17 : Nat))]) ∈ lw_all := lw_in 458 rfl rfl
set_option maxRecDepth 20000 in
theorem q477 : (Jvm.Cond.codeWith ({ cls := "RecipeForestsLaw", name := "reset", desc := "(LRecipeForests;II)I" } : Jvm.MethodName) method_6_code (4 : Nat) (Option.some Jvm.ClassFile.FieldType.int) [((0 : Nat), (6 : Nat), (7 : Nat), (13 : Nat)), ((0 : Nat), (6 : Nat), (12 : Nat), (17 : Nat))]) ∈ lw_all := lw_in 477 rfl rfl
set_option maxRecDepth 20000 in
theorem q496 : (Jvm.Cond.codeWith ({ cls := "RecipeForestsLaw", name := "tip", desc := "(LRecipeForests;I)I" } : Jvm.MethodName) method_7_code (3 : Nat) (Option.some Jvm.ClassFile.FieldType.int) [((0 : Nat), (5 : Nat), (6 : Nat), (13 : Nat))]) ∈ lw_all := lw_in 496 rfl rfl
set_option maxRecDepth 20000 in
theorem q510 : (Jvm.Cond.codeWith ({ cls := "RecipeForestsLaw", name := "commitOf", desc := "(LRecipeForests;II)I" } : Jvm.MethodName) method_9_code (4 : Nat) (Option.some Jvm.ClassFile.FieldType.int) [((0 : Nat), (6 : Nat), (7 : Nat), (13 : Nat)), ((0 : Nat), (6 : Nat), (12 : Nat), (15 : Nat))]) ∈ lw_all := lw_in 510 rfl rfl
set_option maxRecDepth 20000 in
theorem q550 : (Jvm.Cond.codeWith ({ cls := "RecipeForestsLaw", name := "merge", desc := "(LRecipeForests;III)I" } : Jvm.MethodName) method_10_code (5 : Nat) (Option.some Jvm.ClassFile.FieldType.int) [((0 : Nat), (7 : Nat), (8 : Nat), (13 : Nat)), ((0 : Nat), (7 : Nat), (14 : Nat), (15 : Nat)), ((0 : Nat), (7 : Nat), (20 : Nat), (17 : Nat))]) ∈ lw_all := lw_in 550 rfl rfl
set_option maxRecDepth 20000 in
theorem q595 : (Jvm.Cond.codeWith ({ cls := "RecipeForestsLaw", name := "revert", desc := "(LRecipeForests;III)I" } : Jvm.MethodName) method_12_code (5 : Nat) (Option.some Jvm.ClassFile.FieldType.int) [((0 : Nat), (7 : Nat), (8 : Nat), (13 : Nat)), ((0 : Nat), (7 : Nat), (14 : Nat), (15 : Nat)), ((0 : Nat), (7 : Nat), (20 : Nat), (17 : Nat))]) ∈ lw_all := lw_in 595 rfl rfl
set_option maxRecDepth 20000 in
theorem q615 : (Jvm.Cond.codeWith ({ cls := "RecipeForestsLaw", name := "halve", desc := "(LRecipeForests;IIIZ)I" } : Jvm.MethodName) method_19_code (6 : Nat) (Option.some Jvm.ClassFile.FieldType.int) [((0 : Nat), (9 : Nat), (10 : Nat), (13 : Nat)), ((0 : Nat), (9 : Nat), (16 : Nat), (15 : Nat)), ((0 : Nat), (9 : Nat), (22 : Nat), (64 : Nat))]) ∈ lw_all := lw_in 615 rfl rfl
set_option maxRecDepth 20000 in
theorem q670 : (Jvm.Cond.codeWith ({ cls := "RecipeForestsLaw", name := "firstBad", desc := "(LRecipeForests;III)I" } : Jvm.MethodName) method_20_code (5 : Nat) (Option.some Jvm.ClassFile.FieldType.int) [((0 : Nat), (7 : Nat), (8 : Nat), (13 : Nat)), ((0 : Nat), (7 : Nat), (14 : Nat), (15 : Nat)), ((0 : Nat), (7 : Nat), (20 : Nat), (64 : Nat))]) ∈ lw_all := lw_in 670 rfl rfl
set_option maxRecDepth 20000 in
theorem q682 : (Jvm.Cond.codeWith ({ cls := "RecipeForestsLaw", name := "bundle", desc := "(LRecipeForests;I)I" } : Jvm.MethodName) method_25_code (3 : Nat) (Option.some Jvm.ClassFile.FieldType.int) [((0 : Nat), (5 : Nat), (6 : Nat), (15 : Nat))]) ∈ lw_all := lw_in 682 rfl rfl
set_option maxRecDepth 20000 in
theorem q701 : (Jvm.Cond.codeWith ({ cls := "RecipeForestsLaw", name := "append", desc := "(LRecipeForests;C)I" } : Jvm.MethodName) method_31_code (3 : Nat) (Option.some Jvm.ClassFile.FieldType.int) [((0 : Nat), (5 : Nat), (6 : Nat), (110 : Nat))]) ∈ lw_all := lw_in 701 rfl rfl
set_option maxRecDepth 20000 in
theorem q733 : (Jvm.Cond.codeWith ({ cls := "RecipeForestsLaw", name := "read", desc := "(LRecipeForests;)I" } : Jvm.MethodName) method_32_code (2 : Nat) (Option.some Jvm.ClassFile.FieldType.int) [((0 : Nat), (4 : Nat), (5 : Nat), (15 : Nat)), ((0 : Nat), (4 : Nat), (10 : Nat), (17 : Nat))]) ∈ lw_all := lw_in 733 rfl rfl
set_option maxRecDepth 20000 in
theorem q850 : (Jvm.Cond.codeWith ({ cls := "RecipeForestsLaw", name := "account", desc := "(LRecipeForests;I)I" } : Jvm.MethodName) method_34_code (3 : Nat) (Option.some Jvm.ClassFile.FieldType.int) [((0 : Nat), (5 : Nat), (6 : Nat), (15 : Nat))]) ∈ lw_all := lw_in 850 rfl rfl
set_option maxRecDepth 20000 in
theorem q914 : (Jvm.Cond.codeWith ({ cls := "RecipeForestsLaw", name := "refusal", desc := "(LRecipeForests;Z)I" } : Jvm.MethodName) method_33_code (3 : Nat) (Option.some Jvm.ClassFile.FieldType.int) [((0 : Nat), (5 : Nat), (6 : Nat), (64 : Nat))]) ∈ lw_all := lw_in 914 rfl rfl
set_option maxRecDepth 20000 in
theorem q936 : (Jvm.Cond.codeWith ({ cls := "RecipeForestsLaw", name := "pick", desc := "(LRecipeForests;III)I" } : Jvm.MethodName) method_11_code (5 : Nat) (Option.some Jvm.ClassFile.FieldType.int) [((0 : Nat), (7 : Nat), (8 : Nat), (13 : Nat)), ((0 : Nat), (7 : Nat), (14 : Nat), (15 : Nat)), ((0 : Nat), (7 : Nat), (20 : Nat), (17 : Nat))]) ∈ lw_all := lw_in 936 rfl rfl
set_option maxRecDepth 20000 in
theorem q1000 : (Jvm.Cond.codeWith ({ cls := "RecipeForestsLaw", name := "amount", desc := "(LRecipeForests;II)I" } : Jvm.MethodName) method_8_code (4 : Nat) (Option.some Jvm.ClassFile.FieldType.int) [((0 : Nat), (6 : Nat), (7 : Nat), (13 : Nat))]) ∈ lw_all := lw_in 1000 rfl rfl
set_option maxRecDepth 20000 in
theorem q1007 : (Jvm.Cond.codeWith ({ cls := "RecipeForestsLaw", name := "tasteBits", desc := "(LRecipeForests;I)I" } : Jvm.MethodName) method_23_code (3 : Nat) (Option.some Jvm.ClassFile.FieldType.int) [((0 : Nat), (5 : Nat), (6 : Nat), (13 : Nat))]) ∈ lw_all := lw_in 1007 rfl rfl
set_option maxRecDepth 20000 in
theorem q1018 : (Jvm.Cond.codeWith ({ cls := "RecipeForestsLaw", name := "taste", desc := "(LRecipeForests;I)F" } : Jvm.MethodName) method_22_code (3 : Nat) (Option.some Jvm.ClassFile.FieldType.float) [((0 : Nat), (5 : Nat), (6 : Nat), (13 : Nat))]) ∈ lw_all := lw_in 1018 rfl rfl
set_option maxRecDepth 20000 in
theorem q1026 : (Jvm.Cond.codeWith ({ cls := "RecipeForestsLaw", name := "in", desc := "(LRecipeForests;II)I" } : Jvm.MethodName) method_14_code (4 : Nat) (Option.some Jvm.ClassFile.FieldType.int) [((0 : Nat), (14 : Nat), (15 : Nat), (13 : Nat))]) ∈ lw_all := lw_in 1026 rfl rfl
set_option maxRecDepth 20000 in
theorem q1034 : (Jvm.Cond.codeWith ({ cls := "RecipeForestsLaw", name := "base", desc := "(LRecipeForests;II)I" } : Jvm.MethodName) method_15_code (4 : Nat) (Option.some Jvm.ClassFile.FieldType.int) [((0 : Nat), (6 : Nat), (7 : Nat), (13 : Nat))]) ∈ lw_all := lw_in 1034 rfl rfl
set_option maxRecDepth 20000 in
theorem q1042 : (Jvm.Cond.codeWith ({ cls := "RecipeForestsLaw", name := "baseAgain", desc := "(LRecipeForests;II)I" } : Jvm.MethodName) method_16_code (4 : Nat) (Option.some Jvm.ClassFile.FieldType.int) [((0 : Nat), (6 : Nat), (7 : Nat), (13 : Nat))]) ∈ lw_all := lw_in 1042 rfl rfl
set_option maxRecDepth 20000 in
theorem q1050 : (Jvm.Cond.codeWith ({ cls := "RecipeForestsLaw", name := "difference", desc := "(LRecipeForests;II)I" } : Jvm.MethodName) method_17_code (4 : Nat) (Option.some Jvm.ClassFile.FieldType.int) [((0 : Nat), (6 : Nat), (7 : Nat), (13 : Nat))]) ∈ lw_all := lw_in 1050 rfl rfl
set_option maxRecDepth 20000 in
theorem q1060 : (Jvm.Cond.codeWith ({ cls := "RecipeForestsLaw", name := "line", desc := "(LRecipeForests;I)I" } : Jvm.MethodName) method_29_code (3 : Nat) (Option.some Jvm.ClassFile.FieldType.int) [((0 : Nat), (5 : Nat), (6 : Nat), (13 : Nat))]) ∈ lw_all := lw_in 1060 rfl rfl
set_option maxRecDepth 20000 in
theorem q1084 : (Jvm.Cond.codeWith ({ cls := "RecipeForestsLaw", name := "character", desc := "(LRecipeForests;I)I" } : Jvm.MethodName) method_30_code (3 : Nat) (Option.some Jvm.ClassFile.FieldType.int) [((0 : Nat), (5 : Nat), (6 : Nat), (13 : Nat))]) ∈ lw_all := lw_in 1084 rfl rfl
set_option maxRecDepth 20000 in
theorem q1101 : (Jvm.Cond.codeWith ({ cls := "RecipeForestsLaw", name := "tastiest", desc := "(LRecipeForests;I)I" } : Jvm.MethodName) method_24_code (3 : Nat) (Option.some Jvm.ClassFile.FieldType.int) [((0 : Nat), (5 : Nat), (6 : Nat), (13 : Nat))]) ∈ lw_all := lw_in 1101 rfl rfl
set_option maxRecDepth 20000 in
theorem q1113 : (Jvm.Cond.codeWith ({ cls := "RecipeForestsLaw", name := "conflicts", desc := "(LRecipeForests;II)I" } : Jvm.MethodName) method_13_code (4 : Nat) (Option.some Jvm.ClassFile.FieldType.int) [((0 : Nat), (6 : Nat), (7 : Nat), (13 : Nat))]) ∈ lw_all := lw_in 1113 rfl rfl
set_option maxRecDepth 20000 in
theorem q1124 : (Jvm.Cond.codeWith ({ cls := "RecipeForestsLaw", name := "onLine", desc := "(LRecipeForests;II)I" } : Jvm.MethodName) method_18_code (4 : Nat) (Option.some Jvm.ClassFile.FieldType.int) [((0 : Nat), (6 : Nat), (7 : Nat), (13 : Nat)), ((0 : Nat), (6 : Nat), (12 : Nat), (64 : Nat))]) ∈ lw_all := lw_in 1124 rfl rfl
set_option maxRecDepth 20000 in
theorem q1133 : (Jvm.Cond.codeWith ({ cls := "RecipeForestsLaw", name := "blame", desc := "(LRecipeForests;II)I" } : Jvm.MethodName) method_21_code (4 : Nat) (Option.some Jvm.ClassFile.FieldType.int) [((0 : Nat), (6 : Nat), (7 : Nat), (13 : Nat))]) ∈ lw_all := lw_in 1133 rfl rfl
set_option maxRecDepth 20000 in
theorem q1144 : (Jvm.Cond.codeWith ({ cls := "RecipeForestsLaw", name := "inBundle", desc := "(LRecipeForests;I)I" } : Jvm.MethodName) method_27_code (3 : Nat) (Option.some Jvm.ClassFile.FieldType.int) [((0 : Nat), (5 : Nat), (6 : Nat), (13 : Nat)), ((0 : Nat), (5 : Nat), (11 : Nat), (64 : Nat))]) ∈ lw_all := lw_in 1144 rfl rfl
set_option maxRecDepth 20000 in
theorem q1162 : (Jvm.Cond.codeWith ({ cls := "RecipeForestsLaw", name := "put", desc := "(LRecipeForests;II)I" } : Jvm.MethodName) method_26_code (4 : Nat) (Option.some Jvm.ClassFile.FieldType.int) [((0 : Nat), (6 : Nat), (7 : Nat), (13 : Nat)), ((0 : Nat), (6 : Nat), (12 : Nat), (17 : Nat))]) ∈ lw_all := lw_in 1162 rfl rfl
set_option maxRecDepth 20000 in
theorem q1184 : (Jvm.Cond.codeWith ({ cls := "RecipeForestsLaw", name := "play", desc := "(LRecipeForests;II)I" } : Jvm.MethodName) method_28_code (4 : Nat) (Option.some Jvm.ClassFile.FieldType.int) [((0 : Nat), (6 : Nat), (7 : Nat), (13 : Nat)), ((0 : Nat), (6 : Nat), (12 : Nat), (15 : Nat)), ((0 : Nat), (6 : Nat), (17 : Nat), (17 : Nat))]) ∈ lw_all := lw_in 1184 rfl rfl
