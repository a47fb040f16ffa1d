/-! the law's own methods: x's method in a try, the answer in a row of one -/
abbrev LX : Type := ClassId × ClassId
def gLO (L : LX) (q : Nat) (f : Nat → Int64) : va_W := [(q, .inl (L.1, 1, .inr (.inl f)))]
def gLD (L : LX) (q : Nat) (f : Nat → UInt64) : va_W := [(q, .inl (L.2, 1, .inr (.inr (.inr (.inl f)))))]
def px_L (E : PE) (L : LX) (U : State) : Prop := va_K E.1 vwCl (tyE E ++ [(L.1, .long), (L.2, .double)]) U ∧ ∀ i j : Nat, 1 ≤ i → i ≤ 5 → 1 ≤ j → j ≤ 5 → i ≠ j → va_Nc (exn i) (exn j) U
theorem px_L.moved {E : PE} {L : LX} {u U : State} (hvm : u.vm.Alike U.vm) (h : px_L E L u) : px_L E L U := ⟨va_K.moved hvm h.1, fun i j a b c d n => va_Nc.moved hvm (h.2 i j a b c d n)⟩
def PWL (E : PE) (X : PX) (L : LX) (av : List Value) (ws : va_W) (sz : Nat) : Array Value → State → Prop := fun v U => PWX E X av ws sz v U ∧ px_L E L U
theorem PWL_blind {E : PE} {X : PX} {L : LX} {av : List Value} {ws : va_W} {sz : Nat} : FrameBlind (PWL E X L av ws sz) := fun a U g mk q => ⟨PWX_blind a U g mk q.1, px_L.moved (u := U) (U := U.calling g mk a) (Vm.Alike.refl U.vm) q.2⟩
def wsw_ (y : MethodName) (c : ByteArray) (n : Nat) (r : Option FieldType) (hh : List (Nat × Nat × Nat × Nat)) : List Cond := Cond.codeWith y c n r hh :: lw_all
theorem wsw_g {y : MethodName} {c : ByteArray} {n : Nat} {r : Option FieldType} {hh : List (Nat × Nat × Nat × Nat)} (h : Cond.codeWith y c n r hh ∈ lw_all) : GoodIn lw_all (wsw_ y c n r hh) := fun w hw => (List.mem_cons.mp hw).elim (fun e => by rw [e]; exact lw_ag _ h) (fun h => lw_ag w h)
def ML (l : Launch) (y : MethodName) (c : ByteArray) (n : Nat) (hh : List (Nat × Nat × Nat × Nat)) (rm : Room) (E : PE) (X : PX) (L : LX) (av : List Value) (ws : va_W) (mc ms : Nat) (v : Option Value) (ws' : va_W) : Prop := ∀ sz, Met l y (wsw_ y c n (some .int) hh) rm (PWL E X L av ws sz) (QW E ws sz v ws') mc ms (va_A ws sz)
theorem px_startL {l : Launch} {y : MethodName} {c : ByteArray} {n mc ms : Nat} {hh : List (Nat × Nat × Nat × Nat)} {rm : Room} {E : PE} {X : PX} {L : LX} {av : List Value} {ws ws' : va_W} {v : Option Value} (hy : plainName y.cls = true) (hlen : (lg_sl av).length ≤ n)
    (body : ∀ (p : Program) (e : Env) (s : State) (m : MethodId) (args : Array Value) (below : List Frame) (meth : Method) (cd : Code) (R : Room) (Q : State → Prop) (A : Nat → Prop) (ls : Array Slot), px_C p s m args meth cd y c n (some .int) E R rm A ws ls av → px_X X A s s.heap → px_L E L s → A = va_A ws s.heap.size → Q = MQ below (QW E ws s.heap.size v ws') args s mc ms (va_A ws s.heap.size) → cd.exceptionTable.toList = tableOf hh → W p l e R s m args below meth cd s.heap [] 0 0 Q (F0 m 0 ls [])) : ML l y c n hh rm E X L av ws mc ms v ws' := by
  intro sz
  refine va_MetW (cc := c) (maxL := n) (ret := some .int) (hh := hh) hy rfl ?_
  intro p e s m args below meth cd s₁ B hml hv
  obtain ⟨⟨⟨rfl, hsz, hP, hK, hN, hD0⟩, hX⟩, hL⟩ := hv
  subst hsz
  have hl := lv_entry av hlen
  rw [lg_entry_eq]
  generalize (lg_sl av ++ List.replicate (n - (lg_sl av).length) Slot.unset).toArray = ls at hl ⊢
  have h0 := atoms_spec (ws := wsw_ y c n (some .int) hh) B.pre
  exact body p e s m av.toArray below meth cd _ _ (va_A ws s.heap.size) ls ⟨B.exec, B.bytes, B.returns, hml, fun w hw => h0 w (List.mem_cons_of_mem _ hw), findClass_of_methodNamed B.named, B.notSynchronized, rfl, hK, hN, hP, hD0.self, fun q h => Or.inr h, hl, (name_of_methodNamed B.named B.method).1⟩ hX hL rfl rfl (vx_table (x := y) B (h0 _ List.mem_cons_self))

