def gX8 (E : PE) (a : Nat → Nat) (r_forest : Nat) (r_before : Nat) (r_saved : Nat) (v_isSaved : Int32) (r_history : Nat) (r_desk : Nat) (r_walk : Nat) (r_input : Nat) (r_orders : Nat) (r_written : Nat) (v_wrongPosition : Int32) : va_W := [(a 0, .inr (8, [.ref r_forest, .ref r_before, .ref r_saved, .int v_isSaved, .ref r_history, .ref r_desk, .ref r_walk, .ref r_input, .ref r_orders, .ref r_written, .int v_wrongPosition]))]
def gX2 (E : PE) (a : Nat → Nat) (v_rows : Nat → Fo) (v_next v_count : Int32) : va_W := [(a 0, .inr (2, [.ref (a 1), .int v_next, .int v_count])), (a 1, .inl (E.2.2.2, 8, .inr (.inr (.inr (.inr (fun i => some (a (2 + 9 * i))))))))] ++ (List.range 8).flatMap (fun i => gX1 E (fun j => a (2 + 9 * i + j)) (v_rows i))
/-! methods that throw: the code k says how they end (0: they return) -/
def exn (k : Nat) : String := match k with
  | 1 => "java/lang/IndexOutOfBoundsException"
  | 2 => "java/lang/IllegalArgumentException"
  | 3 => "java/lang/UnsupportedOperationException"
  | 4 => "java/util/NoSuchElementException"
  | _ => "java/lang/IllegalStateException"
def QT (E : PE) (ws : va_W) (sz k : Nat) (v : Option Value) (ws' : va_W) : Array Value → State → Outcome → State → Prop := fun a st o t => k = 0 ∧ QW E ws sz v ws' a st o t
def XT (E : PE) (ws : va_W) (sz k : Nat) (ws' : va_W) : String → State → State → Prop := fun En st t => ¬ k = 0 ∧ En = exn k ∧ (va_P E.1 vwCl ws' t.heap ∧ va_D (va_A ws sz) ws') ∧ va_F (va_A ws sz) st t
def MT (l : Launch) (y : MethodName) (c : ByteArray) (n : Nat) (ret : Option FieldType) (rm : Room) (E : PE) (X : PX) (av : List Value) (ws : va_W) (mc ms k : Nat) (v : Option Value) (ws' : va_W) : Prop := ∀ sz, vx_Met l y (ws_ y c n ret) rm (PWX E X av ws sz) (QT E ws sz k v ws') (XT E ws sz k ws') mc ms (va_A ws sz)
theorem px_startT {l : Launch} {y : MethodName} {c : ByteArray} {n mc ms k : Nat} {ret : Option FieldType} {rm : Room} {E : PE} {X : PX} {av : List Value} {ws ws' : va_W} {v : Option Value} (hy : plainName y.cls = true) (hlen : (lg_sl av).length ≤ n)
    (body : ∀ (p : Program) (e : Env) (s : State) (m : MethodId) (args : Array Value) (below : List Frame) (meth : Method) (cd : Code) (R : Room) (Q : State → Prop) (A : Nat → Prop) (ls : Array Slot), px_C p s m args meth cd y c n ret E R rm A ws ls av → px_X X A s s.heap → A = va_A ws s.heap.size → Q = vx_MQ below (QT E ws s.heap.size k v ws') (XT E ws s.heap.size k ws') args s mc ms (va_A ws s.heap.size) → (∀ x ∈ cd.exceptionTable.toList, False) → W p l e R s m args below meth cd s.heap [] 0 0 Q (F0 m 0 ls [])) : MT l y c n ret rm E X av ws mc ms k v ws' := by
  intro sz
  refine vx_ofW (cc := c) (maxL := n) (ret := ret) hy rfl ?_
  intro p e s m args below meth cd s₁ B hml htb hv
  obtain ⟨⟨rfl, hsz, hP, hK, hN, hD0⟩, hX⟩ := hv
  subst hsz
  have hl := lv_entry av hlen
  rw [lg_entry_eq]
  generalize (lg_sl av ++ List.replicate (n - (lg_sl av).length) Slot.unset).toArray = ls at hl ⊢
  exact body p e s m av.toArray below meth cd _ _ (va_A ws s.heap.size) ls ⟨B.exec, B.bytes, B.returns, hml, ws_hts (atoms_spec (ws := ws_ y c n ret) B.pre), findClass_of_methodNamed B.named, B.notSynchronized, rfl, hK, hN, hP, hD0.self, fun q h => Or.inr h, hl, (name_of_methodNamed B.named B.method).1⟩ hX rfl rfl htb
section PXT
variable {p : Program} {l : Launch} {e : Env} {R : Room} {s : State} {m : MethodId} {args : Array Value} {below : List Frame} {meth : Method} {c : Code} {H : Heap} {locs : List Loc} {cells slots : Nat} {Q : State → Prop}
variable {y : MethodName} {bytes cc : ByteArray} {maxL nL mc ms mc1 ms1 n index pc k k1 : Nat} {ret : Option FieldType} {rm : Room} {own C En : String} {b q9 : Addr} {As rest st0 : List Value} {v : Option Value} {E : PE} {X : PX} {A A0 : Nat → Prop} {ws ws' : va_W} {gs gr gc g1 g2 : List va_W} {ls : Array Slot} {a : Array Value} {ce : Cell} {x : Int32} {z : UInt32} {d : UInt64}
theorem px_eTi (h1 : cells ≤ mc) (h2 : slots ≤ ms) (hA : A = va_A ws s.heap.size) (hQ : Q = vx_MQ below (QT E ws s.heap.size 0 (some (.int x)) ws') (XT E ws s.heap.size 0 ws') args s mc ms (va_A ws s.heap.size)) (hP : va_P E.1 vwCl ws' H) (hD : va_D A ws') (hS : va_S A s.heap H locs) (hx : p.tables.exec = Jvm.exec) (hb : c.code = cc) (hr : meth.sig.returnType = some .int) (hlocks : meth.locks = false) (hdg : decode cc pc = .ok (.ireturn, 1)) : W p l e R s m args below meth c H locs cells slots Q (F0 m pc ls [.int x]) := by
  subst hQ
  exact W.widen h1 h2 (vx_ret (W.iret hx hb hr (fun t ht hW => ⟨rfl, px_qw hA hP hD hS t ht hW⟩) (by rw [← hA]; exact hS.2.2) hdg))
theorem px_eTz {ty : FieldType} (hn : narrow ty (.int x) = .int x) (h1 : cells ≤ mc) (h2 : slots ≤ ms) (hA : A = va_A ws s.heap.size) (hQ : Q = vx_MQ below (QT E ws s.heap.size 0 (some (.int x)) ws') (XT E ws s.heap.size 0 ws') args s mc ms (va_A ws s.heap.size)) (hP : va_P E.1 vwCl ws' H) (hD : va_D A ws') (hS : va_S A s.heap H locs) (hx : p.tables.exec = Jvm.exec) (hb : c.code = cc) (hr : meth.sig.returnType = some ty) (hlocks : meth.locks = false) (hdg : decode cc pc = .ok (.ireturn, 1)) : W p l e R s m args below meth c H locs cells slots Q (F0 m pc ls [.int x]) := by
  subst hQ
  exact W.widen h1 h2 (vx_ret (W.zret hx hb hr hn (fun t ht hW => ⟨rfl, px_qw hA hP hD hS t ht hW⟩) (by rw [← hA]; exact hS.2.2) hdg))
theorem px_eTf (h1 : cells ≤ mc) (h2 : slots ≤ ms) (hA : A = va_A ws s.heap.size) (hQ : Q = vx_MQ below (QT E ws s.heap.size 0 (some (.float z)) ws') (XT E ws s.heap.size 0 ws') args s mc ms (va_A ws s.heap.size)) (hP : va_P E.1 vwCl ws' H) (hD : va_D A ws') (hS : va_S A s.heap H locs) (hx : p.tables.exec = Jvm.exec) (hb : c.code = cc) (hr : meth.sig.returnType = some .float) (hlocks : meth.locks = false) (hdg : decode cc pc = .ok (.freturn, 1)) : W p l e R s m args below meth c H locs cells slots Q (F0 m pc ls [.float z]) := by
  subst hQ
  exact W.widen h1 h2 (vx_ret (W.fret hx hb hr (fun t ht hW => ⟨rfl, px_qw hA hP hD hS t ht hW⟩) (by rw [← hA]; exact hS.2.2) hdg))
theorem px_eTv (h1 : cells ≤ mc) (h2 : slots ≤ ms) (hA : A = va_A ws s.heap.size) (hQ : Q = vx_MQ below (QT E ws s.heap.size 0 none ws') (XT E ws s.heap.size 0 ws') args s mc ms (va_A ws s.heap.size)) (hP : va_P E.1 vwCl ws' H) (hD : va_D A ws') (hS : va_S A s.heap H locs) (hx : p.tables.exec = Jvm.exec) (hb : c.code = cc) (hr : meth.sig.returnType = none) (hlocks : meth.locks = false) (hdg : decode cc pc = .ok (.return_, 1)) : W p l e R s m args below meth c H locs cells slots Q (F0 m pc ls []) := by
  subst hQ
  exact W.widen h1 h2 (vx_ret (W.vret hx hb hr (fun t ht hW => ⟨rfl, px_qw hA hP hD hS t ht hW⟩) (by rw [← hA]; exact hS.2.2) hdg))
/-- a thrown exception of a callee goes on to the caller -/
theorem px_outT (hk : ¬ k = 0) (_ : exn k = exn k) (hc1 : H[q9]? = some ce) (hc2 : ce.vm = .none) (hc3 : s.vm.findClass (exn k) = some ce.cls) (hA : A = va_A ws s.heap.size) (hQ : Q = vx_MQ below (QT E ws s.heap.size k v ws') (XT E ws s.heap.size k ws') args s mc ms (va_A ws s.heap.size)) (hP : va_P E.1 vwCl ws' H) (hD : va_D A ws') (hS : va_S A s.heap H locs) (htb : ∀ x ∈ c.exceptionTable.toList, False) (hlocks : meth.locks = false) (h1 : cells ≤ mc) (h2 : slots ≤ ms) : vx_W p l e R s m args below meth c H locs cells slots Q (F0 m pc ls rest) q9 := by
  subst hQ
  subst hA
  exact vx_out (fun x hx => absurd hx (htb x)) hlocks hc1 hc2 hc3 (fun t ht _ => ⟨hk, rfl, ⟨by rw [ht]; exact hP, hD⟩, hS.F ht⟩) hS.2.2 h1 h2
theorem px_F {t : State} (hP : va_P E.1 vwCl ws' H) (hS : va_S A s.heap H locs) (h1 : H.size ≤ t.heap.size) (h2 : ∀ q : Nat, q < H.size → t.heap[q]? = H[q]?) : va_P E.1 vwCl ws' t.heap ∧ va_F A s t :=
  ⟨hP.kept (fun j q hq => h2 q.1 (hP j q hq).lt), Nat.le_trans hS.1 h1, fun q hq hn => (h2 q (Nat.lt_of_lt_of_le hq hS.1)).trans (hS.2.1 q hq hn)⟩
theorem px_good {ik : Nat} {L : List Cond} (h : L.all vx_ot = true) : ∀ w ∈ Cond.classLink own ik En :: Cond.initialized En :: L, vx_ot w = true := by
  intro w hw
  rcases List.mem_cons.mp hw with rfl | hw
  · rfl
  · rcases List.mem_cons.mp hw with rfl | hw
    · rfl
    · exact List.all_eq_true.mp h w hw
/-- throw new E("text") -/
theorem px_thrS {i ik is ic : Nat} {tx : String} (hx : p.tables.exec = Jvm.exec) (hb : c.code = cc) (hlt : l.stackTraces = false) (hown : s.vm.findClass own = some m.cls) (hk : (Cond.classLink own ik (exn k)).before args s = true) (hini : (Cond.initialized (exn k)).before args s = true) (hX : px_X X A s s.heap) (hi : strs[i]? = some (own, is, tx))
    (hat : ∀ w ∈ vx_atS own ic (exn k) ["java/lang/RuntimeException", "java/lang/Exception"], w.before args s = true) (hag : (vx_atS own ic (exn k) ["java/lang/RuntimeException", "java/lang/Exception"]).all vx_ot = true) (hfit : Bundle.fit (exn k) = true) (hA : A = va_A ws s.heap.size) (hQ : Q = vx_MQ below (QT E ws s.heap.size k v ws') (XT E ws s.heap.size k ws') args s mc ms (va_A ws s.heap.size)) (hP : va_P E.1 vwCl ws' H) (hD : va_D A ws') (hS : va_S A s.heap H locs) (hml : c.maxLocals = ls.size) (htb : ∀ x ∈ c.exceptionTable.toList, False) (hlocks : meth.locks = false)
    (d0 : decode cc pc = .ok (.new ik, 3)) (d3 : decode cc (pc + 3) = .ok (.dup, 1)) (d4 : decode cc (pc + 4) = .ok (.ldc is, 2)) (d6 : decode cc (pc + 6) = .ok (.invokespecial ic, 3)) (d9 : decode cc (pc + 9) = .ok (.athrow, 1))
    (r1 : 5 < R.frames) (r2 : (rest.map fun v => v.category).sum + 82 ≤ R.locals) (r3 : cells + 1 ≤ R.cells) (r4 : slots + 6 ≤ R.slots) (h1 : cells + 1 ≤ mc) (h2 : slots + 6 ≤ ms) (hk0 : ¬ k = 0) : W p l e R s m args below meth c H locs cells slots Q (F0 m pc ls rest) := by
  subst hQ
  subst hA
  exact vx_throwS hx hb hlt hown hfit (by decide +kernel) hk hini (hX.1 i _ hi) hat (px_good hag) hX.2.2.2.2.1 hX.2.2.2.2.2.1 hS hml.symm d0 d3 d4 d6 d9 (fun x hx => absurd hx (htb x)) r1 r2 r3 r4 hlocks
    (fun t _ g1 g2 => ⟨hk0, rfl, ⟨(px_F hP hS g1 g2).1, hD⟩, (px_F hP hS g1 g2).2⟩) hS.2.2 h1 h2
theorem px_thrSW {i ik is ic : Nat} {tx : String} (hx : p.tables.exec = Jvm.exec) (hb : c.code = cc) (hlt : l.stackTraces = false) (hown : s.vm.findClass own = some m.cls) (hk : (Cond.classLink own ik (exn k)).before args s = true) (hini : (Cond.initialized (exn k)).before args s = true) (hX : px_X X A s s.heap) (hi : strs[i]? = some (own, is, tx))
    (hat : ∀ w ∈ vx_atS own ic (exn k) ["java/lang/RuntimeException", "java/lang/Exception"], w.before args s = true) (hag : (vx_atS own ic (exn k) ["java/lang/RuntimeException", "java/lang/Exception"]).all vx_ot = true) (hfit : Bundle.fit (exn k) = true) (hA : A = va_A ws s.heap.size) (hQ : Q = vx_MQ below (QT E ws s.heap.size k v ws') (XT E ws s.heap.size k ws') args s mc ms (va_A ws s.heap.size)) (hP : va_P E.1 vwCl ws' H) (hD : va_D A ws') (hS : va_S A s.heap H locs) (hml : c.maxLocals = ls.size) (htb : ∀ x ∈ c.exceptionTable.toList, False) (hlocks : meth.locks = false)
    (d0 : decode cc pc = .ok (.new ik, 3)) (d3 : decode cc (pc + 3) = .ok (.dup, 1)) (d4 : decode cc (pc + 4) = .ok (.ldc_w is, 3)) (d7 : decode cc (pc + 7) = .ok (.invokespecial ic, 3)) (d10 : decode cc (pc + 10) = .ok (.athrow, 1))
    (r1 : 5 < R.frames) (r2 : (rest.map fun v => v.category).sum + 82 ≤ R.locals) (r3 : cells + 1 ≤ R.cells) (r4 : slots + 6 ≤ R.slots) (h1 : cells + 1 ≤ mc) (h2 : slots + 6 ≤ ms) (hk0 : ¬ k = 0) : W p l e R s m args below meth c H locs cells slots Q (F0 m pc ls rest) := by
  subst hQ
  subst hA
  exact vx_throwSW hx hb hlt hown hfit (by decide +kernel) hk hini (hX.1 i _ hi) hat (px_good hag) hX.2.2.2.2.1 hX.2.2.2.2.2.1 hS hml.symm d0 d3 d4 d7 d10 (fun x hx => absurd hx (htb x)) r1 r2 r3 r4 hlocks
    (fun t _ g1 g2 => ⟨hk0, rfl, ⟨(px_F hP hS g1 g2).1, hD⟩, (px_F hP hS g1 g2).2⟩) hS.2.2 h1 h2
theorem px_thr4S {i ik is ic : Nat} {tx : String} (hx : p.tables.exec = Jvm.exec) (hb : c.code = cc) (hlt : l.stackTraces = false) (hown : s.vm.findClass own = some m.cls) (hk : (Cond.classLink own ik nsN).before args s = true) (hini : (Cond.initialized nsN).before args s = true) (hX : px_X X A s s.heap) (hi : strs[i]? = some (own, is, tx))
    (hat : ∀ w ∈ (nsAt own ic).filter vx_no, w.before args s = true) (hag : ((nsAt own ic).filter vx_no).all vx_ot = true) (hfit : Bundle.fit nsN = true) (hA : A = va_A ws s.heap.size) (hQ : Q = vx_MQ below (QT E ws s.heap.size 4 v ws') (XT E ws s.heap.size 4 ws') args s mc ms (va_A ws s.heap.size)) (hP : va_P E.1 vwCl ws' H) (hD : va_D A ws') (hS : va_S A s.heap H locs) (hml : c.maxLocals = ls.size) (htb : ∀ x ∈ c.exceptionTable.toList, False) (hlocks : meth.locks = false)
    (d0 : decode cc pc = .ok (.new ik, 3)) (d3 : decode cc (pc + 3) = .ok (.dup, 1)) (d4 : decode cc (pc + 4) = .ok (.ldc is, 2)) (d6 : decode cc (pc + 6) = .ok (.invokespecial ic, 3)) (d9 : decode cc (pc + 9) = .ok (.athrow, 1))
    (r1 : 5 < R.frames) (r2 : (rest.map fun v => v.category).sum + 82 ≤ R.locals) (r3 : cells + 1 ≤ R.cells) (r4 : slots + 6 ≤ R.slots) (h1 : cells + 1 ≤ mc) (h2 : slots + 6 ≤ ms) (hk0 : ¬ (4 : Nat) = 0) : W p l e R s m args below meth c H locs cells slots Q (F0 m pc ls rest) := by
  subst hQ
  subst hA
  exact ns_throwS hx hb hlt hown hk hini (hX.1 i _ hi) hat (px_good hag) hX.2.2.2.2.1 hX.2.2.2.2.2.1 hS hml.symm d0 d3 d4 d6 d9 (fun x hx => absurd hx (htb x)) r1 r2 r3 r4 hlocks
    (fun t _ g1 g2 => ⟨hk0, rfl, ⟨(px_F hP hS g1 g2).1, hD⟩, (px_F hP hS g1 g2).2⟩) hS.2.2 h1 h2
theorem px_thr4SW {i ik is ic : Nat} {tx : String} (hx : p.tables.exec = Jvm.exec) (hb : c.code = cc) (hlt : l.stackTraces = false) (hown : s.vm.findClass own = some m.cls) (hk : (Cond.classLink own ik nsN).before args s = true) (hini : (Cond.initialized nsN).before args s = true) (hX : px_X X A s s.heap) (hi : strs[i]? = some (own, is, tx))
    (hat : ∀ w ∈ (nsAt own ic).filter vx_no, w.before args s = true) (hag : ((nsAt own ic).filter vx_no).all vx_ot = true) (hfit : Bundle.fit nsN = true) (hA : A = va_A ws s.heap.size) (hQ : Q = vx_MQ below (QT E ws s.heap.size 4 v ws') (XT E ws s.heap.size 4 ws') args s mc ms (va_A ws s.heap.size)) (hP : va_P E.1 vwCl ws' H) (hD : va_D A ws') (hS : va_S A s.heap H locs) (hml : c.maxLocals = ls.size) (htb : ∀ x ∈ c.exceptionTable.toList, False) (hlocks : meth.locks = false)
    (d0 : decode cc pc = .ok (.new ik, 3)) (d3 : decode cc (pc + 3) = .ok (.dup, 1)) (d4 : decode cc (pc + 4) = .ok (.ldc_w is, 3)) (d7 : decode cc (pc + 7) = .ok (.invokespecial ic, 3)) (d10 : decode cc (pc + 10) = .ok (.athrow, 1))
    (r1 : 5 < R.frames) (r2 : (rest.map fun v => v.category).sum + 82 ≤ R.locals) (r3 : cells + 1 ≤ R.cells) (r4 : slots + 6 ≤ R.slots) (h1 : cells + 1 ≤ mc) (h2 : slots + 6 ≤ ms) (hk0 : ¬ (4 : Nat) = 0) : W p l e R s m args below meth c H locs cells slots Q (F0 m pc ls rest) := by
  subst hQ
  subst hA
  exact ns_throwSW hx hb hlt hown hk hini (hX.1 i _ hi) hat (px_good hag) hX.2.2.2.2.1 hX.2.2.2.2.2.1 hS hml.symm d0 d3 d4 d7 d10 (fun x hx => absurd hx (htb x)) r1 r2 r3 r4 hlocks
    (fun t _ g1 g2 => ⟨hk0, rfl, ⟨(px_F hP hS g1 g2).1, hD⟩, (px_F hP hS g1 g2).2⟩) hS.2.2 h1 h2
/-- a call of a method that may throw -/
theorem px_goT {w1 : va_W} (hr : vx_Run p l e R s m args below meth c H locs cells slots mc ms (F0 m pc ls st0) rest (QT E gc.flatten H.size k v g1.flatten a) (XT E gc.flatten H.size k g1.flatten) (va_A gc.flatten H.size))
    (hP : va_P E.1 vwCl gs.flatten H) (hD : va_D A0 gs.flatten) (hS : va_S A0 s.heap H locs) (hA : ∀ q, s.heap.size ≤ q → A0 q)
    (iR iC iF : List Nat) (hR : iR.map (fun i => gs[i]?) = gr.map some) (hC : iC.map (fun i => gs[i]?) = gc.map some) (hn : va_nd (iR ++ iC) = true) (hF : iF.map (fun i => (gr ++ g1)[i]?) = g2.map some) (hnF : va_nd iF = true)
    (kx : ¬ k = 0 → ∀ (q9 : Addr) (ce : Cell) (H1 : Heap) (locs1 : List Loc), va_P E.1 vwCl g2.flatten H1 → va_D A0 g2.flatten → va_S A0 s.heap H1 locs1 → H1[q9]? = some ce → ce.vm = .none → s.vm.findClass (exn k) = some ce.cls → vx_W p l e R s m args below meth c H1 locs1 (cells + mc) (slots + ms) Q (F0 m pc ls rest) q9)
    (kk : k = 0 → ∀ (H1 : Heap) (locs1 : List Loc), va_P E.1 vwCl g2.flatten H1 → va_D A0 g2.flatten → va_S A0 s.heap H1 locs1 → W p l e R s m args below meth c H1 locs1 (cells + mc) (slots + ms) Q (F0 m (pc + 3) ls (v.toList ++ rest))) : W p l e R s m args below meth c H locs cells slots Q (F0 m pc ls st0) := by
  intro T hT X
  have hf := g_free hD hS hA iC hC
  rcases hr T hT X with ⟨v', st₀, t, T', L, h0, X', hL, e1, e2, ⟨hk, ⟨hv, hP1, hD1⟩, hz, hkq⟩, st⟩ | ⟨q, st₀, t, T', L, En, ce, h0, X', hL, e1, e2, ⟨hk, hEn, ⟨hP1, hD1⟩, hz, hkq⟩, hce, hcv, hcl, st⟩
  · cases hv
    rw [h0] at hz hkq
    obtain ⟨hP2, hD2⟩ := g_join (H1 := t.heap) hP hD iR iC hR hC hn hkq hf hP1 hD1
    obtain ⟨t2, a1, b1⟩ := kk hk T'.heap (locs ++ L) (by rw [e1]; exact g_P hP2 iF hF) (g_D hD2 iF hnF hF)
      ⟨Nat.le_trans hS.1 (by rw [e1]; exact hz), fun q h1 h2 => by rw [e1, hkq q (Nat.lt_of_lt_of_le h1 hS.1) (fun z => h2 (hf q z))]; exact hS.2.1 q h1 h2, fun q hq => by
        rcases List.mem_append.mp hq with h | h
        · exact hS.2.2 q h
        · exact hf _ (hL q h)⟩ T' rfl X'
    exact ⟨t2, st t2 a1, b1⟩
  · subst hEn
    rw [h0] at hz hkq
    obtain ⟨hP2, hD2⟩ := g_join (H1 := t.heap) hP hD iR iC hR hC hn hkq hf hP1 hD1
    obtain ⟨t2, a1, b1⟩ := kx hk q ce T'.heap (locs ++ L) (by rw [e1]; exact g_P hP2 iF hF) (g_D hD2 iF hnF hF)
      ⟨Nat.le_trans hS.1 (by rw [e1]; exact hz), fun q h1 h2 => by rw [e1, hkq q (Nat.lt_of_lt_of_le h1 hS.1) (fun z => h2 (hf q z))]; exact hS.2.1 q h1 h2, fun q hq => by
        rcases List.mem_append.mp hq with h | h
        · exact hS.2.2 q h
        · exact hf _ (hL q h)⟩ (by rw [e1]; exact hce) hcv hcl T' rfl X'
    exact ⟨t2, st.trans a1, b1⟩
theorem px_VT (S : CallFix p m c cc nL s args lw_all own) (hM : MT l y bytes maxL ret rm E X (.ref b :: As) gc.flatten mc ms k v g1.flatten) (cw : CallW R s args own C index y bytes maxL ret (ws_ y bytes maxL ret) rm mc ms n)
    (hK : va_K E.1 vwCl (tyE E) s) (hN : px_N s) (hX : px_X X A0 s s.heap) (hP : va_P E.1 vwCl gs.flatten H) (hD : va_D A0 gs.flatten) (hS : va_S A0 s.heap H locs) (hA : ∀ q, s.heap.size ≤ q → A0 q)
    (iR iC iF : List Nat) (hR : iR.map (fun i => gs[i]?) = gr.map some) (hC : iC.map (fun i => gs[i]?) = gc.map some) (hn : va_nd (iR ++ iC) = true) (hnC : va_nd iC = true) (hF : iF.map (fun i => (gr ++ g1)[i]?) = g2.map some) (hnF : va_nd iF = true)
    (k0 ci : Nat) {q : vw_C} {fs : List Value} (hc : vwCl[ci]? = some q) (he : gc.flatten[k0]? = some (b, .inr (ci, fs))) (hq : q.1 = C)
    (hlen : As.length = n) (hls : ls.size = nL) (hst : st0 = As.reverse ++ .ref b :: rest) (hroom : (rest.map fun v => v.category).sum ≤ 8) (hdg : decode cc pc = .ok (.invokevirtual index, 3)) (hf : cells + mc ≤ R.cells ∧ slots + ms ≤ R.slots)
    (kx : ¬ k = 0 → ∀ (q9 : Addr) (ce : Cell) (H1 : Heap) (locs1 : List Loc), va_P E.1 vwCl g2.flatten H1 → va_D A0 g2.flatten → va_S A0 s.heap H1 locs1 → H1[q9]? = some ce → ce.vm = .none → s.vm.findClass (exn k) = some ce.cls → vx_W p l e R s m args below meth c H1 locs1 (cells + mc) (slots + ms) Q (F0 m pc ls rest) q9)
    (kk : k = 0 → ∀ (H1 : Heap) (locs1 : List Loc), va_P E.1 vwCl g2.flatten H1 → va_D A0 g2.flatten → va_S A0 s.heap H1 locs1 → W p l e R s m args below meth c H1 locs1 (cells + mc) (slots + ms) Q (F0 m (pc + 3) ls (v.toList ++ rest))) : W p l e R s m args below meth c H locs cells slots Q (F0 m pc ls st0) :=
  px_goT (w1 := []) (vx_runV S (hM H.size) cw ⟨PWX_blind, px_recv hK hP iC hC k0 ci hc he hq, px_preX hK hN hX hP hD hS hA iC hC hnC⟩ rfl hlen hls hst (lv_room (pc := pc) (ls := ls) (m := m) (rest := []) hroom) hdg hf) hP hD hS hA iR iC iF hR hC hn hF hnF kx kk
end PXT

