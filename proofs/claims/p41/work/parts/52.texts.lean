/-! texts that the law makes: a builder, a String -/
def gBo (L : LX) (q v : Nat) (n : Int32) : va_W := [(q, .inr (10, [.ref v, .int 0, .int 0, .int n]))]
def gY (L : LX) (v n : Nat) (f : AI) : va_W := [(v, .inl (L.2.2.2, n, .inl f))]
def gB (L : LX) (q v : Nat) (f : AI) (n : Int32) : va_W := [(q, .inr (10, [.ref v, .int 0, .int 0, .int n])), (v, .inl (L.2.2.2, 16, .inl f))]
def gS (L : LX) (q v n : Nat) (f : AI) : va_W := [(q, .inr (9, [.ref v, .int 0, .int 0, .int 0])), (v, .inl (L.2.2.2, n, .inl f))]
theorem sel_priv {C : String} {y y0 : MethodName} {s : State} {args : Array Value} {n : Nat} (hy : y.cls ≠ "java/lang/invoke/MethodHandle" ∧ y.cls ≠ "java/lang/invoke/VarHandle") (hcl : y0.cls = y.cls)
    (hins : (Cond.instantiable C n).before args s = true) (hs0 : (Cond.selects C y0 y0).before args s = true) (hpriv : (Cond.privateMethod y).before args s = true) (hinst : (Cond.instanceMethod y).before args s = true) :
    (Cond.selects C y y).before args s = true := by
  obtain ⟨c, k, hc, hk, -, -, -, -⟩ := Cond.instantiable_spec hins
  obtain ⟨c2, r2, m2, -, -, q3, -, kP, hkP, hkPi⟩ := Cond.selects_spec hs0
  obtain ⟨mk, methM, hnamed, hmethM, -, -⟩ := Cond.instanceMethod_spec hinst
  have hfound : s.methodFound? y.cls y.name y.desc = some mk := State.methodFound?_of_named hnamed hy
  have hcls : mk.cls = m2.cls := by
    have e1 := findClass_of_methodNamed hnamed
    have e2 := findClass_of_methodNamed q3
    rw [hcl] at e2
    exact Option.some.inj (e1.symm.trans e2)
  have hsel : selectMethod {} s.vm c mk = .method mk := selectMethod_private hmethM (Cond.privateMethod_at hpriv mk methM hnamed hmethM)
  simp only [Cond.before, Cond.holds, Cond.value, hc, hfound, hnamed, hsel, hcls, hkP]
  simp; exact hkPi
theorem px_atB {E : PE} {s : State} (hK : va_K E.1 vwCl (tyE E) s) : ClassAt s RJ4 (E.1.1 10) := (hK.1 10 _ rfl).2
theorem ws_su {own : String} {idx : Nat} {y : MethodName} {c : ByteArray} {n : Nat} {r : Option FieldType} (ha : Cond.methodLink own idx y ∈ lw_all) (hb : Cond.sameMethod y.cls y.cls y.name y.desc ∈ lw_all) (hc : Cond.superclass own y.cls ∈ lw_all) (hd : Cond.instanceMethod y ∈ lw_all) (he : Cond.initialized y.cls ∈ lw_all) (h : Cond.code y c n r ∈ lw_all) : GoodIn lw_all (va_wsSU own idx y (ws_ y c n r)) := by
  intro w hw
  rcases List.mem_append.mp hw with h1 | h1
  · simp only [List.mem_cons, List.not_mem_nil, or_false] at h1
    rcases h1 with rfl | rfl | rfl | rfl | rfl <;> exact lw_ag _ (by assumption)
  · exact ws_g h w h1
section PXJ
variable {p : Program} {l : Launch} {e : Env} {R : Room} {s : State} {m : MethodId} {args : Array Value} {below : List Frame} {meth : Method} {c : Code} {H : Heap} {locs : List Loc} {cells slots : Nat} {Q : State → Prop}
variable {y : MethodName} {bytes cc : ByteArray} {maxL nL mc ms n index pc : Nat} {ret : Option FieldType} {rm : Room} {own C : String} {b : Addr} {As rest st0 : List Value} {E : PE} {X : PX} {L : LX} {A0 : Nat → Prop} {gs gr gc g1 g2 : List va_W} {v : Option Value} {ls : Array Slot} {cC : ClassId}
theorem cw_V (n : Nat) (ht : ∀ w ∈ lw_all, w.before args s = true) (hl : Cond.methodLink own index y ∈ lw_all) (hi : Cond.instanceMethod y ∈ lw_all) (hs : Cond.selects C y y ∈ lw_all) (hini : Cond.initialized y.cls ∈ lw_all) (hc : Cond.code y bytes maxL ret ∈ lw_all) (hd : (y.cls ≠ "java/lang/invoke/MethodHandle" ∧ y.cls ≠ "java/lang/invoke/VarHandle") ∧ (parseMethodDescriptor y.desc).map (fun d => d.parameters.length) = some n) (hR : rm.frames + 1 ≤ R.frames ∧ 8 + (maxL + 11) + rm.locals ≤ R.locals) : CallW R s args own C index y bytes maxL ret (ws_ y bytes maxL ret) rm rm.cells rm.slots n :=
  ⟨callB_of n ht (ws_g hc) rfl rfl rfl (ht _ hini) (ht _ hl) ⟨hd.1.1, hd.1.2, hd.2⟩ hR, ht _ hi, ht _ hs⟩
theorem cw_P (n : Nat) (ht : ∀ w ∈ lw_all, w.before args s = true) (hl : Cond.methodLink own index y ∈ lw_all) (hi : Cond.instanceMethod y ∈ lw_all) (hs : (Cond.selects C y y).before args s = true) (hini : Cond.initialized y.cls ∈ lw_all) (hc : Cond.code y bytes maxL ret ∈ lw_all) (hd : (y.cls ≠ "java/lang/invoke/MethodHandle" ∧ y.cls ≠ "java/lang/invoke/VarHandle") ∧ (parseMethodDescriptor y.desc).map (fun d => d.parameters.length) = some n) (hR : rm.frames + 1 ≤ R.frames ∧ 8 + (maxL + 11) + rm.locals ≤ R.locals) : CallW R s args own C index y bytes maxL ret (ws_ y bytes maxL ret) rm rm.cells rm.slots n :=
  ⟨callB_of n ht (ws_g hc) rfl rfl rfl (ht _ hini) (ht _ hl) ⟨hd.1.1, hd.1.2, hd.2⟩ hR, ht _ hi, hs⟩
theorem px_VZ (S : CallFix p m c cc nL s args lw_all own) (hM : MZ l y bytes maxL ret rm E X L (.ref b :: As) gc.flatten mc ms v g1.flatten) (cw : CallW R s args own C index y bytes maxL ret (ws_ y bytes maxL ret) rm mc ms n)
    (hrec : ∃ cellB : Cell, H[b]? = some cellB ∧ cellB.vm.isStatics = false ∧ s.vm.findClass C = some cellB.cls) (hK : va_K E.1 vwCl (tyE E) s) (hN : px_N s) (hX : px_X X A0 s s.heap) (hLL : px_L E L A0 s s.heap) (hP : va_P E.1 vwCl gs.flatten H) (hD : va_D A0 gs.flatten) (hS : va_S A0 s.heap H locs) (hA : ∀ q, s.heap.size ≤ q → A0 q)
    (iR iC iF : List Nat) (hR : iR.map (fun i => gs[i]?) = gr.map some) (hC : iC.map (fun i => gs[i]?) = gc.map some) (hn : va_nd (iR ++ iC) = true) (hnC : va_nd iC = true) (hF : iF.map (fun i => (gr ++ g1)[i]?) = g2.map some) (hnF : va_nd iF = true)
    (hlen : As.length = n) (hls : ls.size = nL) (hst : st0 = As.reverse ++ .ref b :: rest) (hroom : (rest.map fun v => v.category).sum ≤ 8) (hdg : decode cc pc = .ok (.invokevirtual index, 3)) (hf : cells + mc ≤ R.cells ∧ slots + ms ≤ R.slots)
    (kk : ∀ (H1 : Heap) (locs1 : List Loc), va_P E.1 vwCl g2.flatten H1 → va_D A0 g2.flatten → va_S A0 s.heap H1 locs1 → W p l e R s m args below meth c H1 locs1 (cells + mc) (slots + ms) Q (F0 m (pc + 3) ls (v.toList ++ rest))) : W p l e R s m args below meth c H locs cells slots Q (F0 m pc ls st0) :=
  px_go (va_runV S (hM H.size) cw ⟨PWL_blind, hrec, px_preL hK hN hX hLL hP hD hS hA iC hC hnC⟩ rfl hlen hls hst (lv_room (pc := pc) (ls := ls) (m := m) (rest := []) hroom) hdg hf) hP hD hS hA iR iC iF hR hC hn hF hnF kk
theorem px_SUZ (S : CallFix p m c cc nL s args lw_all own) (hM : MZ l y bytes maxL ret rm E X L (.ref b :: As) gc.flatten mc ms v g1.flatten) (cw : va_CS R s args own index y bytes maxL ret (ws_ y bytes maxL ret) rm mc ms n) (hat : ClassAt s C cC)
    (hrec : ∃ cellB : Cell, H[b]? = some cellB ∧ cellB.vm.isStatics = false ∧ s.vm.findClass C = some cellB.cls) (hK : va_K E.1 vwCl (tyE E) s) (hN : px_N s) (hX : px_X X A0 s s.heap) (hLL : px_L E L A0 s s.heap) (hP : va_P E.1 vwCl gs.flatten H) (hD : va_D A0 gs.flatten) (hS : va_S A0 s.heap H locs) (hA : ∀ q, s.heap.size ≤ q → A0 q)
    (iR iC iF : List Nat) (hR : iR.map (fun i => gs[i]?) = gr.map some) (hC : iC.map (fun i => gs[i]?) = gc.map some) (hn : va_nd (iR ++ iC) = true) (hnC : va_nd iC = true) (hF : iF.map (fun i => (gr ++ g1)[i]?) = g2.map some) (hnF : va_nd iF = true)
    (hlen : As.length = n) (hls : ls.size = nL) (hst : st0 = As.reverse ++ .ref b :: rest) (hroom : (rest.map fun v => v.category).sum ≤ 8) (hdg : decode cc pc = .ok (.invokespecial index, 3)) (hf : cells + mc ≤ R.cells ∧ slots + ms ≤ R.slots)
    (kk : ∀ (H1 : Heap) (locs1 : List Loc), va_P E.1 vwCl g2.flatten H1 → va_D A0 g2.flatten → va_S A0 s.heap H1 locs1 → W p l e R s m args below meth c H1 locs1 (cells + mc) (slots + ms) Q (F0 m (pc + 3) ls (v.toList ++ rest))) : W p l e R s m args below meth c H locs cells slots Q (F0 m pc ls st0) :=
  px_go (va_runSU hat S (hM H.size) cw ⟨PWL_blind, hrec, px_preL hK hN hX hLL hP hD hS hA iC hC hnC⟩ rfl hlen hls hst (lv_room (pc := pc) (ls := ls) (m := m) (rest := []) hroom) hdg hf) hP hD hS hA iR iC iF hR hC hn hF hnF kk
theorem px_eWa {A : Nat → Prop} {ws ws' : va_W} {rt : FieldType} {r : Nat} (hrt : (∃ n, rt = .object n) ∨ ∃ t, rt = .array t) (hA : A = va_A ws s.heap.size) (hQ : Q = MQ below (QW E ws s.heap.size (some (.ref r)) ws') args s cells slots (va_A ws s.heap.size)) (hP : va_P E.1 vwCl ws' H) (hD : va_D A ws') (hS : va_S A s.heap H locs) (hx : p.tables.exec = Jvm.exec) (hb : c.code = cc) (hr : meth.sig.returnType = some rt) (hlocks : meth.locks = false) (hdg : decode cc pc = .ok (.areturn, 1)) : W p l e R s m args below meth c H locs cells slots Q (F0 m pc ls [.ref r]) := by
  subst hQ; exact W.aret hx hb hr hrt (Or.inr ⟨_, rfl⟩) (px_qw hA hP hD hS) (by rw [← hA]; exact hS.2.2) hdg
end PXJ
/-! numbers of digits -/
def dgs (x : Nat) : Nat := if x < 10 then 1 else 2
def gfi (i k : Nat) : Nat := if k < 10 then i - 1 else i - 2
def gff (L : LX) (f : AI) (i k : Nat) : AI := if k < 10 then upd f (i - 1) (vp_nar .byte (L.2.1.2 k)) else upd (upd f (i - 1) (vp_nar .byte (L.2.1.2 k))) (i - 2) (vp_nar .byte (L.2.2.1.2 k))
theorem dgs_1 (k : Nat) {x : Nat} : 1 ≤ k + dgs x := by unfold dgs; split <;> omega
theorem dgs_2 (k : Nat) {x : Nat} (h : ¬ x < 10) : 2 ≤ k + dgs x := by unfold dgs; rw [if_neg h]; omega
theorem sb_room {a b : Nat} (h : a + b ≤ 16) : nI (a + b) - nI 16 ≤ 0 := by
  rw [Int32.le_iff_toInt_le, Int32.toInt_sub, nI_toInt (by omega), nI_toInt (by omega), Int.bmod_eq_of_le (by omega) (by omega)]
  show _ ≤ (0 : Int)
  omega
theorem nJ_m1' {a : Nat} (h : 1 ≤ a) (ha : a < 2 ^ 31) : nI a + (-1) = nI (a - 1) := by
  apply Int32.toInt_inj.mp
  rw [Int32.toInt_add, nI_toInt ha, nI_toInt (by omega), Int.bmod_eq_of_le] <;> (have : ((-1 : Int32)).toInt = -1 := rfl) <;> omega
theorem gc_t : ∀ k : Fin 100, (-100 : Int32) < -nI k.1 ∧ (k.1 < 10 → (-9 : Int32) ≤ -nI k.1) ∧ (¬ k.1 < 10 → ¬ (-9 : Int32) ≤ -nI k.1) := by decide +kernel
theorem gc_lt {k : Nat} (h : k < 100) : (-100 : Int32) < -nI k := (gc_t ⟨k, h⟩).1
theorem gc_ge {k : Nat} (h : k < 10) : (-9 : Int32) ≤ -nI k := (gc_t ⟨k, by omega⟩).2.1 h
theorem gc_nge {k : Nat} (h : ¬ k < 10) (h2 : k < 100) : ¬ (-9 : Int32) ≤ -nI k := (gc_t ⟨k, h2⟩).2.2 h
theorem sbFit_nar (x : Int32) : fits .byte (.int (vp_nar .byte x)) = true := by rw [vp_nar_byte]; exact pk_fb x
theorem gff_fit {L : LX} {f : AI} {i k : Nat} (h : sb_Fit f) : sb_Fit (gff L f i k) := by
  unfold gff
  split
  · exact sb_fitU h (sbFit_nar _)
  · exact sb_fitU (sb_fitU h (sbFit_nar _)) (sbFit_nar _)
/-! what makes new cells: the address of the new row comes with the world -/
def QE (E : PE) (ws : va_W) (sz : Nat) (rv : Nat → Option Value) (P : Nat → Nat → List va_W) : Array Value → State → Outcome → State → Prop := fun _ st o t => (∃ r v, o = .returned (rv r) ∧ va_P E.1 vwCl (P r v).flatten t.heap ∧ va_D (va_A ws sz) (P r v).flatten) ∧ va_F (va_A ws sz) st t
def MEZ (l : Launch) (y : MethodName) (c : ByteArray) (n : Nat) (ret : Option FieldType) (rm : Room) (E : PE) (X : PX) (L : LX) (av : List Value) (ws : va_W) (mc ms : Nat) (rv : Nat → Option Value) (P : Nat → Nat → List va_W) : Prop := ∀ sz, Met l y (ws_ y c n ret) rm (PWL E X L av ws sz) (QE E ws sz rv P) mc ms (va_A ws sz)
theorem px_startE {l : Launch} {y : MethodName} {c : ByteArray} {n mc ms : Nat} {ret : Option FieldType} {rm : Room} {E : PE} {X : PX} {L : LX} {av : List Value} {ws : va_W} {rv : Nat → Option Value} {P : Nat → Nat → List va_W} (hy : plainName y.cls = true) (hlen : (lg_sl av).length ≤ n)
    (body : ∀ (p : Program) (e : Env) (s : State) (m : MethodId) (args : Array Value) (below : List Frame) (meth : Method) (cd : Code) (R : Room) (Q : State → Prop) (A : Nat → Prop) (ls : Array Slot), px_C p s m args meth cd y c n ret E R rm A ws ls av → px_X X A s s.heap → px_L E L A s s.heap → A = va_A ws s.heap.size → Q = MQ below (QE E ws s.heap.size rv P) args s mc ms (va_A ws s.heap.size) → W p l e R s m args below meth cd s.heap [] 0 0 Q (F0 m 0 ls [])) : MEZ l y c n ret rm E X L av ws mc ms rv P := by
  intro sz
  refine Met.ofW (cc := c) (maxL := n) (ret := ret) hy rfl ?_
  intro p e s m args below meth cd s₁ B hml hv
  obtain ⟨⟨⟨rfl, hsz, hP, hK, hN, hD0⟩, hX⟩, hL⟩ := hv
  subst hsz
  have hl := lv_entry av hlen
  rw [lg_entry_eq]
  generalize (lg_sl av ++ List.replicate (n - (lg_sl av).length) Slot.unset).toArray = ls at hl ⊢
  exact body p e s m av.toArray below meth cd _ _ (va_A ws s.heap.size) ls ⟨B.exec, B.bytes, B.returns, hml, ws_hts (atoms_spec (ws := ws_ y c n ret) B.pre), findClass_of_methodNamed B.named, B.notSynchronized, rfl, hK, hN, hP, hD0.self, fun q h => Or.inr h, hl, (name_of_methodNamed B.named B.method).1⟩ hX hL rfl rfl
section PXJE
variable {p : Program} {l : Launch} {e : Env} {R : Room} {s : State} {m : MethodId} {args : Array Value} {below : List Frame} {meth : Method} {c : Code} {H : Heap} {locs : List Loc} {cells slots : Nat} {Q : State → Prop}
variable {y x : MethodName} {bytes cc : ByteArray} {maxL nL mc ms n index pc : Nat} {ret : Option FieldType} {rm : Room} {own C owner : String} {b : Addr} {As rest st0 : List Value} {E : PE} {X : PX} {L : LX} {A0 : Nat → Prop} {gs gr gc g1 g2 : List va_W} {v : Option Value} {ls : Array Slot} {rv : Nat → Option Value} {P : Nat → Nat → List va_W} {a : Array Value}
theorem px_goE (hr : va_Run p l e R s m args below meth c H locs cells slots mc ms (F0 m pc ls st0) rest (QE E gc.flatten H.size rv P a) (va_A gc.flatten H.size))
    (hP : va_P E.1 vwCl gs.flatten H) (hD : va_D A0 gs.flatten) (hS : va_S A0 s.heap H locs) (hA : ∀ q, s.heap.size ≤ q → A0 q)
    (iR iC : List Nat) (hR : iR.map (fun i => gs[i]?) = gr.map some) (hC : iC.map (fun i => gs[i]?) = gc.map some) (hn : va_nd (iR ++ iC) = true)
    (kk : ∀ (r v : Nat) (H1 : Heap) (locs1 : List Loc), va_P E.1 vwCl (gr ++ P r v).flatten H1 → va_D A0 (gr ++ P r v).flatten → va_S A0 s.heap H1 locs1 → W p l e R s m args below meth c H1 locs1 (cells + mc) (slots + ms) Q (F0 m (pc + 3) ls ((rv r).toList ++ rest))) : W p l e R s m args below meth c H locs cells slots Q (F0 m pc ls st0) := by
  intro T hT X
  obtain ⟨v', st₀, t, T', L, h0, X', hL, e1, e2, ⟨⟨r, v, hv, hP1, hD1⟩, hz, hk⟩, st⟩ := hr T hT X
  cases hv
  rw [h0] at hz hk
  have hf := g_free hD hS hA iC hC
  obtain ⟨hP2, hD2⟩ := g_join (H1 := t.heap) hP hD iR iC hR hC hn hk hf hP1 hD1
  obtain ⟨t2, a1, b1⟩ := kk r v T'.heap (locs ++ L) (by rw [e1]; exact hP2) hD2
    ⟨Nat.le_trans hS.1 (by rw [e1]; exact hz), fun q h1 h2 => by rw [e1, hk q (Nat.lt_of_lt_of_le h1 hS.1) (fun z => h2 (hf q z))]; exact hS.2.1 q h1 h2, fun q hq => by
      rcases List.mem_append.mp hq with h | h
      · exact hS.2.2 q h
      · exact hf _ (hL q h)⟩ T' rfl X'
  exact ⟨t2, st t2 a1, b1⟩
theorem px_IEZ (S : CallFix p m c cc nL s args lw_all own) (hM : MEZ l y bytes maxL none rm E X L (.ref b :: As) gc.flatten mc ms rv P) (cw : CallB R s args own index y bytes maxL none (ws_ y bytes maxL none) rm mc ms n ∧ y.name = "<init>" ∧ (Cond.instanceMethod y).before args s = true)
    (hK : va_K E.1 vwCl (tyE E) s) (hN : px_N s) (hX : px_X X A0 s s.heap) (hLL : px_L E L A0 s s.heap) (hP : va_P E.1 vwCl gs.flatten H) (hD : va_D A0 gs.flatten) (hS : va_S A0 s.heap H locs) (hA : ∀ q, s.heap.size ≤ q → A0 q)
    (iR iC : List Nat) (hR : iR.map (fun i => gs[i]?) = gr.map some) (hC : iC.map (fun i => gs[i]?) = gc.map some) (hn : va_nd (iR ++ iC) = true) (hnC : va_nd iC = true)
    (hlen : As.length = n) (hls : ls.size = nL) (hst : st0 = As.reverse ++ .ref b :: rest) (hroom : (rest.map fun v => v.category).sum ≤ 8) (hdg : decode cc pc = .ok (.invokespecial index, 3)) (hf : cells + mc ≤ R.cells ∧ slots + ms ≤ R.slots)
    (kk : ∀ (r v : Nat) (H1 : Heap) (locs1 : List Loc), va_P E.1 vwCl (gr ++ P r v).flatten H1 → va_D A0 (gr ++ P r v).flatten → va_S A0 s.heap H1 locs1 → W p l e R s m args below meth c H1 locs1 (cells + mc) (slots + ms) Q (F0 m (pc + 3) ls ((rv r).toList ++ rest))) : W p l e R s m args below meth c H locs cells slots Q (F0 m pc ls st0) :=
  px_goE (va_runI S (hM H.size) cw ⟨fun a U g mk q => PWL_blind a U g mk q, px_preL hK hN hX hLL hP hD hS hA iC hC hnC⟩ rfl hlen hls hst (lv_room (pc := pc) (ls := ls) (m := m) (rest := []) hroom) hdg hf) hP hD hS hA iR iC hR hC hn kk
theorem px_SEZ (S : CallFix p m c cc nL s args lw_all own) (hM : MEZ l y bytes maxL ret rm E X L As gc.flatten mc ms rv P) (cw : CallB R s args own index y bytes maxL ret (ws_ y bytes maxL ret) rm mc ms n ∧ (Cond.static y).before args s = true)
    (hK : va_K E.1 vwCl (tyE E) s) (hN : px_N s) (hX : px_X X A0 s s.heap) (hLL : px_L E L A0 s s.heap) (hP : va_P E.1 vwCl gs.flatten H) (hD : va_D A0 gs.flatten) (hS : va_S A0 s.heap H locs) (hA : ∀ q, s.heap.size ≤ q → A0 q)
    (iR iC : List Nat) (hR : iR.map (fun i => gs[i]?) = gr.map some) (hC : iC.map (fun i => gs[i]?) = gc.map some) (hn : va_nd (iR ++ iC) = true) (hnC : va_nd iC = true)
    (hlen : As.length = n) (hls : ls.size = nL) (hst : st0 = As.reverse ++ rest) (hroom : (rest.map fun v => v.category).sum ≤ 8) (hdg : decode cc pc = .ok (.invokestatic index, 3)) (hf : cells + mc ≤ R.cells ∧ slots + ms ≤ R.slots)
    (kk : ∀ (r v : Nat) (H1 : Heap) (locs1 : List Loc), va_P E.1 vwCl (gr ++ P r v).flatten H1 → va_D A0 (gr ++ P r v).flatten → va_S A0 s.heap H1 locs1 → W p l e R s m args below meth c H1 locs1 (cells + mc) (slots + ms) Q (F0 m (pc + 3) ls ((rv r).toList ++ rest))) : W p l e R s m args below meth c H locs cells slots Q (F0 m pc ls st0) :=
  px_goE (va_runS S (hM H.size) cw ⟨PWL_blind, px_preL hK hN hX hLL hP hD hS hA iC hC hnC⟩ rfl hlen hls hst (lv_room (pc := pc) (ls := ls) (m := m) (rest := []) hroom) hdg hf) hP hD hS hA iR iC hR hC hn kk
theorem px_VEZ (S : CallFix p m c cc nL s args lw_all own) (hM : MEZ l y bytes maxL ret rm E X L (.ref b :: As) gc.flatten mc ms rv P) (cw : CallW R s args own C index y bytes maxL ret (ws_ y bytes maxL ret) rm mc ms n)
    (hrec : ∃ cellB : Cell, H[b]? = some cellB ∧ cellB.vm.isStatics = false ∧ s.vm.findClass C = some cellB.cls) (hK : va_K E.1 vwCl (tyE E) s) (hN : px_N s) (hX : px_X X A0 s s.heap) (hLL : px_L E L A0 s s.heap) (hP : va_P E.1 vwCl gs.flatten H) (hD : va_D A0 gs.flatten) (hS : va_S A0 s.heap H locs) (hA : ∀ q, s.heap.size ≤ q → A0 q)
    (iR iC : List Nat) (hR : iR.map (fun i => gs[i]?) = gr.map some) (hC : iC.map (fun i => gs[i]?) = gc.map some) (hn : va_nd (iR ++ iC) = true) (hnC : va_nd iC = true)
    (hlen : As.length = n) (hls : ls.size = nL) (hst : st0 = As.reverse ++ .ref b :: rest) (hroom : (rest.map fun v => v.category).sum ≤ 8) (hdg : decode cc pc = .ok (.invokevirtual index, 3)) (hf : cells + mc ≤ R.cells ∧ slots + ms ≤ R.slots)
    (kk : ∀ (r v : Nat) (H1 : Heap) (locs1 : List Loc), va_P E.1 vwCl (gr ++ P r v).flatten H1 → va_D A0 (gr ++ P r v).flatten → va_S A0 s.heap H1 locs1 → W p l e R s m args below meth c H1 locs1 (cells + mc) (slots + ms) Q (F0 m (pc + 3) ls ((rv r).toList ++ rest))) : W p l e R s m args below meth c H locs cells slots Q (F0 m pc ls st0) :=
  px_goE (va_runV S (hM H.size) cw ⟨PWL_blind, hrec, px_preL hK hN hX hLL hP hD hS hA iC hC hnC⟩ rfl hlen hls hst (lv_room (pc := pc) (ls := ls) (m := m) (rest := []) hroom) hdg hf) hP hD hS hA iR iC hR hC hn kk
/-- a virtual call that finds an overriding method -/
theorem px_UZ (S : CallFix p m c cc nL s args lw_all own) (hM : MZ l y bytes maxL ret rm E X L (.ref b :: As) gc.flatten mc ms v g1.flatten) (cw : va_CU R s args own C owner index x y bytes maxL ret (ws_ y bytes maxL ret) rm mc ms n)
    (hrec : ∃ cellB : Cell, H[b]? = some cellB ∧ cellB.vm.isStatics = false ∧ s.vm.findClass C = some cellB.cls) (hK : va_K E.1 vwCl (tyE E) s) (hN : px_N s) (hX : px_X X A0 s s.heap) (hLL : px_L E L A0 s s.heap) (hP : va_P E.1 vwCl gs.flatten H) (hD : va_D A0 gs.flatten) (hS : va_S A0 s.heap H locs) (hA : ∀ q, s.heap.size ≤ q → A0 q)
    (iR iC iF : List Nat) (hR : iR.map (fun i => gs[i]?) = gr.map some) (hC : iC.map (fun i => gs[i]?) = gc.map some) (hn : va_nd (iR ++ iC) = true) (hnC : va_nd iC = true) (hF : iF.map (fun i => (gr ++ g1)[i]?) = g2.map some) (hnF : va_nd iF = true)
    (hlen : As.length = n) (hls : ls.size = nL) (hst : st0 = As.reverse ++ .ref b :: rest) (hroom : (rest.map fun v => v.category).sum ≤ 8) (hdg : decode cc pc = .ok (.invokevirtual index, 3)) (hf : cells + mc ≤ R.cells ∧ slots + ms ≤ R.slots)
    (kk : ∀ (H1 : Heap) (locs1 : List Loc), va_P E.1 vwCl g2.flatten H1 → va_D A0 g2.flatten → va_S A0 s.heap H1 locs1 → W p l e R s m args below meth c H1 locs1 (cells + mc) (slots + ms) Q (F0 m (pc + 3) ls (v.toList ++ rest))) : W p l e R s m args below meth c H locs cells slots Q (F0 m pc ls st0) :=
  px_go (va_runU S (hM H.size) cw ⟨PWL_blind, hrec, px_preL hK hN hX hLL hP hD hS hA iC hC hnC⟩ rfl hlen hls hst (lv_room (pc := pc) (ls := ls) (m := m) (rest := []) hroom) hdg hf) hP hD hS hA iR iC iF hR hC hn hF hnF kk
theorem px_eEv {A : Nat → Prop} {ws : va_W} (r v : Nat) (hv : rv r = none) (hA : A = va_A ws s.heap.size) (hQ : Q = MQ below (QE E ws s.heap.size rv P) args s cells slots (va_A ws s.heap.size)) (hP : va_P E.1 vwCl (P r v).flatten H) (hD : va_D A (P r v).flatten) (hS : va_S A s.heap H locs) (hx : p.tables.exec = Jvm.exec) (hb : c.code = cc) (hr : meth.sig.returnType = none) (hlocks : meth.locks = false) (hdg : decode cc pc = .ok (.return_, 1)) : W p l e R s m args below meth c H locs cells slots Q (F0 m pc ls []) := by
  subst hQ
  subst hA
  exact W.vret hx hb hr (fun t ht _ => ⟨⟨r, v, by rw [hv], by rw [ht]; exact hP, hD⟩, hS.F ht⟩) hS.2.2 hdg
theorem px_eEa {A : Nat → Prop} {ws : va_W} {rt : FieldType} {q : Nat} (r v : Nat) (hv : rv r = some (.ref q)) (hrt : (∃ n, rt = .object n) ∨ ∃ t, rt = .array t) (hA : A = va_A ws s.heap.size) (hQ : Q = MQ below (QE E ws s.heap.size rv P) args s cells slots (va_A ws s.heap.size)) (hP : va_P E.1 vwCl (P r v).flatten H) (hD : va_D A (P r v).flatten) (hS : va_S A s.heap H locs) (hx : p.tables.exec = Jvm.exec) (hb : c.code = cc) (hr : meth.sig.returnType = some rt) (hlocks : meth.locks = false) (hdg : decode cc pc = .ok (.areturn, 1)) : W p l e R s m args below meth c H locs cells slots Q (F0 m pc ls [.ref q]) := by
  subst hQ
  subst hA
  exact W.aret hx hb hr hrt (Or.inr ⟨_, rfl⟩) (fun t ht _ => ⟨⟨r, v, by rw [hv], by rw [ht]; exact hP, hD⟩, hS.F ht⟩) hS.2.2 hdg
theorem px_newY {N : Nat} {n1 : Int32} (hexec : p.tables.exec = Jvm.exec) (hb : c.code = cc) (harr : (Cond.arrayClass .byte).before args s = true) (hK : va_K E.1 vwCl (tyE E) s) (hKB : va_K E.1 vwCl (tyE E ++ [(L.2.2.2, .byte)]) s) (hP : va_P E.1 vwCl gs.flatten H) (hD : va_D A0 gs.flatten) (hS : va_S A0 s.heap H locs) (hA : ∀ q, s.heap.size ≤ q → A0 q)
    (hn : ¬ n1 < 0) (hN : n1.toNatClampNeg = N) (hbytes : N ≤ 65536) (hcells : cells + 1 ≤ R.cells) (hslots : slots + N ≤ R.slots) (hdg : decode cc pc = .ok (.newarray .byte, 2))
    (kk : ∀ (q : Nat) (H1 : Heap), va_P E.1 vwCl (gs ++ [gY L q N (fun _ => 0)]).flatten H1 → va_D A0 (gs ++ [gY L q N (fun _ => 0)]).flatten → va_S A0 s.heap H1 locs →
      W p l e R s m args below meth c H1 locs (cells + 1) (slots + N) Q (F0 m (pc + 2) ls (.ref q :: rest))) : W p l e R s m args below meth c H locs cells slots Q (F0 m pc ls (.int n1 :: rest)) := by
  refine va_newa (atype := .byte) (a0 := (N, .inl (fun _ => 0))) hexec hb harr rfl hK hP hD hS hA (fun _ => rfl) hn hN (by show N * 1 ≤ _; omega) hcells hslots hdg (fun q cA H1 hK1 hP1 hD1 hS1 => ?_)
  have hc : cA = L.2.2.2 := by
    have h1 : s.vm.findClass ("[" ++ FieldType.byte.toString) = some cA := (hK1.2 3 (cA, .byte) rfl).2
    have h2 : s.vm.findClass ("[" ++ FieldType.byte.toString) = some L.2.2.2 := (hKB.2 3 (L.2.2.2, .byte) rfl).2
    exact Option.some.inj (h1.symm.trans h2)
  subst hc
  have e1 : (gs ++ [gY L q N (fun _ => 0)]).flatten = gs.flatten ++ [(q, .inl (L.2.2.2, N, .inl (fun _ => 0)))] := by simp [gY]
  exact kk q H1 (by rw [e1]; exact hP1) (by rw [e1]; exact hD1) hS1
end PXJE
theorem nI_pos9 {k : Nat} (h : k ≤ 16) : (0 : Int32) ≤ nI k := nI_pos' (by omega)
theorem min_k {k : Nat} (h : k ≤ 16) : (if nI k < nI 16 then nI k else nI 16) = nI k := by
  by_cases e : k < 16
  · rw [if_pos (nI_lt e (by decide))]
  · have : k = 16 := by omega
    subst this
    rfl
theorem ne_16 {k : Nat} (h : k < 16) : ¬ nI k = nI 16 := fun q => by have := (nI_eq (by omega) (by decide)).mp q; omega
theorem ws_o {own owner C : String} {idx : Nat} {x y : MethodName} {c : ByteArray} {n : Nat} {r : Option FieldType} (ha : Cond.methodLink own idx x ∈ lw_all) (hb : Cond.sameMethod x.cls owner x.name x.desc ∈ lw_all) (hi : Cond.instanceMethod ⟨owner, x.name, x.desc⟩ ∈ lw_all) (hs : Cond.selects C x y ∈ lw_all) (hd : Cond.instanceMethod y ∈ lw_all) (he : Cond.initialized y.cls ∈ lw_all) (h : Cond.code y c n r ∈ lw_all) : GoodIn lw_all (va_wsO own idx C owner x y (ws_ y c n r)) := by
  intro w hw
  rcases List.mem_append.mp hw with h1 | h1
  · simp only [List.mem_cons, List.not_mem_nil, or_false] at h1
    rcases h1 with rfl | rfl | rfl | rfl | rfl | rfl <;> exact lw_ag _ (by assumption)
  · exact ws_g h w h1
def fJ6_stringSize_0f7a4_L16  : Nat → Int32 → Int32 → Int32 → Int32 → Option (Int32)
  | 0, _, _, _, _ => none
  | n + 1, x0, x1, x2, x3 => (if (nI 10) ≤ x3 then (some ((nI 10) + x1)) else (if x0 ≤ x2 then (fJ6_stringSize_0f7a4_L16 n (x0) (x1) (((nI 10) * x2)) ((x3 + nI 1))) else (some (x3 + x1))))
def fJ6_stringSize_0f7a4 (x0 : Int32)  : Option (Int32) := (if x0 < 0 then (fJ6_stringSize_0f7a4_L16 fuel (x0) ((nI 1)) ((-10 : Int32)) ((nI 1))) else (fJ6_stringSize_0f7a4_L16 fuel ((-x0)) ((nI 0)) ((-10 : Int32)) ((nI 1))))
set_option maxHeartbeats 4000000 in
set_option maxRecDepth 100000 in
theorem kJ6_stringSize_0f7a4 (l : Launch) (E : PE)   (x0 : Int32)  (r : Int32) (h : fJ6_stringSize_0f7a4 x0 = some r) : MP l yJ6_stringSize_0f7a4 cJ6_stringSize_0f7a4 4 (some .int) { frames := 0, cells := 0, slots := 0, locals := 0 } E [.int x0] ([] : List va_W).flatten (some (.int r)) := by
  refine px_startP (by decide +kernel) (Nat.le_of_ble_eq_true rfl) ?_
  intro p e s m args below meth c R Q A ls hC hQ
  obtain ⟨hx, hb, hr, hml, hts, hown, hlocks, hR, hK, hN, hP, hD, hA, hl, hin⟩ := hC
  have hl : lv_has ls 4 [(0, .int x0)] := hl
  unfold fJ6_stringSize_0f7a4 at h
  have L16 : ∀ (n : Nat) (x0 : Int32) (x1 : Int32) (x2 : Int32) (x3 : Int32) (ls : Array Slot), lv_has ls 4 [(0, .int x0), (1, .int x1), (2, .int x2), (3, .int x3)] → fJ6_stringSize_0f7a4_L16 n x0 x1 x2 x3 = some r → W p l e R s m args below meth c s.heap [] 0 0 Q (F0 m 16 ls []) := by
    intro n
    induction n with
    | zero =>
      intro x0 x1 x2 x3 ls hl h
      unfold fJ6_stringSize_0f7a4_L16 at h; cases h
    | succ n ih =>
      intro x0 x1 x2 x3 ls hl h
      unfold fJ6_stringSize_0f7a4_L16 at h
      refine lv_iload_n hx hb dJ6_stringSize_0f7a4_16 rfl (lv_at hl 3 rfl) ?_
      refine lv_bipush (v := (nI 10)) hx hb dJ6_stringSize_0f7a4_17 (by decide) ?_
      refine lv_icmp_ge (tgt := 42) hx hb dJ6_stringSize_0f7a4_19 (by decide) (fun c2 => ?_) (fun c2 => ?_)
      · rw [if_pos c2] at h
        refine lv_bipush (v := (nI 10)) hx hb dJ6_stringSize_0f7a4_42 (by decide) ?_
        refine lv_iload_n hx hb dJ6_stringSize_0f7a4_44 rfl (lv_at hl 1 rfl) ?_
        refine lv_iadd hx hb dJ6_stringSize_0f7a4_45 ?_
        cases h
        exact px_ePi hQ hx hb hr hlocks dJ6_stringSize_0f7a4_46
      · rw [if_neg c2] at h
        refine lv_iload_n hx hb dJ6_stringSize_0f7a4_22 rfl (lv_at hl 0 rfl) ?_
        refine lv_iload_n hx hb dJ6_stringSize_0f7a4_23 rfl (lv_at hl 2 rfl) ?_
        refine lv_icmp_le (tgt := 31) hx hb dJ6_stringSize_0f7a4_24 (by decide) (fun c3 => ?_) (fun c3 => ?_)
        · rw [if_pos c3] at h
          refine lv_bipush (v := (nI 10)) hx hb dJ6_stringSize_0f7a4_31 (by decide) ?_
          refine lv_iload_n hx hb dJ6_stringSize_0f7a4_33 rfl (lv_at hl 2 rfl) ?_
          refine lv_imul hx hb dJ6_stringSize_0f7a4_34 ?_
          refine lv_istore_n (lv' := [(2, .int ((nI 10) * x2)), (0, .int x0), (1, .int x1), (3, .int x3)]) hx hb dJ6_stringSize_0f7a4_35 rfl hl (by decide) rfl (fun ls hl => ?_)
          refine lv_iinc (v := (x3 + nI 1)) (lv' := [(3, .int (x3 + nI 1)), (2, .int ((nI 10) * x2)), (0, .int x0), (1, .int x1)]) hx hb dJ6_stringSize_0f7a4_36 hl (k := 3) rfl rfl (by decide) rfl (fun ls hl => ?_)
          refine lv_goto (tgt := 16) hx hb dJ6_stringSize_0f7a4_39 (by decide) ?_
          exact ih (x0) (x1) (((nI 10) * x2)) ((x3 + nI 1)) ls (lv_sub hl [2, 3, 1, 0] rfl) h
        · rw [if_neg c3] at h
          refine lv_iload_n hx hb dJ6_stringSize_0f7a4_27 rfl (lv_at hl 3 rfl) ?_
          refine lv_iload_n hx hb dJ6_stringSize_0f7a4_28 rfl (lv_at hl 1 rfl) ?_
          refine lv_iadd hx hb dJ6_stringSize_0f7a4_29 ?_
          cases h
          exact px_ePi hQ hx hb hr hlocks dJ6_stringSize_0f7a4_30
  refine lv_iconst (v := (nI 1)) hx hb dJ6_stringSize_0f7a4_0 (by decide) ?_
  refine lv_istore_n (lv' := [(1, .int (nI 1)), (0, .int x0)]) hx hb dJ6_stringSize_0f7a4_1 rfl hl (by decide) rfl (fun ls hl => ?_)
  refine lv_iload_n hx hb dJ6_stringSize_0f7a4_2 rfl (lv_at hl 1 rfl) ?_
  refine lv_if_lt (tgt := 11) hx hb dJ6_stringSize_0f7a4_3 (by decide) (fun c1 => ?_) (fun c1 => ?_)
  · rw [if_pos c1] at h
    refine lv_bipush (v := (-10 : Int32)) hx hb dJ6_stringSize_0f7a4_11 (by decide) ?_
    refine lv_istore_n (lv' := [(2, .int (-10 : Int32)), (1, .int (nI 1)), (0, .int x0)]) hx hb dJ6_stringSize_0f7a4_13 rfl hl (by decide) rfl (fun ls hl => ?_)
    refine lv_iconst (v := (nI 1)) hx hb dJ6_stringSize_0f7a4_14 (by decide) ?_
    refine lv_istore_n (lv' := [(3, .int (nI 1)), (2, .int (-10 : Int32)), (1, .int (nI 1)), (0, .int x0)]) hx hb dJ6_stringSize_0f7a4_15 rfl hl (by decide) rfl (fun ls hl => ?_)
    exact L16 fuel (x0) ((nI 1)) ((-10 : Int32)) ((nI 1)) ls (lv_sub hl [3, 2, 1, 0] rfl) h
  · rw [if_neg c1] at h
    refine lv_iconst (v := (nI 0)) hx hb dJ6_stringSize_0f7a4_6 (by decide) ?_
    refine lv_istore_n (lv' := [(1, .int (nI 0)), (0, .int x0)]) hx hb dJ6_stringSize_0f7a4_7 rfl hl (by decide) rfl (fun ls hl => ?_)
    refine lv_iload_n hx hb dJ6_stringSize_0f7a4_8 rfl (lv_at hl 1 rfl) ?_
    refine lv_ineg hx hb dJ6_stringSize_0f7a4_9 ?_
    refine lv_istore_n (lv' := [(0, .int (-x0)), (1, .int (nI 0))]) hx hb dJ6_stringSize_0f7a4_10 rfl hl (by decide) rfl (fun ls hl => ?_)
    refine lv_bipush (v := (-10 : Int32)) hx hb dJ6_stringSize_0f7a4_11 (by decide) ?_
    refine lv_istore_n (lv' := [(2, .int (-10 : Int32)), (0, .int (-x0)), (1, .int (nI 0))]) hx hb dJ6_stringSize_0f7a4_13 rfl hl (by decide) rfl (fun ls hl => ?_)
    refine lv_iconst (v := (nI 1)) hx hb dJ6_stringSize_0f7a4_14 (by decide) ?_
    refine lv_istore_n (lv' := [(3, .int (nI 1)), (2, .int (-10 : Int32)), (0, .int (-x0)), (1, .int (nI 0))]) hx hb dJ6_stringSize_0f7a4_15 rfl hl (by decide) rfl (fun ls hl => ?_)
    exact L16 fuel ((-x0)) ((nI 0)) ((-10 : Int32)) ((nI 1)) ls (lv_sub hl [2, 3, 1, 0] rfl) h
theorem sz_all : ∀ k : Fin 100, fJ6_stringSize_0f7a4 (nI k.1) = some (nI (dgs k.1)) := by decide +kernel
theorem cJ6_stringSize (l : Launch) (E : PE) (x : Nat) (hx : x < 100) : MP l yJ6_stringSize_0f7a4 cJ6_stringSize_0f7a4 4 (some .int) { frames := 0, cells := 0, slots := 0, locals := 0 } E [.int (nI x)] ([] : List va_W).flatten (some (.int (nI (dgs x)))) := kJ6_stringSize_0f7a4 l E (nI x) (nI (dgs x)) (sz_all ⟨x, hx⟩)
set_option maxRecDepth 20000 in
theorem iJ4 : ∀ w ∈ u_ws RJ4 TJ4 4, w ∈ lw_all := show ∀ w ∈ [u_lay RJ4 TJ4 0, u_lay RJ4 TJ4 1, u_lay RJ4 TJ4 2, u_lay RJ4 TJ4 3], w ∈ lw_all from (List.forall_mem_cons.mpr ⟨lw_in 1216 rfl rfl, (List.forall_mem_cons.mpr ⟨lw_in 1218 rfl rfl, (List.forall_mem_cons.mpr ⟨lw_in 1220 rfl rfl, (List.forall_mem_cons.mpr ⟨lw_in 1222 rfl rfl, (fun _ h => absurd h List.not_mem_nil)⟩)⟩)⟩)⟩)
set_option maxRecDepth 20000 in
theorem iJ0 : ∀ w ∈ u_ws RJ0 TJ0 4, w ∈ lw_all := show ∀ w ∈ [u_lay RJ0 TJ0 0, u_lay RJ0 TJ0 1, u_lay RJ0 TJ0 2, u_lay RJ0 TJ0 3], w ∈ lw_all from (List.forall_mem_cons.mpr ⟨lw_in 1405 rfl rfl, (List.forall_mem_cons.mpr ⟨lw_in 1407 rfl rfl, (List.forall_mem_cons.mpr ⟨lw_in 1409 rfl rfl, (List.forall_mem_cons.mpr ⟨lw_in 1411 rfl rfl, (fun _ h => absurd h List.not_mem_nil)⟩)⟩)⟩)⟩)
theorem hdX_J0_getBytes_840e7 : (yJ0_getBytes_840e7.cls ≠ "java/lang/invoke/MethodHandle" ∧ yJ0_getBytes_840e7.cls ≠ "java/lang/invoke/VarHandle") ∧ (parseMethodDescriptor yJ0_getBytes_840e7.desc).map (fun d => d.parameters.length) = some 3 := by decide +kernel
theorem hdU_J0_getBytes_840e7 : yJ0_getBytes_840e7.name ≠ "<init>" ∧ (parseMethodDescriptor yJ0_getBytes_840e7.desc).map (fun d => d.parameters.length) = some 3 := by decide +kernel
theorem hdX_J4_append_15ec4 : (yJ4_append_15ec4.cls ≠ "java/lang/invoke/MethodHandle" ∧ yJ4_append_15ec4.cls ≠ "java/lang/invoke/VarHandle") ∧ (parseMethodDescriptor yJ4_append_15ec4.desc).map (fun d => d.parameters.length) = some 1 := by decide +kernel
theorem hdU_J4_append_15ec4 : yJ4_append_15ec4.name ≠ "<init>" ∧ (parseMethodDescriptor yJ4_append_15ec4.desc).map (fun d => d.parameters.length) = some 1 := by decide +kernel
theorem hdX_J4_append_bf812 : (yJ4_append_bf812.cls ≠ "java/lang/invoke/MethodHandle" ∧ yJ4_append_bf812.cls ≠ "java/lang/invoke/VarHandle") ∧ (parseMethodDescriptor yJ4_append_bf812.desc).map (fun d => d.parameters.length) = some 1 := by decide +kernel
theorem hdU_J4_append_bf812 : yJ4_append_bf812.name ≠ "<init>" ∧ (parseMethodDescriptor yJ4_append_bf812.desc).map (fun d => d.parameters.length) = some 1 := by decide +kernel
theorem hdX_J4_toString_0e30d : (yJ4_toString_0e30d.cls ≠ "java/lang/invoke/MethodHandle" ∧ yJ4_toString_0e30d.cls ≠ "java/lang/invoke/VarHandle") ∧ (parseMethodDescriptor yJ4_toString_0e30d.desc).map (fun d => d.parameters.length) = some 0 := by decide +kernel
theorem hdU_J4_toString_0e30d : yJ4_toString_0e30d.name ≠ "<init>" ∧ (parseMethodDescriptor yJ4_toString_0e30d.desc).map (fun d => d.parameters.length) = some 0 := by decide +kernel
theorem hdX_J5_append_c97b9 : (yJ5_append_c97b9.cls ≠ "java/lang/invoke/MethodHandle" ∧ yJ5_append_c97b9.cls ≠ "java/lang/invoke/VarHandle") ∧ (parseMethodDescriptor yJ5_append_c97b9.desc).map (fun d => d.parameters.length) = some 1 := by decide +kernel
theorem hdU_J5_append_c97b9 : yJ5_append_c97b9.name ≠ "<init>" ∧ (parseMethodDescriptor yJ5_append_c97b9.desc).map (fun d => d.parameters.length) = some 1 := by decide +kernel
theorem hdX_J5_append_cf1ce : (yJ5_append_cf1ce.cls ≠ "java/lang/invoke/MethodHandle" ∧ yJ5_append_cf1ce.cls ≠ "java/lang/invoke/VarHandle") ∧ (parseMethodDescriptor yJ5_append_cf1ce.desc).map (fun d => d.parameters.length) = some 1 := by decide +kernel
theorem hdU_J5_append_cf1ce : yJ5_append_cf1ce.name ≠ "<init>" ∧ (parseMethodDescriptor yJ5_append_cf1ce.desc).map (fun d => d.parameters.length) = some 1 := by decide +kernel
theorem hdX_J5_ensureCapacityInternal_d00df : (yJ5_ensureCapacityInternal_d00df.cls ≠ "java/lang/invoke/MethodHandle" ∧ yJ5_ensureCapacityInternal_d00df.cls ≠ "java/lang/invoke/VarHandle") ∧ (parseMethodDescriptor yJ5_ensureCapacityInternal_d00df.desc).map (fun d => d.parameters.length) = some 1 := by decide +kernel
theorem hdU_J5_ensureCapacityInternal_d00df : yJ5_ensureCapacityInternal_d00df.name ≠ "<init>" ∧ (parseMethodDescriptor yJ5_ensureCapacityInternal_d00df.desc).map (fun d => d.parameters.length) = some 1 := by decide +kernel
theorem hdX_J5_getValue_6d5f1 : (yJ5_getValue_6d5f1.cls ≠ "java/lang/invoke/MethodHandle" ∧ yJ5_getValue_6d5f1.cls ≠ "java/lang/invoke/VarHandle") ∧ (parseMethodDescriptor yJ5_getValue_6d5f1.desc).map (fun d => d.parameters.length) = some 0 := by decide +kernel
theorem hdU_J5_getValue_6d5f1 : yJ5_getValue_6d5f1.name ≠ "<init>" ∧ (parseMethodDescriptor yJ5_getValue_6d5f1.desc).map (fun d => d.parameters.length) = some 0 := by decide +kernel
theorem hdX_J5_inflateIfNeededFor_a7421 : (yJ5_inflateIfNeededFor_a7421.cls ≠ "java/lang/invoke/MethodHandle" ∧ yJ5_inflateIfNeededFor_a7421.cls ≠ "java/lang/invoke/VarHandle") ∧ (parseMethodDescriptor yJ5_inflateIfNeededFor_a7421.desc).map (fun d => d.parameters.length) = some 1 := by decide +kernel
theorem hdU_J5_inflateIfNeededFor_a7421 : yJ5_inflateIfNeededFor_a7421.name ≠ "<init>" ∧ (parseMethodDescriptor yJ5_inflateIfNeededFor_a7421.desc).map (fun d => d.parameters.length) = some 1 := by decide +kernel
theorem hdX_J5_init_d00df : (yJ5_init_d00df.cls ≠ "java/lang/invoke/MethodHandle" ∧ yJ5_init_d00df.cls ≠ "java/lang/invoke/VarHandle") ∧ (parseMethodDescriptor yJ5_init_d00df.desc).map (fun d => d.parameters.length) = some 1 := by decide +kernel
theorem hdX_J5_isLatin1_aae02 : (yJ5_isLatin1_aae02.cls ≠ "java/lang/invoke/MethodHandle" ∧ yJ5_isLatin1_aae02.cls ≠ "java/lang/invoke/VarHandle") ∧ (parseMethodDescriptor yJ5_isLatin1_aae02.desc).map (fun d => d.parameters.length) = some 0 := by decide +kernel
theorem hdU_J5_isLatin1_aae02 : yJ5_isLatin1_aae02.name ≠ "<init>" ∧ (parseMethodDescriptor yJ5_isLatin1_aae02.desc).map (fun d => d.parameters.length) = some 0 := by decide +kernel
theorem hdX_J5_length_8abf5 : (yJ5_length_8abf5.cls ≠ "java/lang/invoke/MethodHandle" ∧ yJ5_length_8abf5.cls ≠ "java/lang/invoke/VarHandle") ∧ (parseMethodDescriptor yJ5_length_8abf5.desc).map (fun d => d.parameters.length) = some 0 := by decide +kernel
theorem hdU_J5_length_8abf5 : yJ5_length_8abf5.name ≠ "<init>" ∧ (parseMethodDescriptor yJ5_length_8abf5.desc).map (fun d => d.parameters.length) = some 0 := by decide +kernel
theorem hdX_J5_putStringAt_47b60 : (yJ5_putStringAt_47b60.cls ≠ "java/lang/invoke/MethodHandle" ∧ yJ5_putStringAt_47b60.cls ≠ "java/lang/invoke/VarHandle") ∧ (parseMethodDescriptor yJ5_putStringAt_47b60.desc).map (fun d => d.parameters.length) = some 2 := by decide +kernel
theorem hdU_J5_putStringAt_47b60 : yJ5_putStringAt_47b60.name ≠ "<init>" ∧ (parseMethodDescriptor yJ5_putStringAt_47b60.desc).map (fun d => d.parameters.length) = some 2 := by decide +kernel
theorem hdI_J0_init_81219 : yJ0_init_81219.cls ≠ "java/lang/invoke/MethodHandle" ∧ yJ0_init_81219.cls ≠ "java/lang/invoke/VarHandle" ∧ (parseMethodDescriptor yJ0_init_81219.desc).map (fun d => d.parameters.length) = some 1 := by decide +kernel
theorem hdI_J0_init_db425 : yJ0_init_db425.cls ≠ "java/lang/invoke/MethodHandle" ∧ yJ0_init_db425.cls ≠ "java/lang/invoke/VarHandle" ∧ (parseMethodDescriptor yJ0_init_db425.desc).map (fun d => d.parameters.length) = some 2 := by decide +kernel
theorem hdI_J4_init_da8c8 : yJ4_init_da8c8.cls ≠ "java/lang/invoke/MethodHandle" ∧ yJ4_init_da8c8.cls ≠ "java/lang/invoke/VarHandle" ∧ (parseMethodDescriptor yJ4_init_da8c8.desc).map (fun d => d.parameters.length) = some 0 := by decide +kernel
theorem hdI_J5_init_d00df : yJ5_init_d00df.cls ≠ "java/lang/invoke/MethodHandle" ∧ yJ5_init_d00df.cls ≠ "java/lang/invoke/VarHandle" ∧ (parseMethodDescriptor yJ5_init_d00df.desc).map (fun d => d.parameters.length) = some 1 := by decide +kernel
theorem hdO_len : RJ5 ≠ "java/lang/invoke/MethodHandle" ∧ RJ5 ≠ "java/lang/invoke/VarHandle" ∧ (parseMethodDescriptor yJ5_length_8abf5.desc).map (fun d => d.parameters.length) = some 0 := by decide +kernel
set_option maxHeartbeats 4000000 in
set_option maxRecDepth 100000 in
theorem c5_ensure (l : Launch) (E : PE) (X : PX) (L : LX) (q v : Nat) (f : AI) (n : Int32) (x : Int32) (hle : x - nI 16 ≤ 0) : MZ l yJ5_ensureCapacityInternal_d00df cJ5_ensureCapacityInternal_d00df 3 none { frames := 0, cells := 0, slots := 0, locals := 0 } E X L [.ref q, .int x] ([gB L q v f n] : List va_W).flatten 0 0 none ([gB L q v f n] : List va_W).flatten := by
  refine px_startZ (by decide +kernel) (Nat.le_of_ble_eq_true rfl) ?_
  intro p e s m args below meth c R Q A ls hC hX hL hA0 hQ
  obtain ⟨hx, hb, hr, hml, hts, hown, hlocks, hR, hK, hN, hP, hD, hA, hl, hin⟩ := hC
  have hl : lv_has ls 3 [(0, .ref q), (1, .int x)] := hl
  suffices key : ∀ (H : Heap) (locs : List Loc), va_P E.1 vwCl ([gB L q v f n] : List va_W).flatten H → va_S A s.heap H locs → W p l e R s m args below meth c H locs 0 0 Q (F0 m 0 ls []) from key s.heap [] hP va_S.rf
  intro H locs hP hS
  have hKB := hL.2.1.2.2.1
  refine lv_aload_n hx hb dJ5_ensureCapacityInternal_d00df_0 rfl (lv_at hl 0 rfl) ?_
  refine va_get (D := E.1) (ci := 10) (v := .ref v) (C := RJ4) (T := TJ4) (N := 4) hx hb hts iJ4 hown hK hP 0 rfl rfl 0 (by decide) (hts _ q1212) (fun _ h9 => h9) rfl dJ5_ensureCapacityInternal_d00df_1 ?_
  refine va_alen (v := nI 16) hx hb hKB hP 1 3 rfl rfl rfl dJ5_ensureCapacityInternal_d00df_4 ?_
  refine lv_aload_n hx hb dJ5_ensureCapacityInternal_d00df_5 rfl (lv_at hl 0 rfl) ?_
  refine va_get (D := E.1) (ci := 10) (v := .int 0) (C := RJ4) (T := TJ4) (N := 4) hx hb hts iJ4 hown hK hP 0 rfl rfl 1 (by decide) (hts _ q1213) (fun _ h9 => h9) rfl dJ5_ensureCapacityInternal_d00df_6 ?_
  refine lv_ishr hx hb dJ5_ensureCapacityInternal_d00df_9 ?_
  refine W.eq (g2 := F0 m 10 ls [.int (nI 16)]) (by rw [sb_shr0]) ?_
  refine lv_istore_n (lv' := [(2, .int (nI 16)), (0, .ref q), (1, .int x)]) hx hb dJ5_ensureCapacityInternal_d00df_10 rfl hl (by decide) rfl (fun ls hl => ?_)
  refine lv_iload_n hx hb dJ5_ensureCapacityInternal_d00df_11 rfl (lv_at hl 2 rfl) ?_
  refine lv_iload_n hx hb dJ5_ensureCapacityInternal_d00df_12 rfl (lv_at hl 0 rfl) ?_
  refine lv_isub hx hb dJ5_ensureCapacityInternal_d00df_13 ?_
  refine lv_if_le (tgt := 38) hx hb dJ5_ensureCapacityInternal_d00df_14 (by decide) (fun _ => ?_) (fun c => absurd hle c)
  exact px_eWv hA0 hQ hP hD hS hx hb hr hlocks dJ5_ensureCapacityInternal_d00df_38
set_option maxHeartbeats 4000000 in
set_option maxRecDepth 100000 in
theorem c5_isLatin1 (l : Launch) (E : PE) (X : PX) (L : LX) (q v : Nat) (f : AI) (n : Int32) : MZ l yJ5_isLatin1_aae02 cJ5_isLatin1_aae02 1 (some .boolean) { frames := 0, cells := 0, slots := 0, locals := 0 } E X L [.ref q] ([gB L q v f n] : List va_W).flatten 0 0 (some (.int (b2i true))) ([gB L q v f n] : List va_W).flatten := by
  refine px_startZ (by decide +kernel) (Nat.le_of_ble_eq_true rfl) ?_
  intro p e s m args below meth c R Q A ls hC hX hL hA0 hQ
  obtain ⟨hx, hb, hr, hml, hts, hown, hlocks, hR, hK, hN, hP, hD, hA, hl, hin⟩ := hC
  have hl : lv_has ls 1 [(0, .ref q)] := hl
  suffices key : ∀ (H : Heap) (locs : List Loc), va_P E.1 vwCl ([gB L q v f n] : List va_W).flatten H → va_S A s.heap H locs → W p l e R s m args below meth c H locs 0 0 Q (F0 m 0 ls []) from key s.heap [] hP va_S.rf
  intro H locs hP hS
  have hKB := hL.2.1.2.2.1
  refine va_gets (C := "java/lang/String") hx hb hX.2.2.1 hS hown (hts _ q1204) (fun _ h => h) dJ5_isLatin1_aae02_0 ?_
  refine lv_if_eq (tgt := 17) hx hb dJ5_isLatin1_aae02_3 (by decide) (fun c => absurd c (by decide)) (fun _ => ?_)
  refine lv_aload_n hx hb dJ5_isLatin1_aae02_6 rfl (lv_at hl 0 rfl) ?_
  refine va_get (D := E.1) (ci := 10) (v := .int 0) (C := RJ4) (T := TJ4) (N := 4) hx hb hts iJ4 hown hK hP 0 rfl rfl 1 (by decide) (hts _ q1213) (fun _ h9 => h9) rfl dJ5_isLatin1_aae02_7 ?_
  refine lv_if_ne (tgt := 17) hx hb dJ5_isLatin1_aae02_10 (by decide) (fun c => absurd rfl c) (fun _ => ?_)
  refine lv_iconst (v := 1) hx hb dJ5_isLatin1_aae02_13 (by decide) ?_
  refine lv_goto (tgt := 18) hx hb dJ5_isLatin1_aae02_14 (by decide) ?_
  refine W.eq (g2 := F0 m 18 ls [.int (b2i true)]) rfl ?_
  exact px_eWz (b2i_n _) hA0 hQ hP hD hS hx hb hr hlocks dJ5_isLatin1_aae02_18
set_option maxHeartbeats 4000000 in
set_option maxRecDepth 100000 in
theorem c5_getValue (l : Launch) (E : PE) (X : PX) (L : LX) (q v : Nat) (f : AI) (n : Int32) : MZ l yJ5_getValue_6d5f1 cJ5_getValue_6d5f1 1 (some (.array .byte)) { frames := 0, cells := 0, slots := 0, locals := 0 } E X L [.ref q] ([gB L q v f n] : List va_W).flatten 0 0 (some (.ref v)) ([gB L q v f n] : List va_W).flatten := by
  refine px_startZ (by decide +kernel) (Nat.le_of_ble_eq_true rfl) ?_
  intro p e s m args below meth c R Q A ls hC hX hL hA0 hQ
  obtain ⟨hx, hb, hr, hml, hts, hown, hlocks, hR, hK, hN, hP, hD, hA, hl, hin⟩ := hC
  have hl : lv_has ls 1 [(0, .ref q)] := hl
  suffices key : ∀ (H : Heap) (locs : List Loc), va_P E.1 vwCl ([gB L q v f n] : List va_W).flatten H → va_S A s.heap H locs → W p l e R s m args below meth c H locs 0 0 Q (F0 m 0 ls []) from key s.heap [] hP va_S.rf
  intro H locs hP hS
  have hKB := hL.2.1.2.2.1
  refine lv_aload_n hx hb dJ5_getValue_6d5f1_0 rfl (lv_at hl 0 rfl) ?_
  refine va_get (D := E.1) (ci := 10) (v := .ref v) (C := RJ4) (T := TJ4) (N := 4) hx hb hts iJ4 hown hK hP 0 rfl rfl 0 (by decide) (hts _ q1212) (fun _ h9 => h9) rfl dJ5_getValue_6d5f1_1 ?_
  exact px_eWa (Or.inr ⟨_, rfl⟩) hA0 hQ hP hD hS hx hb hr hlocks dJ5_getValue_6d5f1_4
set_option maxHeartbeats 4000000 in
set_option maxRecDepth 100000 in
theorem c5_length (l : Launch) (E : PE) (X : PX) (L : LX) (q v : Nat) (f : AI) (n : Int32) : MZ l yJ5_length_8abf5 cJ5_length_8abf5 1 (some .int) { frames := 0, cells := 0, slots := 0, locals := 0 } E X L [.ref q] ([gB L q v f n] : List va_W).flatten 0 0 (some (.int n)) ([gB L q v f n] : List va_W).flatten := by
  refine px_startZ (by decide +kernel) (Nat.le_of_ble_eq_true rfl) ?_
  intro p e s m args below meth c R Q A ls hC hX hL hA0 hQ
  obtain ⟨hx, hb, hr, hml, hts, hown, hlocks, hR, hK, hN, hP, hD, hA, hl, hin⟩ := hC
  have hl : lv_has ls 1 [(0, .ref q)] := hl
  suffices key : ∀ (H : Heap) (locs : List Loc), va_P E.1 vwCl ([gB L q v f n] : List va_W).flatten H → va_S A s.heap H locs → W p l e R s m args below meth c H locs 0 0 Q (F0 m 0 ls []) from key s.heap [] hP va_S.rf
  intro H locs hP hS
  have hKB := hL.2.1.2.2.1
  refine lv_aload_n hx hb dJ5_length_8abf5_0 rfl (lv_at hl 0 rfl) ?_
  refine va_get (D := E.1) (ci := 10) (v := .int n) (C := RJ4) (T := TJ4) (N := 4) hx hb hts iJ4 hown hK hP 0 rfl rfl 3 (by decide) (hts _ q1215) (fun _ h9 => h9) rfl dJ5_length_8abf5_1 ?_
  exact px_eWi hA0 hQ hP hD hS hx hb hr hlocks dJ5_length_8abf5_4
set_option maxHeartbeats 4000000 in
set_option maxRecDepth 100000 in
theorem c4_length (l : Launch) (E : PE) (X : PX) (L : LX) (q v : Nat) (f : AI) (n : Int32) : MZ l yJ4_length_8abf5 cJ4_length_8abf5 1 (some .int) { frames := 1, cells := 0, slots := 0, locals := 20 } E X L [.ref q] ([gB L q v f n] : List va_W).flatten 0 0 (some (.int n)) ([gB L q v f n] : List va_W).flatten := by
  refine px_startZ (by decide +kernel) (Nat.le_of_ble_eq_true rfl) ?_
  intro p e s m args below meth c R Q A ls hC hX hL hA0 hQ
  obtain ⟨hx, hb, hr, hml, hts, hown, hlocks, hR, hK, hN, hP, hD, hA, hl, hin⟩ := hC
  have hl : lv_has ls 1 [(0, .ref q)] := hl
  suffices key : ∀ (H : Heap) (locs : List Loc), va_P E.1 vwCl ([gB L q v f n] : List va_W).flatten H → va_S A s.heap H locs → W p l e R s m args below meth c H locs 0 0 Q (F0 m 0 ls []) from key s.heap [] hP va_S.rf
  intro H locs hP hS
  have hKB := hL.2.1.2.2.1
  refine lv_aload_n hx hb dJ4_length_8abf5_0 rfl (lv_at hl 0 rfl) ?_
  refine px_SUZ (As := []) (rest := []) (gs := ([gB L q v f n] : List va_W)) (gr := []) (gc := ([gB L q v f n] : List va_W)) (g1 := ([gB L q v f n] : List va_W)) (g2 := ([gB L q v f n] : List va_W)) ⟨hx, hb, hml, hown, hts⟩ (c5_length l E X L q v f n) (va_cwSU 0 hts (ws_su q1373 (lw_in 1369 rfl rfl) (lw_in 1224 rfl rfl) q1368 q45 q1374) rfl rfl rfl hdU_J5_length_8abf5 (by rw [hR]; exact ⟨Nat.le_of_ble_eq_true rfl, Nat.le_of_ble_eq_true rfl⟩)) (px_atB hK) (px_recv (gs := ([gB L q v f n] : List va_W)) (gc := ([gB L q v f n] : List va_W)) hK hP [0] rfl 0 10 rfl rfl rfl) hK hN hX hL hP hD hS hA [] [0] [0] rfl rfl (by decide) (by decide) rfl (by decide) rfl hl.1 rfl (Nat.le_of_ble_eq_true rfl) dJ4_length_8abf5_1 (by rw [hR]; exact ⟨Nat.le_of_ble_eq_true rfl, Nat.le_of_ble_eq_true rfl⟩) (fun H locs hP hD hS => ?_)
  refine W.eq (g2 := F0 m 4 ls [.int n]) rfl ?_
  exact px_eWi hA0 hQ hP hD hS hx hb hr hlocks dJ4_length_8abf5_4
set_option maxHeartbeats 4000000 in
set_option maxRecDepth 100000 in
theorem c5_inflate (l : Launch) (E : PE) (X : PX) (L : LX) (q v : Nat) (f : AI) (n : Int32) (d : PS) (hd : px_In X d) (hn : d.2.2.1 < 2 ^ 31) (hfd : sb_Fit d.2.2.2) : MZ l yJ5_inflateIfNeededFor_a7421 cJ5_inflateIfNeededFor_a7421 2 none { frames := 1, cells := 0, slots := 0, locals := 20 } E X L [.ref q, .ref d.1] ([gB L q v f n] : List va_W).flatten 0 0 none ([gB L q v f n] : List va_W).flatten := by
  refine px_startZ (by decide +kernel) (Nat.le_of_ble_eq_true rfl) ?_
  intro p e s m args below meth c R Q A ls hC hX hL hA0 hQ
  obtain ⟨hx, hb, hr, hml, hts, hown, hlocks, hR, hK, hN, hP, hD, hA, hl, hin⟩ := hC
  have hl : lv_has ls 2 [(0, .ref q), (1, .ref d.1)] := hl
  suffices key : ∀ (H : Heap) (locs : List Loc), va_P E.1 vwCl ([gB L q v f n] : List va_W).flatten H → va_S A s.heap H locs → W p l e R s m args below meth c H locs 0 0 Q (F0 m 0 ls []) from key s.heap [] hP va_S.rf
  intro H locs hP hS
  have hKB := hL.2.1.2.2.1
  refine va_gets (C := "java/lang/String") hx hb hX.2.2.1 hS hown (hts _ q1204) (fun _ h => h) dJ5_inflateIfNeededFor_a7421_0 ?_
  refine lv_if_eq (tgt := 21) hx hb dJ5_inflateIfNeededFor_a7421_3 (by decide) (fun c => absurd c (by decide)) (fun _ => ?_)
  refine lv_aload_n hx hb dJ5_inflateIfNeededFor_a7421_6 rfl (lv_at hl 0 rfl) ?_
  refine va_get (D := E.1) (ci := 10) (v := .int 0) (C := RJ4) (T := TJ4) (N := 4) hx hb hts iJ4 hown hK hP 0 rfl rfl 1 (by decide) (hts _ q1213) (fun _ h9 => h9) rfl dJ5_inflateIfNeededFor_a7421_7 ?_
  refine lv_aload_n hx hb dJ5_inflateIfNeededFor_a7421_10 rfl (lv_at hl 1 rfl) ?_
  refine px_VpX (As := []) (rest := [.int 0]) (gs := ([gB L q v f n] : List va_W)) (gc := []) ⟨hx, hb, hml, hown, hts⟩ (cJ0_coder l E X d hd hn) (cwV 0 hts (ws_v q1295 q772 q773 q38 q774) rfl rfl rfl hdV_J0_coder_7d493 (by rw [hR]; exact ⟨Nat.le_of_ble_eq_true rfl, Nat.le_of_ble_eq_true rfl⟩)) hK hN hX hP hD hS hA [] rfl (by decide) (px_strRecv hX hS hd) rfl hl.1 rfl (Nat.le_of_ble_eq_true rfl) dJ5_inflateIfNeededFor_a7421_11 (by rw [hR]; exact ⟨Nat.le_of_ble_eq_true rfl, Nat.le_of_ble_eq_true rfl⟩) ?_
  refine W.eq (g2 := F0 m 14 ls [.int 0, .int 0]) rfl ?_
  refine lv_icmp_eq (tgt := 21) hx hb dJ5_inflateIfNeededFor_a7421_14 (by decide) (fun _ => ?_) (fun c => absurd rfl c)
  exact px_eWv hA0 hQ hP hD hS hx hb hr hlocks dJ5_inflateIfNeededFor_a7421_21
set_option maxHeartbeats 4000000 in
set_option maxRecDepth 100000 in
theorem c0_getBytes (l : Launch) (E : PE) (X : PX) (L : LX) (v k : Nat) (f : AI) (d : PS) (hd : px_In X d) (hn : d.2.2.1 < 2 ^ 31) (hfd : sb_Fit d.2.2.2) (hk : k + d.2.2.1 ≤ 16) : MZ l yJ0_getBytes_840e7 cJ0_getBytes_840e7 4 none { frames := 1, cells := 0, slots := 0, locals := 24 } E X L [.ref d.1, .ref v, .int (nI k), .int 0] ([gY L v 16 f] : List va_W).flatten 0 0 none ([gY L v 16 (va_cpy d.2.2.2 f 0 k d.2.2.1)] : List va_W).flatten := by
  refine px_startZ (by decide +kernel) (Nat.le_of_ble_eq_true rfl) ?_
  intro p e s m args below meth c R Q A ls hC hX hL hA0 hQ
  obtain ⟨hx, hb, hr, hml, hts, hown, hlocks, hR, hK, hN, hP, hD, hA, hl, hin⟩ := hC
  have hl : lv_has ls 4 [(0, .ref d.1), (1, .ref v), (2, .int (nI k)), (3, .int 0)] := hl
  suffices key : ∀ (H : Heap) (locs : List Loc), va_P E.1 vwCl ([gY L v 16 f] : List va_W).flatten H → va_S A s.heap H locs → W p l e R s m args below meth c H locs 0 0 Q (F0 m 0 ls []) from key s.heap [] hP va_S.rf
  intro H locs hP hS
  have hKB := hL.2.1.2.2.1
  refine lv_aload_n hx hb dJ0_getBytes_840e7_0 rfl (lv_at hl 0 rfl) ?_
  refine px_VpX (As := []) (rest := []) (gs := ([gY L v 16 f] : List va_W)) (gc := []) ⟨hx, hb, hml, hown, hts⟩ (cJ0_coder l E X d hd hn) (cwV 0 hts (ws_v q771 q772 q773 q38 q774) rfl rfl rfl hdV_J0_coder_7d493 (by rw [hR]; exact ⟨Nat.le_of_ble_eq_true rfl, Nat.le_of_ble_eq_true rfl⟩)) hK hN hX hP hD hS hA [] rfl (by decide) (px_strRecv hX hS hd) rfl hl.1 rfl (Nat.le_of_ble_eq_true rfl) dJ0_getBytes_840e7_1 (by rw [hR]; exact ⟨Nat.le_of_ble_eq_true rfl, Nat.le_of_ble_eq_true rfl⟩) ?_
  refine W.eq (g2 := F0 m 4 ls [.int 0]) rfl ?_
  refine lv_iload_n hx hb dJ0_getBytes_840e7_4 rfl (lv_at hl 3 rfl) ?_
  refine lv_icmp_ne (tgt := 28) hx hb dJ0_getBytes_840e7_5 (by decide) (fun c => absurd rfl c) (fun _ => ?_)
  refine lv_aload_n hx hb dJ0_getBytes_840e7_8 rfl (lv_at hl 0 rfl) ?_
  refine px_strV (ref := "") hx hb hX hd hS hown (hts _ q1403) dJ0_getBytes_840e7_9 ?_
  refine lv_iconst (v := 0) hx hb dJ0_getBytes_840e7_12 (by decide) ?_
  refine lv_aload_n hx hb dJ0_getBytes_840e7_13 rfl (lv_at hl 1 rfl) ?_
  refine lv_iload_n hx hb dJ0_getBytes_840e7_14 rfl (lv_at hl 2 rfl) ?_
  refine lv_iload_n hx hb dJ0_getBytes_840e7_15 rfl (lv_at hl 3 rfl) ?_
  refine lv_ishl hx hb dJ0_getBytes_840e7_16 ?_
  refine W.eq (g2 := F0 m 17 ls [.int (nI k), .ref v, .int 0, .ref d.2.1]) (by rw [sb_shl0]) ?_
  refine lv_aload_n hx hb dJ0_getBytes_840e7_17 rfl (lv_at hl 0 rfl) ?_
  refine px_strV (ref := "") hx hb hX hd hS hown (hts _ q1403) dJ0_getBytes_840e7_18 ?_
  refine va_tlen (v := nI d.2.2.1) hx hb (px_gs hX hd).2.2.2 hS rfl dJ0_getBytes_840e7_21 ?_
  have hc1 : (nI d.2.2.1).toNatClampNeg = d.2.2.1 := nI_clamp hn
  have hc2 : (nI k).toNatClampNeg = k := nI_clamp (by omega)
  refine vk_copyt hx hb (hml.trans hl.1.symm) hown (hts _ q1319) (hts _ q262) (hts _ q261) (hts _ q31) hKB hP hD hS (px_gs hX hd).2.2.2 0 3 rfl rfl (by decide) (nI_pos (by omega)) (nI_pos hn) (by rw [sb_cl0, hc1]; omega) (by rw [hc1, hc2]; omega) (fun i _ => hfd _) (by rw [hR]; exact Nat.le_of_ble_eq_true rfl) (by rw [hR]; exact Nat.le_of_ble_eq_true rfl) dJ0_getBytes_840e7_22 (fun H locs hP hD hS => ?_)
  rw [sb_cl0, hc1, hc2] at hP hD
  have hP : va_P E.1 vwCl ([gY L v 16 (va_cpy d.2.2.2 f 0 k d.2.2.1)] : List va_W).flatten H := hP
  have hD : va_D A ([gY L v 16 (va_cpy d.2.2.2 f 0 k d.2.2.1)] : List va_W).flatten := hD
  refine lv_goto (tgt := 43) hx hb dJ0_getBytes_840e7_25 (by decide) ?_
  exact px_eWv hA0 hQ hP hD hS hx hb hr hlocks dJ0_getBytes_840e7_43
set_option maxHeartbeats 4000000 in
set_option maxRecDepth 100000 in
theorem c5_putStringAt (l : Launch) (E : PE) (X : PX) (L : LX) (q v : Nat) (f : AI) (n : Int32) (d : PS) (hd : px_In X d) (hn : d.2.2.1 < 2 ^ 31) (hfd : sb_Fit d.2.2.2) (k : Nat) (hk : k + d.2.2.1 ≤ 16) : MZ l yJ5_putStringAt_47b60 cJ5_putStringAt_47b60 3 none { frames := 2, cells := 0, slots := 0, locals := 47 } E X L [.ref q, .int (nI k), .ref d.1] ([gB L q v f n] : List va_W).flatten 0 0 none ([gB L q v (va_cpy d.2.2.2 f 0 k d.2.2.1) n] : List va_W).flatten := by
  refine px_startZ (by decide +kernel) (Nat.le_of_ble_eq_true rfl) ?_
  intro p e s m args below meth c R Q A ls hC hX hL hA0 hQ
  obtain ⟨hx, hb, hr, hml, hts, hown, hlocks, hR, hK, hN, hP, hD, hA, hl, hin⟩ := hC
  have hl : lv_has ls 3 [(0, .ref q), (1, .int (nI k)), (2, .ref d.1)] := hl
  suffices key : ∀ (H : Heap) (locs : List Loc), va_P E.1 vwCl ([gB L q v f n] : List va_W).flatten H → va_S A s.heap H locs → W p l e R s m args below meth c H locs 0 0 Q (F0 m 0 ls []) from key s.heap [] hP va_S.rf
  intro H locs hP hS
  have hKB := hL.2.1.2.2.1
  refine lv_aload_n hx hb dJ5_putStringAt_47b60_0 rfl (lv_at hl 0 rfl) ?_
  refine lv_aload_n hx hb dJ5_putStringAt_47b60_1 rfl (lv_at hl 2 rfl) ?_
  refine px_VZ (As := [.ref d.1]) (rest := []) (gs := ([gB L q v f n] : List va_W)) (gr := []) (gc := ([gB L q v f n] : List va_W)) (g1 := ([gB L q v f n] : List va_W)) (g2 := ([gB L q v f n] : List va_W)) ⟨hx, hb, hml, hown, hts⟩ (c5_inflate l E X L q v f n d hd hn hfd) (cw_P 1 hts q1291 q1293 (va_Nw.use rfl (hL.2.1.2.2.2 _ (List.mem_of_getElem? (i := 2) rfl))) q45 q1294 hdX_J5_inflateIfNeededFor_a7421 (by rw [hR]; exact ⟨Nat.le_of_ble_eq_true rfl, Nat.le_of_ble_eq_true rfl⟩)) (px_recv (gs := ([gB L q v f n] : List va_W)) (gc := ([gB L q v f n] : List va_W)) hK hP [0] rfl 0 10 rfl rfl rfl) hK hN hX hL hP hD hS hA [] [0] [0] rfl rfl (by decide) (by decide) rfl (by decide) rfl hl.1 rfl (Nat.le_of_ble_eq_true rfl) dJ5_putStringAt_47b60_2 (by rw [hR]; exact ⟨Nat.le_of_ble_eq_true rfl, Nat.le_of_ble_eq_true rfl⟩) (fun H locs hP hD hS => ?_)
  refine W.eq (g2 := F0 m 5 ls []) rfl ?_
  refine lv_aload_n hx hb dJ5_putStringAt_47b60_5 rfl (lv_at hl 2 rfl) ?_
  refine lv_aload_n hx hb dJ5_putStringAt_47b60_6 rfl (lv_at hl 0 rfl) ?_
  refine va_get (D := E.1) (ci := 10) (v := .ref v) (C := RJ4) (T := TJ4) (N := 4) hx hb hts iJ4 hown hK hP 0 rfl rfl 0 (by decide) (hts _ q1212) (fun _ h9 => h9) rfl dJ5_putStringAt_47b60_7 ?_
  refine lv_iload_n hx hb dJ5_putStringAt_47b60_10 rfl (lv_at hl 1 rfl) ?_
  refine lv_aload_n hx hb dJ5_putStringAt_47b60_11 rfl (lv_at hl 0 rfl) ?_
  refine va_get (D := E.1) (ci := 10) (v := .int 0) (C := RJ4) (T := TJ4) (N := 4) hx hb hts iJ4 hown hK hP 0 rfl rfl 1 (by decide) (hts _ q1213) (fun _ h9 => h9) rfl dJ5_putStringAt_47b60_12 ?_
  have hP : va_P E.1 vwCl ([gBo L q v n, gY L v 16 f] : List va_W).flatten H := hP
  have hD : va_D A ([gBo L q v n, gY L v 16 f] : List va_W).flatten := hD
  refine px_VZ (As := [.ref v, .int (nI k), .int 0]) (rest := []) (gs := ([gBo L q v n, gY L v 16 f] : List va_W)) (gr := ([gBo L q v n] : List va_W)) (gc := ([gY L v 16 f] : List va_W)) (g1 := ([gY L v 16 (va_cpy d.2.2.2 f 0 k d.2.2.1)] : List va_W)) (g2 := ([gBo L q v n, gY L v 16 (va_cpy d.2.2.2 f 0 k d.2.2.1)] : List va_W)) ⟨hx, hb, hml, hown, hts⟩ (c0_getBytes l E X L v k f d hd hn hfd hk) (cw_V 3 hts q1315 q1316 q1317 q38 q1318 hdX_J0_getBytes_840e7 (by rw [hR]; exact ⟨Nat.le_of_ble_eq_true rfl, Nat.le_of_ble_eq_true rfl⟩)) (px_strRecv hX hS hd) hK hN hX hL hP hD hS hA [0] [1] [0, 1] rfl rfl (by decide) (by decide) rfl (by decide) rfl hl.1 rfl (Nat.le_of_ble_eq_true rfl) dJ5_putStringAt_47b60_15 (by rw [hR]; exact ⟨Nat.le_of_ble_eq_true rfl, Nat.le_of_ble_eq_true rfl⟩) (fun H locs hP hD hS => ?_)
  refine W.eq (g2 := F0 m 18 ls []) rfl ?_
  have hP : va_P E.1 vwCl ([gB L q v (va_cpy d.2.2.2 f 0 k d.2.2.1) n] : List va_W).flatten H := hP
  have hD : va_D A ([gB L q v (va_cpy d.2.2.2 f 0 k d.2.2.1) n] : List va_W).flatten := hD
  exact px_eWv hA0 hQ hP hD hS hx hb hr hlocks dJ5_putStringAt_47b60_18
set_option maxHeartbeats 4000000 in
set_option maxRecDepth 100000 in
theorem c5_appendS (l : Launch) (E : PE) (X : PX) (L : LX) (q v k : Nat) (f : AI) (d : PS) (hd : px_In X d) (hn : d.2.2.1 < 2 ^ 31) (hfd : sb_Fit d.2.2.2) (hk : k + d.2.2.1 ≤ 16) : MZ l yJ5_append_cf1ce cJ5_append_cf1ce 3 (some (.object "java/lang/AbstractStringBuilder")) { frames := 3, cells := 0, slots := 0, locals := 70 } E X L [.ref q, .ref d.1] ([gB L q v f (nI k)] : List va_W).flatten 0 0 (some (.ref q)) ([gB L q v (va_cpy d.2.2.2 f 0 k d.2.2.1) (nI (k + d.2.2.1))] : List va_W).flatten := by
  refine px_startZ (by decide +kernel) (Nat.le_of_ble_eq_true rfl) ?_
  intro p e s m args below meth c R Q A ls hC hX hL hA0 hQ
  obtain ⟨hx, hb, hr, hml, hts, hown, hlocks, hR, hK, hN, hP, hD, hA, hl, hin⟩ := hC
  have hl : lv_has ls 3 [(0, .ref q), (1, .ref d.1)] := hl
  suffices key : ∀ (H : Heap) (locs : List Loc), va_P E.1 vwCl ([gB L q v f (nI k)] : List va_W).flatten H → va_S A s.heap H locs → W p l e R s m args below meth c H locs 0 0 Q (F0 m 0 ls []) from key s.heap [] hP va_S.rf
  intro H locs hP hS
  have hKB := hL.2.1.2.2.1
  refine lv_aload_n hx hb dJ5_append_cf1ce_0 rfl (lv_at hl 1 rfl) ?_
  refine lv_ifnonnull (tgt := 9) hx hb dJ5_append_cf1ce_1 (by decide) ?_
  refine lv_aload_n hx hb dJ5_append_cf1ce_9 rfl (lv_at hl 1 rfl) ?_
  refine px_VpX (As := []) (rest := []) (gs := ([gB L q v f (nI k)] : List va_W)) (gc := []) ⟨hx, hb, hml, hown, hts⟩ (cJ0_lengthD l E X d hd hn) (cwV 0 hts (ws_v q1286 q768 q769 q38 q770) rfl rfl rfl hdV_J0_length_8abf5 (by rw [hR]; exact ⟨Nat.le_of_ble_eq_true rfl, Nat.le_of_ble_eq_true rfl⟩)) hK hN hX hP hD hS hA [] rfl (by decide) (px_strRecv hX hS hd) rfl hl.1 rfl (Nat.le_of_ble_eq_true rfl) dJ5_append_cf1ce_10 (by rw [hR]; exact ⟨Nat.le_of_ble_eq_true rfl, Nat.le_of_ble_eq_true rfl⟩) ?_
  refine W.eq (g2 := F0 m 13 ls [.int (nI d.2.2.1)]) rfl ?_
  refine lv_istore_n (lv' := [(2, .int (nI d.2.2.1)), (0, .ref q), (1, .ref d.1)]) hx hb dJ5_append_cf1ce_13 rfl hl (by decide) rfl (fun ls hl => ?_)
  refine lv_aload_n hx hb dJ5_append_cf1ce_14 rfl (lv_at hl 1 rfl) ?_
  refine lv_aload_n hx hb dJ5_append_cf1ce_15 rfl (lv_at hl 1 rfl) ?_
  refine va_get (D := E.1) (ci := 10) (v := .int (nI k)) (C := RJ4) (T := TJ4) (N := 4) hx hb hts iJ4 hown hK hP 0 rfl rfl 3 (by decide) (hts _ q1215) (fun _ h9 => h9) rfl dJ5_append_cf1ce_16 ?_
  refine lv_iload_n hx hb dJ5_append_cf1ce_19 rfl (lv_at hl 0 rfl) ?_
  refine lv_iadd hx hb dJ5_append_cf1ce_20 ?_
  refine W.eq (g2 := F0 m 21 ls [.int (nI (k + d.2.2.1)), .ref q]) (by rw [nI_add]) ?_
  refine px_VZ (As := [.int (nI (k + d.2.2.1))]) (rest := []) (gs := ([gB L q v f (nI k)] : List va_W)) (gr := []) (gc := ([gB L q v f (nI k)] : List va_W)) (g1 := ([gB L q v f (nI k)] : List va_W)) (g2 := ([gB L q v f (nI k)] : List va_W)) ⟨hx, hb, hml, hown, hts⟩ (c5_ensure l E X L q v f (nI k) (nI (k + d.2.2.1)) (sb_room hk)) (cw_P 1 hts q1237 q1239 (va_Nw.use rfl (hL.2.1.2.2.2 _ (List.mem_of_getElem? (i := 0) rfl))) q45 q1240 hdX_J5_ensureCapacityInternal_d00df (by rw [hR]; exact ⟨Nat.le_of_ble_eq_true rfl, Nat.le_of_ble_eq_true rfl⟩)) (px_recv (gs := ([gB L q v f (nI k)] : List va_W)) (gc := ([gB L q v f (nI k)] : List va_W)) hK hP [0] rfl 0 10 rfl rfl rfl) hK hN hX hL hP hD hS hA [] [0] [0] rfl rfl (by decide) (by decide) rfl (by decide) rfl hl.1 rfl (Nat.le_of_ble_eq_true rfl) dJ5_append_cf1ce_21 (by rw [hR]; exact ⟨Nat.le_of_ble_eq_true rfl, Nat.le_of_ble_eq_true rfl⟩) (fun H locs hP hD hS => ?_)
  refine W.eq (g2 := F0 m 24 ls []) rfl ?_
  refine lv_aload_n hx hb dJ5_append_cf1ce_24 rfl (lv_at hl 1 rfl) ?_
  refine lv_aload_n hx hb dJ5_append_cf1ce_25 rfl (lv_at hl 1 rfl) ?_
  refine va_get (D := E.1) (ci := 10) (v := .int (nI k)) (C := RJ4) (T := TJ4) (N := 4) hx hb hts iJ4 hown hK hP 0 rfl rfl 3 (by decide) (hts _ q1215) (fun _ h9 => h9) rfl dJ5_append_cf1ce_26 ?_
  refine lv_aload_n hx hb dJ5_append_cf1ce_29 rfl (lv_at hl 2 rfl) ?_
  refine px_VZ (As := [.int (nI k), .ref d.1]) (rest := []) (gs := ([gB L q v f (nI k)] : List va_W)) (gr := []) (gc := ([gB L q v f (nI k)] : List va_W)) (g1 := ([gB L q v (va_cpy d.2.2.2 f 0 k d.2.2.1) (nI k)] : List va_W)) (g2 := ([gB L q v (va_cpy d.2.2.2 f 0 k d.2.2.1) (nI k)] : List va_W)) ⟨hx, hb, hml, hown, hts⟩ (c5_putStringAt l E X L q v f (nI k) d hd hn hfd k hk) (cw_P 2 hts q1287 q1289 (va_Nw.use rfl (hL.2.1.2.2.2 _ (List.mem_of_getElem? (i := 1) rfl))) q45 q1290 hdX_J5_putStringAt_47b60 (by rw [hR]; exact ⟨Nat.le_of_ble_eq_true rfl, Nat.le_of_ble_eq_true rfl⟩)) (px_recv (gs := ([gB L q v f (nI k)] : List va_W)) (gc := ([gB L q v f (nI k)] : List va_W)) hK hP [0] rfl 0 10 rfl rfl rfl) hK hN hX hL hP hD hS hA [] [0] [0] rfl rfl (by decide) (by decide) rfl (by decide) rfl hl.1 rfl (Nat.le_of_ble_eq_true rfl) dJ5_append_cf1ce_30 (by rw [hR]; exact ⟨Nat.le_of_ble_eq_true rfl, Nat.le_of_ble_eq_true rfl⟩) (fun H locs hP hD hS => ?_)
  refine W.eq (g2 := F0 m 33 ls []) rfl ?_
  refine lv_aload_n hx hb dJ5_append_cf1ce_33 rfl (lv_at hl 1 rfl) ?_
  refine lv_dup hx hb dJ5_append_cf1ce_34 rfl ?_
  refine va_get (D := E.1) (ci := 10) (v := .int (nI k)) (C := RJ4) (T := TJ4) (N := 4) hx hb hts iJ4 hown hK hP 0 rfl rfl 3 (by decide) (hts _ q1215) (fun _ h9 => h9) rfl dJ5_append_cf1ce_35 ?_
  refine lv_iload_n hx hb dJ5_append_cf1ce_38 rfl (lv_at hl 0 rfl) ?_
  refine lv_iadd hx hb dJ5_append_cf1ce_39 ?_
  refine W.eq (g2 := F0 m 40 ls [.int (nI (k + d.2.2.1)), .ref q]) (by rw [nI_add]) ?_
  refine va_put (D := E.1) (ci := 10) (v := .int (nI (k + d.2.2.1))) (ty := .int) (C := RJ4) (T := TJ4) (N := 4) hx hb hts iJ4 tyJ4 tyJ4_ok nmJ4 hown hK hP hD hS 0 rfl rfl 3 (by decide) (hts _ q1215) (fun _ h9 => h9) rfl (tyJ4_ok 3 (by decide)) rfl rfl (Nat.le_of_ble_eq_true rfl) dJ5_append_cf1ce_40 (fun H locs hP hD hS => ?_)
  have hP : va_P E.1 vwCl ([gB L q v (va_cpy d.2.2.2 f 0 k d.2.2.1) (nI (k + d.2.2.1))] : List va_W).flatten H := hP
  have hD : va_D A ([gB L q v (va_cpy d.2.2.2 f 0 k d.2.2.1) (nI (k + d.2.2.1))] : List va_W).flatten := hD
  refine lv_aload_n hx hb dJ5_append_cf1ce_43 rfl (lv_at hl 1 rfl) ?_
  exact px_eWa (Or.inl ⟨_, rfl⟩) hA0 hQ hP hD hS hx hb hr hlocks dJ5_append_cf1ce_44
set_option maxHeartbeats 4000000 in
set_option maxRecDepth 100000 in
theorem c4_appendS (l : Launch) (E : PE) (X : PX) (L : LX) (q v k : Nat) (f : AI) (d : PS) (hd : px_In X d) (hn : d.2.2.1 < 2 ^ 31) (hfd : sb_Fit d.2.2.2) (hk : k + d.2.2.1 ≤ 16) : MZ l yJ4_append_15ec4 cJ4_append_15ec4 2 (some (.object "java/lang/StringBuilder")) { frames := 4, cells := 0, slots := 0, locals := 92 } E X L [.ref q, .ref d.1] ([gB L q v f (nI k)] : List va_W).flatten 0 0 (some (.ref q)) ([gB L q v (va_cpy d.2.2.2 f 0 k d.2.2.1) (nI (k + d.2.2.1))] : List va_W).flatten := by
  refine px_startZ (by decide +kernel) (Nat.le_of_ble_eq_true rfl) ?_
  intro p e s m args below meth c R Q A ls hC hX hL hA0 hQ
  obtain ⟨hx, hb, hr, hml, hts, hown, hlocks, hR, hK, hN, hP, hD, hA, hl, hin⟩ := hC
  have hl : lv_has ls 2 [(0, .ref q), (1, .ref d.1)] := hl
  suffices key : ∀ (H : Heap) (locs : List Loc), va_P E.1 vwCl ([gB L q v f (nI k)] : List va_W).flatten H → va_S A s.heap H locs → W p l e R s m args below meth c H locs 0 0 Q (F0 m 0 ls []) from key s.heap [] hP va_S.rf
  intro H locs hP hS
  have hKB := hL.2.1.2.2.1
  refine lv_aload_n hx hb dJ4_append_15ec4_0 rfl (lv_at hl 0 rfl) ?_
  refine lv_aload_n hx hb dJ4_append_15ec4_1 rfl (lv_at hl 1 rfl) ?_
  refine px_SUZ (As := [.ref d.1]) (rest := []) (gs := ([gB L q v f (nI k)] : List va_W)) (gr := []) (gc := ([gB L q v f (nI k)] : List va_W)) (g1 := ([gB L q v (va_cpy d.2.2.2 f 0 k d.2.2.1) (nI (k + d.2.2.1))] : List va_W)) (g2 := ([gB L q v (va_cpy d.2.2.2 f 0 k d.2.2.1) (nI (k + d.2.2.1))] : List va_W)) ⟨hx, hb, hml, hown, hts⟩ (c5_appendS l E X L q v k f d hd hn hfd hk) (va_cwSU 1 hts (ws_su q1230 (lw_in 1432 rfl rfl) (lw_in 1224 rfl rfl) q1231 q45 q1232) rfl rfl rfl hdU_J5_append_cf1ce (by rw [hR]; exact ⟨Nat.le_of_ble_eq_true rfl, Nat.le_of_ble_eq_true rfl⟩)) (px_atB hK) (px_recv (gs := ([gB L q v f (nI k)] : List va_W)) (gc := ([gB L q v f (nI k)] : List va_W)) hK hP [0] rfl 0 10 rfl rfl rfl) hK hN hX hL hP hD hS hA [] [0] [0] rfl rfl (by decide) (by decide) rfl (by decide) rfl hl.1 rfl (Nat.le_of_ble_eq_true rfl) dJ4_append_15ec4_2 (by rw [hR]; exact ⟨Nat.le_of_ble_eq_true rfl, Nat.le_of_ble_eq_true rfl⟩) (fun H locs hP hD hS => ?_)
  refine W.eq (g2 := F0 m 5 ls [.ref q]) rfl ?_
  refine lv_pop hx hb dJ4_append_15ec4_5 rfl ?_
  refine lv_aload_n hx hb dJ4_append_15ec4_6 rfl (lv_at hl 0 rfl) ?_
  exact px_eWa (Or.inl ⟨_, rfl⟩) hA0 hQ hP hD hS hx hb hr hlocks dJ4_append_15ec4_7
set_option maxHeartbeats 4000000 in
set_option maxRecDepth 100000 in
theorem c6_getChars (l : Launch) (E : PE) (X : PX) (L : LX) (v i k : Nat) (f : AI) (hk : k < 100) (hi : 1 ≤ i) (hi2 : ¬ k < 10 → 2 ≤ i) (hi3 : i ≤ 16) : MZ l yJ6_getChars_ba4f3 cJ6_getChars_ba4f3 7 (some .int) { frames := 0, cells := 0, slots := 0, locals := 0 } E X L [.int (nI k), .int (nI i), .ref v] ([gY L v 16 f] : List va_W).flatten 0 0 (some (.int (nI (gfi i k)))) ([gY L v 16 (gff L f i k)] : List va_W).flatten := by
  refine px_startZ (by decide +kernel) (Nat.le_of_ble_eq_true rfl) ?_
  intro p e s m args below meth c R Q A ls hC hX hL hA0 hQ
  obtain ⟨hx, hb, hr, hml, hts, hown, hlocks, hR, hK, hN, hP, hD, hA, hl, hin⟩ := hC
  have hl : lv_has ls 7 [(0, .int (nI k)), (1, .int (nI i)), (2, .ref v)] := hl
  suffices key : ∀ (H : Heap) (locs : List Loc), va_P E.1 vwCl ([gY L v 16 f] : List va_W).flatten H → va_S A s.heap H locs → W p l e R s m args below meth c H locs 0 0 Q (F0 m 0 ls []) from key s.heap [] hP va_S.rf
  intro H locs hP hS
  have hKB := hL.2.1.2.2.1
  refine lv_iload_n hx hb dJ6_getChars_ba4f3_0 rfl (lv_at hl 1 rfl) ?_
  refine lv_istore (lv' := [(5, .int (nI i)), (0, .int (nI k)), (1, .int (nI i)), (2, .ref v)]) hx hb dJ6_getChars_ba4f3_1 hl (by decide) rfl (fun ls hl => ?_)
  refine lv_iload_n hx hb dJ6_getChars_ba4f3_3 rfl (lv_at hl 1 rfl) ?_
  refine lv_if_ge (tgt := 11) hx hb dJ6_getChars_ba4f3_4 (by decide) (fun _ => ?_) (fun c => absurd (nI_pos' (by omega)) c)
  refine lv_iconst (v := 0) hx hb dJ6_getChars_ba4f3_11 (by decide) ?_
  refine lv_istore (lv' := [(6, .int 0), (5, .int (nI i)), (0, .int (nI k)), (1, .int (nI i)), (2, .ref v)]) hx hb dJ6_getChars_ba4f3_12 hl (by decide) rfl (fun ls hl => ?_)
  refine lv_iload hx hb dJ6_getChars_ba4f3_14 (lv_at hl 0 rfl) ?_
  refine lv_if_ne (tgt := 22) hx hb dJ6_getChars_ba4f3_16 (by decide) (fun c => absurd rfl c) (fun _ => ?_)
  refine lv_iload_n hx hb dJ6_getChars_ba4f3_19 rfl (lv_at hl 2 rfl) ?_
  refine lv_ineg hx hb dJ6_getChars_ba4f3_20 ?_
  refine lv_istore_n (lv' := [(0, .int (-nI k)), (6, .int 0), (5, .int (nI i)), (1, .int (nI i)), (2, .ref v)]) hx hb dJ6_getChars_ba4f3_21 rfl hl (by decide) rfl (fun ls hl => ?_)
  refine lv_iload_n hx hb dJ6_getChars_ba4f3_22 rfl (lv_at hl 0 rfl) ?_
  refine lv_bipush (v := -100) hx hb dJ6_getChars_ba4f3_23 (by decide) ?_
  refine lv_icmp_gt (tgt := 72) hx hb dJ6_getChars_ba4f3_25 (by decide) (fun _ => ?_) (fun c => absurd (gc_lt hk) c)
  refine lv_aload_n hx hb dJ6_getChars_ba4f3_72 rfl (lv_at hl 4 rfl) ?_
  refine lv_iinc (v := nI (i - 1)) (lv' := [(5, .int (nI (i - 1))), (0, .int (-nI k)), (6, .int 0), (1, .int (nI i)), (2, .ref v)]) hx hb dJ6_getChars_ba4f3_73 hl (k := 2) rfl (nJ_m1' hi (by omega)) (by decide) rfl (fun ls hl => ?_)
  refine lv_iload hx hb dJ6_getChars_ba4f3_76 (lv_at hl 0 rfl) ?_
  refine va_gets (C := "java/lang/Integer") hx hb hL.2.1.1.1 hS hown (hts _ q1334) (fun _ h => h) dJ6_getChars_ba4f3_78 ?_
  refine lv_iload_n hx hb dJ6_getChars_ba4f3_81 rfl (lv_at hl 1 rfl) ?_
  refine lv_ineg hx hb dJ6_getChars_ba4f3_82 ?_
  refine W.eq (g2 := F0 m 83 ls [.int (nI k), .ref L.2.1.1, .int (nI (i - 1)), .ref v]) (by rw [Int32.neg_neg]) ?_
  refine va_tb (v := .int (L.2.1.2 k)) hx hb hL.2.1.1.2 hS (vp_in_nI hk (by decide)) (by rw [nI_clamp (by omega)]) dJ6_getChars_ba4f3_83 ?_
  refine va_bast (f := f) hx hb hKB hP hD hS 0 3 rfl rfl (vp_in_nI (show i - 1 < 16 by omega) (by decide)) dJ6_getChars_ba4f3_84 (fun H locs hP hD hS => ?_)
  rw [nI_clamp (show i - 1 < 2 ^ 31 by omega)] at hP hD
  have hP : va_P E.1 vwCl ([gY L v 16 (upd f (i - 1) (vp_nar .byte (L.2.1.2 k)))] : List va_W).flatten H := hP
  have hD : va_D A ([gY L v 16 (upd f (i - 1) (vp_nar .byte (L.2.1.2 k)))] : List va_W).flatten := hD
  refine lv_iload_n hx hb dJ6_getChars_ba4f3_85 rfl (lv_at hl 1 rfl) ?_
  refine lv_bipush (v := -9) hx hb dJ6_getChars_ba4f3_86 (by decide) ?_
  by_cases h9 : k < 10
  · refine lv_icmp_ge (tgt := 104) hx hb dJ6_getChars_ba4f3_88 (by decide) (fun _ => ?_) (fun c => absurd (gc_ge h9) c)
    refine lv_iload hx hb dJ6_getChars_ba4f3_104 (lv_at hl 2 rfl) ?_
    refine lv_if_eq (tgt := 118) hx hb dJ6_getChars_ba4f3_106 (by decide) (fun _ => ?_) (fun c => absurd rfl c)
    refine lv_iload hx hb dJ6_getChars_ba4f3_118 (lv_at hl 0 rfl) ?_
    rw [show gfi i k = i - 1 from if_pos h9, show gff L f i k = (upd f (i - 1) (vp_nar .byte (L.2.1.2 k))) from if_pos h9] at hQ
    exact px_eWi hA0 hQ hP hD hS hx hb hr hlocks dJ6_getChars_ba4f3_120
  · refine lv_icmp_ge (tgt := 104) hx hb dJ6_getChars_ba4f3_88 (by decide) (fun c => absurd c (gc_nge h9 hk)) (fun _ => ?_)
    refine lv_aload_n hx hb dJ6_getChars_ba4f3_91 rfl (lv_at hl 4 rfl) ?_
    refine lv_iinc (v := nI (i - 2)) (lv' := [(5, .int (nI (i - 2))), (0, .int (-nI k)), (6, .int 0), (1, .int (nI i)), (2, .ref v)]) hx hb dJ6_getChars_ba4f3_92 hl (k := 0) rfl (nJ_m1' (a := i - 1) (by have := hi2 h9; omega) (by omega)) (by decide) rfl (fun ls hl => ?_)
    refine lv_iload hx hb dJ6_getChars_ba4f3_95 (lv_at hl 0 rfl) ?_
    refine va_gets (C := "java/lang/Integer") hx hb hL.2.1.2.1.1 hS hown (hts _ q1336) (fun _ h => h) dJ6_getChars_ba4f3_97 ?_
    refine lv_iload_n hx hb dJ6_getChars_ba4f3_100 rfl (lv_at hl 1 rfl) ?_
    refine lv_ineg hx hb dJ6_getChars_ba4f3_101 ?_
    refine W.eq (g2 := F0 m 102 ls [.int (nI k), .ref L.2.2.1.1, .int (nI (i - 2)), .ref v]) (by rw [Int32.neg_neg]) ?_
    refine va_tb (v := .int (L.2.2.1.2 k)) hx hb hL.2.1.2.1.2 hS (vp_in_nI hk (by decide)) (by rw [nI_clamp (by omega)]) dJ6_getChars_ba4f3_102 ?_
    refine va_bast (f := (upd f (i - 1) (vp_nar .byte (L.2.1.2 k)))) hx hb hKB hP hD hS 0 3 rfl rfl (vp_in_nI (show i - 2 < 16 by omega) (by decide)) dJ6_getChars_ba4f3_103 (fun H locs hP hD hS => ?_)
    rw [nI_clamp (show i - 2 < 2 ^ 31 by omega)] at hP hD
    have hP : va_P E.1 vwCl ([gY L v 16 (upd (upd f (i - 1) (vp_nar .byte (L.2.1.2 k))) (i - 2) (vp_nar .byte (L.2.2.1.2 k)))] : List va_W).flatten H := hP
    have hD : va_D A ([gY L v 16 (upd (upd f (i - 1) (vp_nar .byte (L.2.1.2 k))) (i - 2) (vp_nar .byte (L.2.2.1.2 k)))] : List va_W).flatten := hD
    refine lv_iload hx hb dJ6_getChars_ba4f3_104 (lv_at hl 2 rfl) ?_
    refine lv_if_eq (tgt := 118) hx hb dJ6_getChars_ba4f3_106 (by decide) (fun _ => ?_) (fun c => absurd rfl c)
    refine lv_iload hx hb dJ6_getChars_ba4f3_118 (lv_at hl 0 rfl) ?_
    rw [show gfi i k = i - 2 from if_neg h9, show gff L f i k = (upd (upd f (i - 1) (vp_nar .byte (L.2.1.2 k))) (i - 2) (vp_nar .byte (L.2.2.1.2 k))) from if_neg h9] at hQ
    exact px_eWi hA0 hQ hP hD hS hx hb hr hlocks dJ6_getChars_ba4f3_120
set_option maxHeartbeats 4000000 in
set_option maxRecDepth 100000 in
theorem c5_appendI (l : Launch) (E : PE) (X : PX) (L : LX) (q v k x : Nat) (f : AI) (hx9 : x < 100) (hk : k + dgs x ≤ 16) : MZ l yJ5_append_c97b9 cJ5_append_c97b9 4 (some (.object "java/lang/AbstractStringBuilder")) { frames := 1, cells := 0, slots := 0, locals := 30 } E X L [.ref q, .int (nI x)] ([gB L q v f (nI k)] : List va_W).flatten 0 0 (some (.ref q)) ([gB L q v (gff L f (k + dgs x) x) (nI (k + dgs x))] : List va_W).flatten := by
  refine px_startZ (by decide +kernel) (Nat.le_of_ble_eq_true rfl) ?_
  intro p e s m args below meth c R Q A ls hC hX hL hA0 hQ
  obtain ⟨hx, hb, hr, hml, hts, hown, hlocks, hR, hK, hN, hP, hD, hA, hl, hin⟩ := hC
  have hl : lv_has ls 4 [(0, .ref q), (1, .int (nI x))] := hl
  suffices key : ∀ (H : Heap) (locs : List Loc), va_P E.1 vwCl ([gB L q v f (nI k)] : List va_W).flatten H → va_S A s.heap H locs → W p l e R s m args below meth c H locs 0 0 Q (F0 m 0 ls []) from key s.heap [] hP va_S.rf
  intro H locs hP hS
  have hKB := hL.2.1.2.2.1
  refine lv_aload_n hx hb dJ5_append_c97b9_0 rfl (lv_at hl 0 rfl) ?_
  refine va_get (D := E.1) (ci := 10) (v := .int (nI k)) (C := RJ4) (T := TJ4) (N := 4) hx hb hts iJ4 hown hK hP 0 rfl rfl 3 (by decide) (hts _ q1215) (fun _ h9 => h9) rfl dJ5_append_c97b9_1 ?_
  refine lv_istore_n (lv' := [(2, .int (nI k)), (0, .ref q), (1, .int (nI x))]) hx hb dJ5_append_c97b9_4 rfl hl (by decide) rfl (fun ls hl => ?_)
  refine lv_iload_n hx hb dJ5_append_c97b9_5 rfl (lv_at hl 0 rfl) ?_
  refine lv_iload_n hx hb dJ5_append_c97b9_6 rfl (lv_at hl 2 rfl) ?_
  refine px_Sp (As := [.int (nI x)]) (rest := [.int (nI k)]) (gs := ([gB L q v f (nI k)] : List va_W)) (gc := []) ⟨hx, hb, hml, hown, hts⟩ (cJ6_stringSize l E x hx9) (va_cwS 1 hts (ws_s q1328 q1329 q37 q1330) rfl rfl rfl hdS_J6_stringSize_0f7a4 (by rw [hR]; exact ⟨Nat.le_of_ble_eq_true rfl, Nat.le_of_ble_eq_true rfl⟩)) hK hN hP hD [] rfl (by decide) rfl hl.1 rfl (Nat.le_of_ble_eq_true rfl) dJ5_append_c97b9_7 (by rw [hR]; exact ⟨Nat.le_of_ble_eq_true rfl, Nat.le_of_ble_eq_true rfl⟩) ?_
  refine W.eq (g2 := F0 m 10 ls [.int (nI (dgs x)), .int (nI k)]) rfl ?_
  refine lv_iadd hx hb dJ5_append_c97b9_10 ?_
  refine W.eq (g2 := F0 m 11 ls [.int (nI (k + dgs x))]) (by rw [nI_add]) ?_
  refine lv_istore_n (lv' := [(3, .int (nI (k + dgs x))), (2, .int (nI k)), (0, .ref q), (1, .int (nI x))]) hx hb dJ5_append_c97b9_11 rfl hl (by decide) rfl (fun ls hl => ?_)
  refine lv_aload_n hx hb dJ5_append_c97b9_12 rfl (lv_at hl 2 rfl) ?_
  refine lv_iload_n hx hb dJ5_append_c97b9_13 rfl (lv_at hl 0 rfl) ?_
  refine px_VZ (As := [.int (nI (k + dgs x))]) (rest := []) (gs := ([gB L q v f (nI k)] : List va_W)) (gr := []) (gc := ([gB L q v f (nI k)] : List va_W)) (g1 := ([gB L q v f (nI k)] : List va_W)) (g2 := ([gB L q v f (nI k)] : List va_W)) ⟨hx, hb, hml, hown, hts⟩ (c5_ensure l E X L q v f (nI k) (nI (k + dgs x)) (sb_room hk)) (cw_P 1 hts q1237 q1239 (va_Nw.use rfl (hL.2.1.2.2.2 _ (List.mem_of_getElem? (i := 0) rfl))) q45 q1240 hdX_J5_ensureCapacityInternal_d00df (by rw [hR]; exact ⟨Nat.le_of_ble_eq_true rfl, Nat.le_of_ble_eq_true rfl⟩)) (px_recv (gs := ([gB L q v f (nI k)] : List va_W)) (gc := ([gB L q v f (nI k)] : List va_W)) hK hP [0] rfl 0 10 rfl rfl rfl) hK hN hX hL hP hD hS hA [] [0] [0] rfl rfl (by decide) (by decide) rfl (by decide) rfl hl.1 rfl (Nat.le_of_ble_eq_true rfl) dJ5_append_c97b9_14 (by rw [hR]; exact ⟨Nat.le_of_ble_eq_true rfl, Nat.le_of_ble_eq_true rfl⟩) (fun H locs hP hD hS => ?_)
  refine W.eq (g2 := F0 m 17 ls []) rfl ?_
  refine lv_aload_n hx hb dJ5_append_c97b9_17 rfl (lv_at hl 2 rfl) ?_
  refine px_VZ (As := []) (rest := []) (gs := ([gB L q v f (nI k)] : List va_W)) (gr := []) (gc := ([gB L q v f (nI k)] : List va_W)) (g1 := ([gB L q v f (nI k)] : List va_W)) (g2 := ([gB L q v f (nI k)] : List va_W)) ⟨hx, hb, hml, hown, hts⟩ (c5_isLatin1 l E X L q v f (nI k)) (cw_V 0 hts q1266 q1267 q1269 q45 q1270 hdX_J5_isLatin1_aae02 (by rw [hR]; exact ⟨Nat.le_of_ble_eq_true rfl, Nat.le_of_ble_eq_true rfl⟩)) (px_recv (gs := ([gB L q v f (nI k)] : List va_W)) (gc := ([gB L q v f (nI k)] : List va_W)) hK hP [0] rfl 0 10 rfl rfl rfl) hK hN hX hL hP hD hS hA [] [0] [0] rfl rfl (by decide) (by decide) rfl (by decide) rfl hl.1 rfl (Nat.le_of_ble_eq_true rfl) dJ5_append_c97b9_18 (by rw [hR]; exact ⟨Nat.le_of_ble_eq_true rfl, Nat.le_of_ble_eq_true rfl⟩) (fun H locs hP hD hS => ?_)
  refine W.eq (g2 := F0 m 21 ls [.int (b2i true)]) rfl ?_
  refine lv_if_eq (tgt := 37) hx hb dJ5_append_c97b9_21 (by decide) (fun c => absurd c (by decide)) (fun _ => ?_)
  refine lv_iload_n hx hb dJ5_append_c97b9_24 rfl (lv_at hl 3 rfl) ?_
  refine lv_iload_n hx hb dJ5_append_c97b9_25 rfl (lv_at hl 0 rfl) ?_
  refine lv_aload_n hx hb dJ5_append_c97b9_26 rfl (lv_at hl 2 rfl) ?_
  refine va_get (D := E.1) (ci := 10) (v := .ref v) (C := RJ4) (T := TJ4) (N := 4) hx hb hts iJ4 hown hK hP 0 rfl rfl 0 (by decide) (hts _ q1212) (fun _ h9 => h9) rfl dJ5_append_c97b9_27 ?_
  have hP : va_P E.1 vwCl ([gBo L q v (nI k), gY L v 16 f] : List va_W).flatten H := hP
  have hD : va_D A ([gBo L q v (nI k), gY L v 16 f] : List va_W).flatten := hD
  refine px_SZ (As := [.int (nI x), .int (nI (k + dgs x)), .ref v]) (rest := []) (gs := ([gBo L q v (nI k), gY L v 16 f] : List va_W)) (gr := ([gBo L q v (nI k)] : List va_W)) (gc := ([gY L v 16 f] : List va_W)) (g1 := ([gY L v 16 (gff L f (k + dgs x) x)] : List va_W)) (g2 := ([gBo L q v (nI k), gY L v 16 (gff L f (k + dgs x) x)] : List va_W)) ⟨hx, hb, hml, hown, hts⟩ (c6_getChars l E X L v (k + dgs x) x f hx9 (dgs_1 k) (dgs_2 k) hk) (va_cwS 3 hts (ws_s q1331 q1332 q37 q1333) rfl rfl rfl hdS_J6_getChars_ba4f3 (by rw [hR]; exact ⟨Nat.le_of_ble_eq_true rfl, Nat.le_of_ble_eq_true rfl⟩)) hK hN hX hL hP hD hS hA [0] [1] [0, 1] rfl rfl (by decide) (by decide) rfl (by decide) rfl hl.1 rfl (Nat.le_of_ble_eq_true rfl) dJ5_append_c97b9_30 (by rw [hR]; exact ⟨Nat.le_of_ble_eq_true rfl, Nat.le_of_ble_eq_true rfl⟩) (fun H locs hP hD hS => ?_)
  refine W.eq (g2 := F0 m 33 ls [.int (nI (gfi (k + dgs x) x))]) rfl ?_
  have hP : va_P E.1 vwCl ([gB L q v (gff L f (k + dgs x) x) (nI k)] : List va_W).flatten H := hP
  have hD : va_D A ([gB L q v (gff L f (k + dgs x) x) (nI k)] : List va_W).flatten := hD
  refine lv_pop hx hb dJ5_append_c97b9_33 rfl ?_
  refine lv_goto (tgt := 48) hx hb dJ5_append_c97b9_34 (by decide) ?_
  refine lv_aload_n hx hb dJ5_append_c97b9_48 rfl (lv_at hl 2 rfl) ?_
  refine lv_iload_n hx hb dJ5_append_c97b9_49 rfl (lv_at hl 0 rfl) ?_
  refine va_put (D := E.1) (ci := 10) (v := .int (nI (k + dgs x))) (ty := .int) (C := RJ4) (T := TJ4) (N := 4) hx hb hts iJ4 tyJ4 tyJ4_ok nmJ4 hown hK hP hD hS 0 rfl rfl 3 (by decide) (hts _ q1215) (fun _ h9 => h9) rfl (tyJ4_ok 3 (by decide)) rfl rfl (Nat.le_of_ble_eq_true rfl) dJ5_append_c97b9_50 (fun H locs hP hD hS => ?_)
  have hP : va_P E.1 vwCl ([gB L q v (gff L f (k + dgs x) x) (nI (k + dgs x))] : List va_W).flatten H := hP
  have hD : va_D A ([gB L q v (gff L f (k + dgs x) x) (nI (k + dgs x))] : List va_W).flatten := hD
  refine lv_aload_n hx hb dJ5_append_c97b9_53 rfl (lv_at hl 2 rfl) ?_
  exact px_eWa (Or.inl ⟨_, rfl⟩) hA0 hQ hP hD hS hx hb hr hlocks dJ5_append_c97b9_54
set_option maxHeartbeats 4000000 in
set_option maxRecDepth 100000 in
theorem c4_appendI (l : Launch) (E : PE) (X : PX) (L : LX) (q v k x : Nat) (f : AI) (hx9 : x < 100) (hk : k + dgs x ≤ 16) : MZ l yJ4_append_bf812 cJ4_append_bf812 2 (some (.object "java/lang/StringBuilder")) { frames := 2, cells := 0, slots := 0, locals := 54 } E X L [.ref q, .int (nI x)] ([gB L q v f (nI k)] : List va_W).flatten 0 0 (some (.ref q)) ([gB L q v (gff L f (k + dgs x) x) (nI (k + dgs x))] : List va_W).flatten := by
  refine px_startZ (by decide +kernel) (Nat.le_of_ble_eq_true rfl) ?_
  intro p e s m args below meth c R Q A ls hC hX hL hA0 hQ
  obtain ⟨hx, hb, hr, hml, hts, hown, hlocks, hR, hK, hN, hP, hD, hA, hl, hin⟩ := hC
  have hl : lv_has ls 2 [(0, .ref q), (1, .int (nI x))] := hl
  suffices key : ∀ (H : Heap) (locs : List Loc), va_P E.1 vwCl ([gB L q v f (nI k)] : List va_W).flatten H → va_S A s.heap H locs → W p l e R s m args below meth c H locs 0 0 Q (F0 m 0 ls []) from key s.heap [] hP va_S.rf
  intro H locs hP hS
  have hKB := hL.2.1.2.2.1
  refine lv_aload_n hx hb dJ4_append_bf812_0 rfl (lv_at hl 0 rfl) ?_
  refine lv_iload_n hx hb dJ4_append_bf812_1 rfl (lv_at hl 1 rfl) ?_
  refine px_SUZ (As := [.int (nI x)]) (rest := []) (gs := ([gB L q v f (nI k)] : List va_W)) (gr := []) (gc := ([gB L q v f (nI k)] : List va_W)) (g1 := ([gB L q v (gff L f (k + dgs x) x) (nI (k + dgs x))] : List va_W)) (g2 := ([gB L q v (gff L f (k + dgs x) x) (nI (k + dgs x))] : List va_W)) ⟨hx, hb, hml, hown, hts⟩ (c5_appendI l E X L q v k x f hx9 hk) (va_cwSU 1 hts (ws_su q1325 (lw_in 1439 rfl rfl) (lw_in 1224 rfl rfl) q1326 q45 q1327) rfl rfl rfl hdU_J5_append_c97b9 (by rw [hR]; exact ⟨Nat.le_of_ble_eq_true rfl, Nat.le_of_ble_eq_true rfl⟩)) (px_atB hK) (px_recv (gs := ([gB L q v f (nI k)] : List va_W)) (gc := ([gB L q v f (nI k)] : List va_W)) hK hP [0] rfl 0 10 rfl rfl rfl) hK hN hX hL hP hD hS hA [] [0] [0] rfl rfl (by decide) (by decide) rfl (by decide) rfl hl.1 rfl (Nat.le_of_ble_eq_true rfl) dJ4_append_bf812_2 (by rw [hR]; exact ⟨Nat.le_of_ble_eq_true rfl, Nat.le_of_ble_eq_true rfl⟩) (fun H locs hP hD hS => ?_)
  refine W.eq (g2 := F0 m 5 ls [.ref q]) rfl ?_
  refine lv_pop hx hb dJ4_append_bf812_5 rfl ?_
  refine lv_aload_n hx hb dJ4_append_bf812_6 rfl (lv_at hl 0 rfl) ?_
  exact px_eWa (Or.inl ⟨_, rfl⟩) hA0 hQ hP hD hS hx hb hr hlocks dJ4_append_bf812_7
set_option maxHeartbeats 4000000 in
set_option maxRecDepth 100000 in
theorem c5_binit (l : Launch) (E : PE) (X : PX) (L : LX) (q : Nat) : MEZ l yJ5_init_d00df cJ5_init_d00df 2 none { frames := 1, cells := 1, slots := 16, locals := 12 } E X L [.ref q, .int (nI 16)] ([gOb q 10 [.null, .int 0, .int 0, .int 0]] : List va_W).flatten 1 16 (fun _ => none) (fun _ v => [gB L q v (fun _ => 0) 0]) := by
  refine px_startE (by decide +kernel) (Nat.le_of_ble_eq_true rfl) ?_
  intro p e s m args below meth c R Q A ls hC hX hL hA0 hQ
  obtain ⟨hx, hb, hr, hml, hts, hown, hlocks, hR, hK, hN, hP, hD, hA, hl, hin⟩ := hC
  have hl : lv_has ls 2 [(0, .ref q), (1, .int (nI 16))] := hl
  suffices key : ∀ (H : Heap) (locs : List Loc), va_P E.1 vwCl ([gOb q 10 [.null, .int 0, .int 0, .int 0]] : List va_W).flatten H → va_S A s.heap H locs → W p l e R s m args below meth c H locs 0 0 Q (F0 m 0 ls []) from key s.heap [] hP va_S.rf
  intro H locs hP hS
  have hKB := hL.2.1.2.2.1
  have hin : meth.name = "<init>" := hin
  refine lv_aload_n hx hb dJ5_init_d00df_0 rfl (lv_at hl 0 rfl) ?_
  refine W.objInit hx hb hown (hts _ q1203) (hts _ q55) (hts _ q56) rfl (by rw [hml]; exact hl.1) rfl dJ5_init_d00df_1 (by rw [hR]; exact Nat.le_of_ble_eq_true rfl) (by rw [hR]; exact Nat.le_of_ble_eq_true rfl) ?_
  refine W.eq (g2 := F0 m 4 ls []) rfl ?_
  refine va_gets (C := "java/lang/String") hx hb hX.2.2.1 hS hown (hts _ q1204) (fun _ h => h) dJ5_init_d00df_4 ?_
  refine lv_if_eq (tgt := 25) hx hb dJ5_init_d00df_7 (by decide) (fun c => absurd c (by decide)) (fun _ => ?_)
  refine lv_aload_n hx hb dJ5_init_d00df_10 rfl (lv_at hl 0 rfl) ?_
  refine lv_iload_n hx hb dJ5_init_d00df_11 rfl (lv_at hl 1 rfl) ?_
  refine px_newY (gs := ([gOb q 10 [.null, .int 0, .int 0, .int 0]] : List va_W)) (N := 16) hx hb (hts _ q423) hK hKB hP hD hS hA (by decide) (by decide) (by decide) (by rw [hR]; exact Nat.le_of_ble_eq_true rfl) (by rw [hR]; exact Nat.le_of_ble_eq_true rfl) dJ5_init_d00df_12 (fun v H hP hD hS => ?_)
  have hP : va_P E.1 vwCl ([gOb q 10 [.null, .int 0, .int 0, .int 0], gY L v 16 (fun _ => 0)] : List va_W).flatten H := hP
  have hD : va_D A ([gOb q 10 [.null, .int 0, .int 0, .int 0], gY L v 16 (fun _ => 0)] : List va_W).flatten := hD
  refine va_put (D := E.1) (ci := 10) (v := .ref v) (ty := (tyJ4 0)) (C := RJ4) (T := TJ4) (N := 4) hx hb hts iJ4 tyJ4 tyJ4_ok nmJ4 hown hK hP hD hS 0 rfl rfl 0 (by decide) (hts _ q1212) (fun _ h9 => h9) rfl (tyJ4_ok 0 (by decide)) rfl rfl (Nat.le_of_ble_eq_true rfl) dJ5_init_d00df_14 (fun H locs hP hD hS => ?_)
  have hP : va_P E.1 vwCl ([gOb q 10 [.ref v, .int 0, .int 0, .int 0], gY L v 16 (fun _ => 0)] : List va_W).flatten H := hP
  have hD : va_D A ([gOb q 10 [.ref v, .int 0, .int 0, .int 0], gY L v 16 (fun _ => 0)] : List va_W).flatten := hD
  refine lv_aload_n hx hb dJ5_init_d00df_17 rfl (lv_at hl 0 rfl) ?_
  refine lv_iconst (v := 0) hx hb dJ5_init_d00df_18 (by decide) ?_
  refine va_put (D := E.1) (ci := 10) (v := .int 0) (ty := (tyJ4 1)) (C := RJ4) (T := TJ4) (N := 4) hx hb hts iJ4 tyJ4 tyJ4_ok nmJ4 hown hK hP hD hS 0 rfl rfl 1 (by decide) (hts _ q1213) (fun _ h9 => h9) rfl (tyJ4_ok 1 (by decide)) rfl rfl (Nat.le_of_ble_eq_true rfl) dJ5_init_d00df_19 (fun H locs hP hD hS => ?_)
  have hP : va_P E.1 vwCl ([gB L q v (fun _ => 0) 0] : List va_W).flatten H := hP
  have hD : va_D A ([gB L q v (fun _ => 0) 0] : List va_W).flatten := hD
  refine lv_goto (tgt := 38) hx hb dJ5_init_d00df_22 (by decide) ?_
  exact px_eEv q v rfl hA0 hQ hP hD hS hx hb hr hlocks dJ5_init_d00df_38
set_option maxHeartbeats 4000000 in
set_option maxRecDepth 100000 in
theorem c4_binit (l : Launch) (E : PE) (X : PX) (L : LX) (q : Nat) : MEZ l yJ4_init_da8c8 cJ4_init_da8c8 1 none { frames := 2, cells := 1, slots := 16, locals := 33 } E X L [.ref q] ([gOb q 10 [.null, .int 0, .int 0, .int 0]] : List va_W).flatten 1 16 (fun _ => none) (fun _ v => [gB L q v (fun _ => 0) 0]) := by
  refine px_startE (by decide +kernel) (Nat.le_of_ble_eq_true rfl) ?_
  intro p e s m args below meth c R Q A ls hC hX hL hA0 hQ
  obtain ⟨hx, hb, hr, hml, hts, hown, hlocks, hR, hK, hN, hP, hD, hA, hl, hin⟩ := hC
  have hl : lv_has ls 1 [(0, .ref q)] := hl
  suffices key : ∀ (H : Heap) (locs : List Loc), va_P E.1 vwCl ([gOb q 10 [.null, .int 0, .int 0, .int 0]] : List va_W).flatten H → va_S A s.heap H locs → W p l e R s m args below meth c H locs 0 0 Q (F0 m 0 ls []) from key s.heap [] hP va_S.rf
  intro H locs hP hS
  have hKB := hL.2.1.2.2.1
  refine lv_aload_n hx hb dJ4_init_da8c8_0 rfl (lv_at hl 0 rfl) ?_
  refine lv_bipush (v := (nI 16)) hx hb dJ4_init_da8c8_1 (by decide) ?_
  refine px_IEZ (As := [.int (nI 16)]) (rest := []) (gs := ([gOb q 10 [.null, .int 0, .int 0, .int 0]] : List va_W)) (gr := ([] : List va_W)) (gc := ([gOb q 10 [.null, .int 0, .int 0, .int 0]] : List va_W)) ⟨hx, hb, hml, hown, hts⟩ (c5_binit l E X L q) (cwI 1 hts (ws_g q1202) rfl rfl rfl (hts _ q45) (hts _ q1200) (hts _ q1201) rfl hdI_J5_init_d00df (by rw [hR]; exact ⟨Nat.le_of_ble_eq_true rfl, Nat.le_of_ble_eq_true rfl⟩)) hK hN hX hL hP hD hS hA [] [0] rfl rfl (by decide) (by decide) rfl hl.1 rfl (Nat.le_of_ble_eq_true rfl) dJ4_init_da8c8_3 (by rw [hR]; exact ⟨Nat.le_of_ble_eq_true rfl, Nat.le_of_ble_eq_true rfl⟩) (fun r v H locs hP hD hS => ?_)
  refine W.eq (g2 := F0 m 6 ls []) rfl ?_
  have hP : va_P E.1 vwCl ([gB L q v (fun _ => 0) 0] : List va_W).flatten H := hP
  have hD : va_D A ([gB L q v (fun _ => 0) 0] : List va_W).flatten := hD
  exact px_eEv q v rfl hA0 hQ hP hD hS hx hb hr hlocks dJ4_init_da8c8_6
set_option maxHeartbeats 4000000 in
set_option maxRecDepth 100000 in
theorem c7_checkLength (l : Launch) (E : PE) (X : PX) (L : LX) (k : Nat) (hk : k ≤ 16) : MZ l yJ7_checkLength_df160 cJ7_checkLength_df160 2 none { frames := 0, cells := 0, slots := 0, locals := 0 } E X L [.int 0, .int (nI k)] ([] : List va_W).flatten 0 0 none ([] : List va_W).flatten := by
  refine px_startZ (by decide +kernel) (Nat.le_of_ble_eq_true rfl) ?_
  intro p e s m args below meth c R Q A ls hC hX hL hA0 hQ
  obtain ⟨hx, hb, hr, hml, hts, hown, hlocks, hR, hK, hN, hP, hD, hA, hl, hin⟩ := hC
  have hl : lv_has ls 2 [(0, .int 0), (1, .int (nI k))] := hl
  suffices key : ∀ (H : Heap) (locs : List Loc), va_P E.1 vwCl ([] : List va_W).flatten H → va_S A s.heap H locs → W p l e R s m args below meth c H locs 0 0 Q (F0 m 0 ls []) from key s.heap [] hP va_S.rf
  intro H locs hP hS
  have hKB := hL.2.1.2.2.1
  refine lv_iload_n hx hb dJ7_checkLength_df160_0 rfl (lv_at hl 1 rfl) ?_
  refine lv_iload_n hx hb dJ7_checkLength_df160_1 rfl (lv_at hl 0 rfl) ?_
  refine lv_icmp_ge (tgt := 37) hx hb dJ7_checkLength_df160_2 (by decide) (fun _ => ?_) (fun c => absurd (nI_pos9 hk) c)
  exact px_eWv hA0 hQ hP hD hS hx hb hr hlocks dJ7_checkLength_df160_37
set_option maxHeartbeats 4000000 in
set_option maxRecDepth 100000 in
theorem c7_corB (l : Launch) (E : PE) (X : PX) (L : LX) (v k : Nat) (f : AI) (hk : k ≤ 16) (hf : sb_Fit f) : MEZ l yJ7_copyOfRangeByte_39247 cJ7_copyOfRangeByte_39247 5 (some (.array .byte)) { frames := 1, cells := 1, slots := 16, locals := 30 } E X L [.ref v, .int 0, .int (nI k)] ([gY L v 16 f] : List va_W).flatten 1 16 (fun r => some (.ref r)) (fun r _ => [gY L v 16 f, gY L r k (va_cpy f (fun _ => 0) 0 0 k)]) := by
  refine px_startE (by decide +kernel) (Nat.le_of_ble_eq_true rfl) ?_
  intro p e s m args below meth c R Q A ls hC hX hL hA0 hQ
  obtain ⟨hx, hb, hr, hml, hts, hown, hlocks, hR, hK, hN, hP, hD, hA, hl, hin⟩ := hC
  have hl : lv_has ls 5 [(0, .ref v), (1, .int 0), (2, .int (nI k))] := hl
  suffices key : ∀ (H : Heap) (locs : List Loc), va_P E.1 vwCl ([gY L v 16 f] : List va_W).flatten H → va_S A s.heap H locs → W p l e R s m args below meth c H locs 0 0 Q (F0 m 0 ls []) from key s.heap [] hP va_S.rf
  intro H locs hP hS
  have hKB := hL.2.1.2.2.1
  refine lv_iload_n hx hb dJ7_copyOfRangeByte_39247_0 rfl (lv_at hl 1 rfl) ?_
  refine lv_iload_n hx hb dJ7_copyOfRangeByte_39247_1 rfl (lv_at hl 2 rfl) ?_
  refine px_SZ (As := [.int 0, .int (nI k)]) (rest := []) (gs := ([gY L v 16 f] : List va_W)) (gr := ([gY L v 16 f] : List va_W)) (gc := []) (g1 := []) (g2 := ([gY L v 16 f] : List va_W)) ⟨hx, hb, hml, hown, hts⟩ (c7_checkLength l E X L k hk) (va_cwS 2 hts (ws_s q1382 q1383 q48 q1384) rfl rfl rfl hdS_J7_checkLength_df160 (by rw [hR]; exact ⟨Nat.le_of_ble_eq_true rfl, Nat.le_of_ble_eq_true rfl⟩)) hK hN hX hL hP hD hS hA [0] [] [0] rfl rfl (by decide) (by decide) rfl (by decide) rfl hl.1 rfl (Nat.le_of_ble_eq_true rfl) dJ7_copyOfRangeByte_39247_2 (by rw [hR]; exact ⟨Nat.le_of_ble_eq_true rfl, Nat.le_of_ble_eq_true rfl⟩) (fun H locs hP hD hS => ?_)
  refine W.eq (g2 := F0 m 5 ls []) rfl ?_
  refine lv_iload_n hx hb dJ7_copyOfRangeByte_39247_5 rfl (lv_at hl 2 rfl) ?_
  refine lv_iload_n hx hb dJ7_copyOfRangeByte_39247_6 rfl (lv_at hl 1 rfl) ?_
  refine lv_isub hx hb dJ7_copyOfRangeByte_39247_7 ?_
  refine W.eq (g2 := F0 m 8 ls [.int (nI k)]) (by rw [Int32.sub_zero]) ?_
  refine lv_istore_n (lv' := [(3, .int (nI k)), (0, .ref v), (1, .int 0), (2, .int (nI k))]) hx hb dJ7_copyOfRangeByte_39247_8 rfl hl (by decide) rfl (fun ls hl => ?_)
  refine lv_iload_n hx hb dJ7_copyOfRangeByte_39247_9 rfl (lv_at hl 0 rfl) ?_
  have hc1 : (nI k).toNatClampNeg = k := nI_clamp (by omega)
  refine px_newY (gs := ([gY L v 16 f] : List va_W)) (N := k) hx hb (hts _ q423) hK hKB hP hD hS hA (nI_pos (by omega)) hc1 (by omega) (by rw [hR]; exact Nat.le_of_ble_eq_true rfl) (by rw [hR]; show 0 + k ≤ 16; omega) dJ7_copyOfRangeByte_39247_10 (fun r H hP hD hS => ?_)
  have hP : va_P E.1 vwCl ([gY L v 16 f, gY L r k (fun _ => 0)] : List va_W).flatten H := hP
  have hD : va_D A ([gY L v 16 f, gY L r k (fun _ => 0)] : List va_W).flatten := hD
  refine lv_astore (lv' := [(4, .ref r), (3, .int (nI k)), (0, .ref v), (1, .int 0), (2, .int (nI k))]) hx hb dJ7_copyOfRangeByte_39247_12 hl (by decide) rfl (fun ls hl => ?_)
  refine lv_aload_n hx hb dJ7_copyOfRangeByte_39247_14 rfl (lv_at hl 2 rfl) ?_
  refine lv_iload_n hx hb dJ7_copyOfRangeByte_39247_15 rfl (lv_at hl 3 rfl) ?_
  refine lv_aload hx hb dJ7_copyOfRangeByte_39247_16 (lv_at hl 0 rfl) ?_
  refine lv_iconst (v := 0) hx hb dJ7_copyOfRangeByte_39247_18 (by decide) ?_
  refine lv_aload_n hx hb dJ7_copyOfRangeByte_39247_19 rfl (lv_at hl 2 rfl) ?_
  refine va_alen (v := nI 16) hx hb hKB hP 0 3 rfl rfl rfl dJ7_copyOfRangeByte_39247_20 ?_
  refine lv_iload_n hx hb dJ7_copyOfRangeByte_39247_21 rfl (lv_at hl 3 rfl) ?_
  refine lv_isub hx hb dJ7_copyOfRangeByte_39247_22 ?_
  refine W.eq (g2 := F0 m 23 ls [.int (nI 16), .int 0, .ref r, .int 0, .ref v]) (by rw [Int32.sub_zero]) ?_
  refine lv_iload_n hx hb dJ7_copyOfRangeByte_39247_23 rfl (lv_at hl 1 rfl) ?_
  refine va_mmin hx hb (hml.trans hl.1.symm) hown (hts _ q1264) (hts _ q352) (hts _ q32) (hts _ q353) (by rw [hR]; first | exact Nat.le_of_ble_eq_true rfl | (dsimp only; omega)) (by rw [hR]; first | exact Nat.le_of_ble_eq_true rfl | (dsimp only; omega)) (by rw [hR]; first | exact Nat.le_of_ble_eq_true rfl | (dsimp only; omega)) (by rw [hR]; first | exact Nat.le_of_ble_eq_true rfl | (dsimp only; omega)) dJ7_copyOfRangeByte_39247_24 ?_
  refine W.eq (g2 := F0 m 27 ls [.int (nI k), .int 0, .ref r, .int 0, .ref v]) (by rw [min_k hk]) ?_
  refine va_copyi (f := f) (g := fun _ => 0) (ty := .byte) hx hb (hml.trans hl.1.symm) hown (hts _ q1265) (hts _ q262) (hts _ q261) (hts _ q31) hKB hP hD hS 0 1 3 3 rfl rfl rfl rfl rfl (by decide) (by decide) (nI_pos (by omega)) (by rw [sb_cl0, hc1]; omega) (by rw [sb_cl0, hc1]; omega) (fun i _ => hf _) (by rw [hR]; exact Nat.le_of_ble_eq_true rfl) (by rw [hR]; exact Nat.le_of_ble_eq_true rfl) dJ7_copyOfRangeByte_39247_27 (fun H locs hP hD hS => ?_)
  rw [sb_cl0, hc1] at hP hD
  have hP : va_P E.1 vwCl ([gY L v 16 f, gY L r k (va_cpy f (fun _ => 0) 0 0 k)] : List va_W).flatten H := hP
  have hD : va_D A ([gY L v 16 f, gY L r k (va_cpy f (fun _ => 0) 0 0 k)] : List va_W).flatten := hD
  refine lv_aload hx hb dJ7_copyOfRangeByte_39247_30 (lv_at hl 0 rfl) ?_
  refine W.widen (k := 1) (n := 16) (by decide) (by omega) ?_
  exact px_eEa r r rfl (Or.inr ⟨_, rfl⟩) hA0 hQ hP hD hS hx hb hr hlocks dJ7_copyOfRangeByte_39247_32
set_option maxHeartbeats 4000000 in
set_option maxRecDepth 100000 in
theorem c7_cor (l : Launch) (E : PE) (X : PX) (L : LX) (v k : Nat) (f : AI) (hk : k < 16) (hf : sb_Fit f) : MEZ l yJ7_copyOfRange_39247 cJ7_copyOfRange_39247 3 (some (.array .byte)) { frames := 2, cells := 1, slots := 16, locals := 54 } E X L [.ref v, .int 0, .int (nI k)] ([gY L v 16 f] : List va_W).flatten 1 16 (fun r => some (.ref r)) (fun r _ => [gY L v 16 f, gY L r k (va_cpy f (fun _ => 0) 0 0 k)]) := by
  refine px_startE (by decide +kernel) (Nat.le_of_ble_eq_true rfl) ?_
  intro p e s m args below meth c R Q A ls hC hX hL hA0 hQ
  obtain ⟨hx, hb, hr, hml, hts, hown, hlocks, hR, hK, hN, hP, hD, hA, hl, hin⟩ := hC
  have hl : lv_has ls 3 [(0, .ref v), (1, .int 0), (2, .int (nI k))] := hl
  suffices key : ∀ (H : Heap) (locs : List Loc), va_P E.1 vwCl ([gY L v 16 f] : List va_W).flatten H → va_S A s.heap H locs → W p l e R s m args below meth c H locs 0 0 Q (F0 m 0 ls []) from key s.heap [] hP va_S.rf
  intro H locs hP hS
  have hKB := hL.2.1.2.2.1
  refine lv_iload_n hx hb dJ7_copyOfRange_39247_0 rfl (lv_at hl 1 rfl) ?_
  refine lv_if_ne (tgt := 10) hx hb dJ7_copyOfRange_39247_1 (by decide) (fun c => absurd rfl c) (fun _ => ?_)
  refine lv_iload_n hx hb dJ7_copyOfRange_39247_4 rfl (lv_at hl 2 rfl) ?_
  refine lv_aload_n hx hb dJ7_copyOfRange_39247_5 rfl (lv_at hl 0 rfl) ?_
  refine va_alen (v := nI 16) hx hb hKB hP 0 3 rfl rfl rfl dJ7_copyOfRange_39247_6 ?_
  refine lv_icmp_eq (tgt := 17) hx hb dJ7_copyOfRange_39247_7 (by decide) (fun c => absurd c (ne_16 hk)) (fun _ => ?_)
  refine lv_aload_n hx hb dJ7_copyOfRange_39247_10 rfl (lv_at hl 0 rfl) ?_
  refine lv_iload_n hx hb dJ7_copyOfRange_39247_11 rfl (lv_at hl 1 rfl) ?_
  refine lv_iload_n hx hb dJ7_copyOfRange_39247_12 rfl (lv_at hl 2 rfl) ?_
  refine px_SEZ (As := [.ref v, .int 0, .int (nI k)]) (rest := []) (gs := ([gY L v 16 f] : List va_W)) (gr := ([] : List va_W)) (gc := ([gY L v 16 f] : List va_W)) ⟨hx, hb, hml, hown, hts⟩ (c7_corB l E X L v k f (by omega) hf) (va_cwS 3 hts (ws_s q1379 q1380 q48 q1381) rfl rfl rfl hdS_J7_copyOfRangeByte_39247 (by rw [hR]; exact ⟨Nat.le_of_ble_eq_true rfl, Nat.le_of_ble_eq_true rfl⟩)) hK hN hX hL hP hD hS hA [] [0] rfl rfl (by decide) (by decide) rfl hl.1 rfl (Nat.le_of_ble_eq_true rfl) dJ7_copyOfRange_39247_13 (by rw [hR]; exact ⟨Nat.le_of_ble_eq_true rfl, Nat.le_of_ble_eq_true rfl⟩) (fun r v9 H locs hP hD hS => ?_)
  refine W.eq (g2 := F0 m 16 ls [.ref r]) rfl ?_
  have hP : va_P E.1 vwCl ([gY L v 16 f, gY L r k (va_cpy f (fun _ => 0) 0 0 k)] : List va_W).flatten H := hP
  have hD : va_D A ([gY L v 16 f, gY L r k (va_cpy f (fun _ => 0) 0 0 k)] : List va_W).flatten := hD
  exact px_eEa r r rfl (Or.inr ⟨_, rfl⟩) hA0 hQ hP hD hS hx hb hr hlocks dJ7_copyOfRange_39247_16
set_option maxHeartbeats 4000000 in
set_option maxRecDepth 100000 in
theorem c0_initA (l : Launch) (E : PE) (X : PX) (L : LX) (t q v k : Nat) (f : AI) (hk : k < 16) (hf : sb_Fit f) : MEZ l yJ0_init_db425 cJ0_init_db425 5 none { frames := 3, cells := 1, slots := 16, locals := 76 } E X L [.ref t, .ref q, .null] ([gOb t 9 [.null, .int 0, .int 0, .int 0], gB L q v f (nI k)] : List va_W).flatten 1 16 (fun _ => none) (fun _ r => [gS L t r k (va_cpy f (fun _ => 0) 0 0 k), gB L q v f (nI k)]) := by
  refine px_startE (by decide +kernel) (Nat.le_of_ble_eq_true rfl) ?_
  intro p e s m args below meth c R Q A ls hC hX hL hA0 hQ
  obtain ⟨hx, hb, hr, hml, hts, hown, hlocks, hR, hK, hN, hP, hD, hA, hl, hin⟩ := hC
  have hl : lv_has ls 5 [(0, .ref t), (1, .ref q), (2, .null)] := hl
  suffices key : ∀ (H : Heap) (locs : List Loc), va_P E.1 vwCl ([gOb t 9 [.null, .int 0, .int 0, .int 0], gB L q v f (nI k)] : List va_W).flatten H → va_S A s.heap H locs → W p l e R s m args below meth c H locs 0 0 Q (F0 m 0 ls []) from key s.heap [] hP va_S.rf
  intro H locs hP hS
  have hKB := hL.2.1.2.2.1
  have hin : meth.name = "<init>" := hin
  refine lv_aload_n hx hb dJ0_init_db425_0 rfl (lv_at hl 0 rfl) ?_
  refine W.objInit hx hb hown (hts _ q1361) (hts _ q55) (hts _ q56) rfl (by rw [hml]; exact hl.1) rfl dJ0_init_db425_1 (by rw [hR]; exact Nat.le_of_ble_eq_true rfl) (by rw [hR]; exact Nat.le_of_ble_eq_true rfl) ?_
  refine W.eq (g2 := F0 m 4 ls []) rfl ?_
  refine lv_aload_n hx hb dJ0_init_db425_4 rfl (lv_at hl 1 rfl) ?_
  refine px_VZ (As := []) (rest := []) (gs := ([gOb t 9 [.null, .int 0, .int 0, .int 0], gB L q v f (nI k)] : List va_W)) (gr := ([gOb t 9 [.null, .int 0, .int 0, .int 0]] : List va_W)) (gc := ([gB L q v f (nI k)] : List va_W)) (g1 := ([gB L q v f (nI k)] : List va_W)) (g2 := ([gOb t 9 [.null, .int 0, .int 0, .int 0], gB L q v f (nI k)] : List va_W)) ⟨hx, hb, hml, hown, hts⟩ (c5_getValue l E X L q v f (nI k)) (cw_V 0 hts q1362 q1363 q1365 q45 q1366 hdX_J5_getValue_6d5f1 (by rw [hR]; exact ⟨Nat.le_of_ble_eq_true rfl, Nat.le_of_ble_eq_true rfl⟩)) (px_recv (gs := ([gOb t 9 [.null, .int 0, .int 0, .int 0], gB L q v f (nI k)] : List va_W)) (gc := ([gB L q v f (nI k)] : List va_W)) hK hP [1] rfl 0 10 rfl rfl rfl) hK hN hX hL hP hD hS hA [0] [1] [0, 1] rfl rfl (by decide) (by decide) rfl (by decide) rfl hl.1 rfl (Nat.le_of_ble_eq_true rfl) dJ0_init_db425_5 (by rw [hR]; exact ⟨Nat.le_of_ble_eq_true rfl, Nat.le_of_ble_eq_true rfl⟩) (fun H locs hP hD hS => ?_)
  refine W.eq (g2 := F0 m 8 ls [.ref v]) rfl ?_
  refine lv_astore_n (lv' := [(3, .ref v), (0, .ref t), (1, .ref q), (2, .null)]) hx hb dJ0_init_db425_8 rfl hl (by decide) rfl (fun ls hl => ?_)
  refine lv_aload_n hx hb dJ0_init_db425_9 rfl (lv_at hl 2 rfl) ?_
  refine px_UZ (As := []) (rest := []) (gs := ([gOb t 9 [.null, .int 0, .int 0, .int 0], gB L q v f (nI k)] : List va_W)) (gr := ([gOb t 9 [.null, .int 0, .int 0, .int 0]] : List va_W)) (gc := ([gB L q v f (nI k)] : List va_W)) (g1 := ([gB L q v f (nI k)] : List va_W)) (g2 := ([gOb t 9 [.null, .int 0, .int 0, .int 0], gB L q v f (nI k)] : List va_W)) ⟨hx, hb, hml, hown, hts⟩ (c4_length l E X L q v f (nI k)) (va_cwO 0 hts (ws_o q1367 (lw_in 1369 rfl rfl) q1368 q1370 q1371 q46 q1372) rfl rfl rfl q1374 hdO_len (by rw [hR]; exact ⟨Nat.le_of_ble_eq_true rfl, Nat.le_of_ble_eq_true rfl⟩)) (px_recv (gs := ([gOb t 9 [.null, .int 0, .int 0, .int 0], gB L q v f (nI k)] : List va_W)) (gc := ([gB L q v f (nI k)] : List va_W)) hK hP [1] rfl 0 10 rfl rfl rfl) hK hN hX hL hP hD hS hA [0] [1] [0, 1] rfl rfl (by decide) (by decide) rfl (by decide) rfl hl.1 rfl (Nat.le_of_ble_eq_true rfl) dJ0_init_db425_10 (by rw [hR]; exact ⟨Nat.le_of_ble_eq_true rfl, Nat.le_of_ble_eq_true rfl⟩) (fun H locs hP hD hS => ?_)
  refine W.eq (g2 := F0 m 13 ls [.int (nI k)]) rfl ?_
  refine lv_istore (lv' := [(4, .int (nI k)), (3, .ref v), (0, .ref t), (1, .ref q), (2, .null)]) hx hb dJ0_init_db425_13 hl (by decide) rfl (fun ls hl => ?_)
  refine lv_aload_n hx hb dJ0_init_db425_15 rfl (lv_at hl 3 rfl) ?_
  refine px_VZ (As := []) (rest := []) (gs := ([gOb t 9 [.null, .int 0, .int 0, .int 0], gB L q v f (nI k)] : List va_W)) (gr := ([gOb t 9 [.null, .int 0, .int 0, .int 0]] : List va_W)) (gc := ([gB L q v f (nI k)] : List va_W)) (g1 := ([gB L q v f (nI k)] : List va_W)) (g2 := ([gOb t 9 [.null, .int 0, .int 0, .int 0], gB L q v f (nI k)] : List va_W)) ⟨hx, hb, hml, hown, hts⟩ (c5_isLatin1 l E X L q v f (nI k)) (cw_V 0 hts q1375 q1267 q1269 q45 q1270 hdX_J5_isLatin1_aae02 (by rw [hR]; exact ⟨Nat.le_of_ble_eq_true rfl, Nat.le_of_ble_eq_true rfl⟩)) (px_recv (gs := ([gOb t 9 [.null, .int 0, .int 0, .int 0], gB L q v f (nI k)] : List va_W)) (gc := ([gB L q v f (nI k)] : List va_W)) hK hP [1] rfl 0 10 rfl rfl rfl) hK hN hX hL hP hD hS hA [0] [1] [0, 1] rfl rfl (by decide) (by decide) rfl (by decide) rfl hl.1 rfl (Nat.le_of_ble_eq_true rfl) dJ0_init_db425_16 (by rw [hR]; exact ⟨Nat.le_of_ble_eq_true rfl, Nat.le_of_ble_eq_true rfl⟩) (fun H locs hP hD hS => ?_)
  refine W.eq (g2 := F0 m 19 ls [.int (b2i true)]) rfl ?_
  refine lv_if_eq (tgt := 41) hx hb dJ0_init_db425_19 (by decide) (fun c => absurd c (by decide)) (fun _ => ?_)
  refine lv_aload_n hx hb dJ0_init_db425_22 rfl (lv_at hl 2 rfl) ?_
  refine lv_iconst (v := 0) hx hb dJ0_init_db425_23 (by decide) ?_
  refine va_putF (D := E.1) (ci := 9) (v := .int 0) (ty := tyJ0 1) (C := RJ0) (T := TJ0) (N := 4) hx hb hts iJ0 tyJ0 tyJ0_ok nmJ0 hown hK hP hD hS 0 rfl rfl 1 (by decide) (hts _ q1404) (fun _ h9 => h9) rfl hin rfl (tyJ0_ok 1 (by decide)) rfl rfl (Nat.le_of_ble_eq_true rfl) dJ0_init_db425_24 (fun H locs hP hD hS => ?_)
  have hP : va_P E.1 vwCl ([gOb t 9 [.null, .int 0, .int 0, .int 0], gB L q v f (nI k)] : List va_W).flatten H := hP
  have hD : va_D A ([gOb t 9 [.null, .int 0, .int 0, .int 0], gB L q v f (nI k)] : List va_W).flatten := hD
  refine lv_aload_n hx hb dJ0_init_db425_27 rfl (lv_at hl 2 rfl) ?_
  refine lv_aload_n hx hb dJ0_init_db425_28 rfl (lv_at hl 1 rfl) ?_
  refine lv_iconst (v := 0) hx hb dJ0_init_db425_29 (by decide) ?_
  refine lv_iload hx hb dJ0_init_db425_30 (lv_at hl 0 rfl) ?_
  have hP : va_P E.1 vwCl ([gOb t 9 [.null, .int 0, .int 0, .int 0], gBo L q v (nI k), gY L v 16 f] : List va_W).flatten H := hP
  have hD : va_D A ([gOb t 9 [.null, .int 0, .int 0, .int 0], gBo L q v (nI k), gY L v 16 f] : List va_W).flatten := hD
  refine px_SEZ (As := [.ref v, .int 0, .int (nI k)]) (rest := [.ref t]) (gs := ([gOb t 9 [.null, .int 0, .int 0, .int 0], gBo L q v (nI k), gY L v 16 f] : List va_W)) (gr := ([gOb t 9 [.null, .int 0, .int 0, .int 0], gBo L q v (nI k)] : List va_W)) (gc := ([gY L v 16 f] : List va_W)) ⟨hx, hb, hml, hown, hts⟩ (c7_cor l E X L v k f hk hf) (va_cwS 3 hts (ws_s q1376 q1377 q48 q1378) rfl rfl rfl hdS_J7_copyOfRange_39247 (by rw [hR]; exact ⟨Nat.le_of_ble_eq_true rfl, Nat.le_of_ble_eq_true rfl⟩)) hK hN hX hL hP hD hS hA [0, 1] [2] rfl rfl (by decide) (by decide) rfl hl.1 rfl (Nat.le_of_ble_eq_true rfl) dJ0_init_db425_32 (by rw [hR]; exact ⟨Nat.le_of_ble_eq_true rfl, Nat.le_of_ble_eq_true rfl⟩) (fun r v9 H locs hP hD hS => ?_)
  refine W.eq (g2 := F0 m 35 ls [.ref r, .ref t]) rfl ?_
  have hP : va_P E.1 vwCl ([gOb t 9 [.null, .int 0, .int 0, .int 0], gBo L q v (nI k), gY L v 16 f, gY L r k (va_cpy f (fun _ => 0) 0 0 k)] : List va_W).flatten H := hP
  have hD : va_D A ([gOb t 9 [.null, .int 0, .int 0, .int 0], gBo L q v (nI k), gY L v 16 f, gY L r k (va_cpy f (fun _ => 0) 0 0 k)] : List va_W).flatten := hD
  refine va_putF (D := E.1) (ci := 9) (v := .ref r) (ty := tyJ0 0) (C := RJ0) (T := TJ0) (N := 4) hx hb hts iJ0 tyJ0 tyJ0_ok nmJ0 hown hK hP hD hS 0 rfl rfl 0 (by decide) (hts _ q1403) (fun _ h9 => h9) rfl hin rfl (tyJ0_ok 0 (by decide)) rfl rfl (Nat.le_of_ble_eq_true rfl) dJ0_init_db425_35 (fun H locs hP hD hS => ?_)
  have hP : va_P E.1 vwCl ([gOb t 9 [.ref r, .int 0, .int 0, .int 0], gBo L q v (nI k), gY L v 16 f, gY L r k (va_cpy f (fun _ => 0) 0 0 k)] : List va_W).flatten H := hP
  have hD : va_D A ([gOb t 9 [.ref r, .int 0, .int 0, .int 0], gBo L q v (nI k), gY L v 16 f, gY L r k (va_cpy f (fun _ => 0) 0 0 k)] : List va_W).flatten := hD
  have hP := g_P (gs' := ([gOb t 9 [.ref r, .int 0, .int 0, .int 0], gY L r k (va_cpy f (fun _ => 0) 0 0 k), gBo L q v (nI k), gY L v 16 f] : List va_W)) hP [0, 3, 1, 2] rfl
  have hD := g_D (gs' := ([gOb t 9 [.ref r, .int 0, .int 0, .int 0], gY L r k (va_cpy f (fun _ => 0) 0 0 k), gBo L q v (nI k), gY L v 16 f] : List va_W)) hD [0, 3, 1, 2] (by decide) rfl
  have hP : va_P E.1 vwCl ([gS L t r k (va_cpy f (fun _ => 0) 0 0 k), gB L q v f (nI k)] : List va_W).flatten H := hP
  have hD : va_D A ([gS L t r k (va_cpy f (fun _ => 0) 0 0 k), gB L q v f (nI k)] : List va_W).flatten := hD
  refine lv_goto (tgt := 97) hx hb dJ0_init_db425_38 (by decide) ?_
  exact px_eEv t r rfl hA0 hQ hP hD hS hx hb hr hlocks dJ0_init_db425_97
set_option maxHeartbeats 4000000 in
set_option maxRecDepth 100000 in
theorem c0_initB (l : Launch) (E : PE) (X : PX) (L : LX) (t q v k : Nat) (f : AI) (hk : k < 16) (hf : sb_Fit f) : MEZ l yJ0_init_81219 cJ0_init_81219 2 none { frames := 4, cells := 1, slots := 16, locals := 100 } E X L [.ref t, .ref q] ([gOb t 9 [.null, .int 0, .int 0, .int 0], gB L q v f (nI k)] : List va_W).flatten 1 16 (fun _ => none) (fun _ r => [gS L t r k (va_cpy f (fun _ => 0) 0 0 k), gB L q v f (nI k)]) := by
  refine px_startE (by decide +kernel) (Nat.le_of_ble_eq_true rfl) ?_
  intro p e s m args below meth c R Q A ls hC hX hL hA0 hQ
  obtain ⟨hx, hb, hr, hml, hts, hown, hlocks, hR, hK, hN, hP, hD, hA, hl, hin⟩ := hC
  have hl : lv_has ls 2 [(0, .ref t), (1, .ref q)] := hl
  suffices key : ∀ (H : Heap) (locs : List Loc), va_P E.1 vwCl ([gOb t 9 [.null, .int 0, .int 0, .int 0], gB L q v f (nI k)] : List va_W).flatten H → va_S A s.heap H locs → W p l e R s m args below meth c H locs 0 0 Q (F0 m 0 ls []) from key s.heap [] hP va_S.rf
  intro H locs hP hS
  have hKB := hL.2.1.2.2.1
  refine lv_aload_n hx hb dJ0_init_81219_0 rfl (lv_at hl 0 rfl) ?_
  refine lv_aload_n hx hb dJ0_init_81219_1 rfl (lv_at hl 1 rfl) ?_
  refine lv_null hx hb dJ0_init_81219_2 ?_
  refine px_IEZ (As := [.ref q, .null]) (rest := []) (gs := ([gOb t 9 [.null, .int 0, .int 0, .int 0], gB L q v f (nI k)] : List va_W)) (gr := ([] : List va_W)) (gc := ([gOb t 9 [.null, .int 0, .int 0, .int 0], gB L q v f (nI k)] : List va_W)) ⟨hx, hb, hml, hown, hts⟩ (c0_initA l E X L t q v k f hk hf) (cwI 2 hts (ws_g q1360) rfl rfl rfl (hts _ q38) (hts _ q1358) (hts _ q1359) rfl hdI_J0_init_db425 (by rw [hR]; exact ⟨Nat.le_of_ble_eq_true rfl, Nat.le_of_ble_eq_true rfl⟩)) hK hN hX hL hP hD hS hA [] [0, 1] rfl rfl (by decide) (by decide) rfl hl.1 rfl (Nat.le_of_ble_eq_true rfl) dJ0_init_81219_3 (by rw [hR]; exact ⟨Nat.le_of_ble_eq_true rfl, Nat.le_of_ble_eq_true rfl⟩) (fun r v9 H locs hP hD hS => ?_)
  refine W.eq (g2 := F0 m 6 ls []) rfl ?_
  have hP : va_P E.1 vwCl ([gS L t v9 k (va_cpy f (fun _ => 0) 0 0 k), gB L q v f (nI k)] : List va_W).flatten H := hP
  have hD : va_D A ([gS L t v9 k (va_cpy f (fun _ => 0) 0 0 k), gB L q v f (nI k)] : List va_W).flatten := hD
  exact px_eEv t v9 rfl hA0 hQ hP hD hS hx hb hr hlocks dJ0_init_81219_6
set_option maxHeartbeats 4000000 in
set_option maxRecDepth 100000 in
theorem c4_toString (l : Launch) (E : PE) (X : PX) (L : LX) (q v k : Nat) (f : AI) (hk : k < 16) (hf : sb_Fit f) : MEZ l yJ4_toString_0e30d cJ4_toString_0e30d 1 (some (.object "java/lang/String")) { frames := 5, cells := 2, slots := 20, locals := 125 } E X L [.ref q] ([gB L q v f (nI k)] : List va_W).flatten 2 20 (fun t => some (.ref t)) (fun t r => [gS L t r k (va_cpy f (fun _ => 0) 0 0 k), gB L q v f (nI k)]) := by
  refine px_startE (by decide +kernel) (Nat.le_of_ble_eq_true rfl) ?_
  intro p e s m args below meth c R Q A ls hC hX hL hA0 hQ
  obtain ⟨hx, hb, hr, hml, hts, hown, hlocks, hR, hK, hN, hP, hD, hA, hl, hin⟩ := hC
  have hl : lv_has ls 1 [(0, .ref q)] := hl
  suffices key : ∀ (H : Heap) (locs : List Loc), va_P E.1 vwCl ([gB L q v f (nI k)] : List va_W).flatten H → va_S A s.heap H locs → W p l e R s m args below meth c H locs 0 0 Q (F0 m 0 ls []) from key s.heap [] hP va_S.rf
  intro H locs hP hS
  have hKB := hL.2.1.2.2.1
  refine px_new (gs := ([gB L q v f (nI k)] : List va_W)) (ci := 9) (fs := [.null, .int 0, .int 0, .int 0]) (C := RJ0) (T := TJ0) (N := 4) hx hb hts iJ0 tyJ0 tyJ0_ok hown (hts _ q1353) (hts _ q1354) (hts _ q38) hK hP hD hS hA rfl (fun j hj => by rcases (show j = 0 ∨ j = 1 ∨ j = 2 ∨ j = 3 by omega) with rfl | rfl | rfl | rfl <;> rfl) (by rw [hR]; exact Nat.le_of_ble_eq_true rfl) (by rw [hR]; exact Nat.le_of_ble_eq_true rfl) dJ4_toString_0e30d_0 (fun t H hP hD hS => ?_)
  have hP : va_P E.1 vwCl ([gB L q v f (nI k), gOb t 9 [.null, .int 0, .int 0, .int 0]] : List va_W).flatten H := hP
  have hD : va_D A ([gB L q v f (nI k), gOb t 9 [.null, .int 0, .int 0, .int 0]] : List va_W).flatten := hD
  refine lv_dup hx hb dJ4_toString_0e30d_3 rfl ?_
  refine lv_aload_n hx hb dJ4_toString_0e30d_4 rfl (lv_at hl 0 rfl) ?_
  refine px_IEZ (As := [.ref q]) (rest := [.ref t]) (gs := ([gB L q v f (nI k), gOb t 9 [.null, .int 0, .int 0, .int 0]] : List va_W)) (gr := ([] : List va_W)) (gc := ([gOb t 9 [.null, .int 0, .int 0, .int 0], gB L q v f (nI k)] : List va_W)) ⟨hx, hb, hml, hown, hts⟩ (c0_initB l E X L t q v k f hk hf) (cwI 1 hts (ws_g q1357) rfl rfl rfl (hts _ q38) (hts _ q1355) (hts _ q1356) rfl hdI_J0_init_81219 (by rw [hR]; exact ⟨Nat.le_of_ble_eq_true rfl, Nat.le_of_ble_eq_true rfl⟩)) hK hN hX hL hP hD hS hA [] [1, 0] rfl rfl (by decide) (by decide) rfl hl.1 rfl (Nat.le_of_ble_eq_true rfl) dJ4_toString_0e30d_5 (by rw [hR]; exact ⟨Nat.le_of_ble_eq_true rfl, Nat.le_of_ble_eq_true rfl⟩) (fun r v9 H locs hP hD hS => ?_)
  refine W.eq (g2 := F0 m 8 ls [.ref t]) rfl ?_
  have hP : va_P E.1 vwCl ([gS L t v9 k (va_cpy f (fun _ => 0) 0 0 k), gB L q v f (nI k)] : List va_W).flatten H := hP
  have hD : va_D A ([gS L t v9 k (va_cpy f (fun _ => 0) 0 0 k), gB L q v f (nI k)] : List va_W).flatten := hD
  exact px_eEa t v9 rfl (Or.inl ⟨_, rfl⟩) hA0 hQ hP hD hS hx hb hr hlocks dJ4_toString_0e30d_8
