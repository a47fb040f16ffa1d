theorem hdI_X8_init : yX8_init.cls ≠ "java/lang/invoke/MethodHandle" ∧ yX8_init.cls ≠ "java/lang/invoke/VarHandle" ∧ (parseMethodDescriptor yX8_init.desc).map (fun d => d.parameters.length) = some 0 := by decide +kernel
/-! THE CLAIM OUT OF ONE WALK OF THE LAW'S BODY. Your part is whole_start (and what it stands on); all else here is the same for every law, but numbers. -/
def R_law : String := "RecipeForestsLaw"
def lw_P (b : Addr) (xs : List Int32) (args : Array Value) (s : State) : Prop := args = #[.ref b] ∧ s.IntsAt b xs ∧ xs.length ≤ 260 ∧ (Jvm.Cond.and given_1 narrow_1).before args s = true
/-- what a walk over the start with the record d0 says of its end, said of the start itself -/
theorem lw_closed {s t : State} {o : Outcome} {d0 : Drawn} {L : List Loc} {k n : Nat} (hd0 : s.drawn.sameBut d0 lw_cs) (hv : ∃ v, o = .returned v) (hW : (s.setDrawn d0).WarmedH t.vm) (hs : (s.setDrawn d0).sameButNew ({ t with vm := s.vm } : State) L k n) : State.butDraws s t lw_cs (fun t1 => Framed s o t1 L k n) := by
  have h2 : t.drawn = d0 := congrArg State.drawn hs.1
  refine ⟨⟨hv, hW, State.sameButNew.setDrawn hs s.drawn⟩, ?_, by decide⟩
  rw [h2]
  exact hd0
def lw_Q (_ : Array Value) (s : State) (o : Outcome) (t : State) : Prop := o = .returned (some (.int 1)) ∧ State.butDraws s t lw_cs (fun t1 => Framed s o t1 [] 977054 6170461)
def lw_Z (below : List Frame) (a : Array Value) (s : State) : State → Prop := fun t => ∃ o, t.status = .running ∧ Ended t below o ∧ lw_Q a s o t
/-- the law's own end, with 1 on the stack, nothing written that was there before, its room as the claim has it; d0: the record of draws at this point (at the entry s.drawn: begin with 'refine W.base ?_' and 'have hd0 := Drawn.sameBut.refl s.drawn lw_cs') -/
theorem lw_ret {p : Program} {l : Launch} {e : Env} {s : State} {m : MethodId} {below : List Frame} {meth : Method} {c : Code} {b : Nat} {d0 : Drawn} (hd0 : s.drawn.sameBut d0 lw_cs) (hx : p.tables.exec = Jvm.exec) (hb : c.code = code) (hr : meth.sig.returnType = ret) (hlocks : meth.locks = false) {pc : Nat} {H : Heap} {ls : Array Slot} (hdg : decode code pc = .ok (.ireturn, 1)) : W p l e room_1 (s.setDrawn d0) m #[Value.ref b] below meth c H [] 977054 6170461 (lw_Z below #[Value.ref b] s) (F0 m pc ls [.int 1]) := by
  intro T hT X
  obtain ⟨fs, hret, hrun, hended, hW, hframe⟩ := X.leave (v := some (.int 1)) (hlocks := hlocks) (fun h => by rw [hr] at h; cases h)
  have hmeth' : T.vm.method? m = some meth := X.method'
  refine ⟨T.setFrames fs, ?_, .returned (some (.int 1)), hrun, hended, rfl, lw_closed hd0 ⟨_, rfl⟩ hW hframe⟩
  jvm_step X.here [X.here.top, hx, hb, hdg, hmeth', hr, ret, narrow_b1]
  (try refine ⟨rfl, ?_⟩); (try refine ⟨rfl, ?_⟩)
  first | (intro acts; rw [hret _ acts rfl rfl rfl]) | rw [hret _ _ rfl rfl rfl]
  exact Steps.refl _
/-- what holds at the law's entry: the machine, the code, the tables' words (any of lw_tbl by 'hts w (by decide +kernel)'), the script of L ints xs at the cell b, what the Statement gives of the start (any of its parts by flat_of_before) -/
def lw_At (p : Program) (s : State) (m : MethodId) (meth : Method) (c : Code) (b L : Nat) (xs : Nat → Int32) : Prop :=
  p.tables.exec = Jvm.exec ∧ c.code = code ∧ meth.sig.returnType = ret ∧ c.maxLocals = 11 ∧ s.vm.findClass R_law = some m.cls ∧ (∀ w ∈ lw_tbl, w.before #[Value.ref b] s = true) ∧ va_X b L xs s s.heap ∧ b < s.heap.size ∧ meth.locks = false ∧ (Jvm.Cond.and given_1 narrow_1).before #[Value.ref b] s = true
-- ===== YOUR PART BEGINS =====
set_option maxHeartbeats 8000000 in
set_option maxRecDepth 100000 in
/-- YOUR PART: from the entry, for every script of at most 260 ints, the law comes to its end with true ('hflags': the launch's flags, for a law that throws: no stack traces) -/
theorem whole_start {p : Program} {e : Env} {s : State} {m : MethodId} {below : List Frame} {meth : Method} {c : Code} (l : Launch) (hflags : l.flags = flags0) {b L : Nat} {xs : Nat → Int32} (hL : L ≤ 260) (C0 : lw_At p s m meth c b L xs) : W p l e room_1 s m #[Value.ref b] below meth c s.heap [] 0 0 (lw_Z below #[Value.ref b] s) (entryFrame m ([Value.ref b] : List Value).toArray 11) := by
  obtain ⟨hx, hb, hr, hml, hown, hts0, hXs, hbl, hlocks, hgv⟩ := C0
  have hb : c.code = cL_law := hb
  have hts : ∀ w ∈ lw_all, w.before #[Value.ref b] s = true := fun w hw => hts0 w (lw_all_tbl hw)
  have hlt : l.stackTraces = false := by unfold Launch.stackTraces; rw [hflags]; decide +kernel
  have hown : s.vm.findClass RL = some m.cls := hown
  have hAO : va_AO "RecipeForests$Forest" s := va_AO.of (hts0 _ st_ao)
  obtain ⟨E, aB, aL, hK, hKB, hKL⟩ := st_K hts hAO
  have hN : px_N s := fun w hw => va_Nw.of rfl (hts0 _ (st_nest w hw))
  have hAn : ∀ a : Nat, a < s.heap.size → ¬ (fun q : Nat => s.heap.size ≤ q) a := fun a h q => Nat.not_lt.mpr q h
  obtain ⟨X, hX⟩ := st_X (A := fun q : Nat => s.heap.size ≤ q) hAn hts0 hgv
  obtain ⟨aO, aT, hO, hT⟩ := st_dig (A := fun q : Nat => s.heap.size ≤ q) hAn hts0 hgv
  have hLL : ∃ Lx : LX, Lx = ((b, L, xs), (aO, dO), (aT, dT), aB) := ⟨_, rfl⟩
  obtain ⟨Lx, eL⟩ := hLL
  have hL9 : px_L E Lx (fun q : Nat => s.heap.size ≤ q) s s.heap := by rw [eL]; exact ⟨⟨st_scr hXs hbl, hL⟩, ⟨hO, hT, hKB, st_ext hts0⟩, fun i j a b c d n => st_Nc hgv i j a b c d n⟩
  have hb0 : b = Lx.1.1 := by rw [eL]
  have hlen : Lx.1.2.1 < 2 ^ 31 := by rw [eL]; show L < 2 ^ 31; omega
  have hA : ∀ q, s.heap.size ≤ q → (fun q : Nat => s.heap.size ≤ q) q := fun q h => h
  have hl := lv_entry (n := 11) [Value.ref b] (Nat.le_of_ble_eq_true rfl)
  rw [lg_entry_eq]
  generalize (lg_sl [Value.ref b] ++ List.replicate (11 - (lg_sl [Value.ref b]).length) Slot.unset).toArray = ls at hl ⊢
  have hl : lv_has ls 11 [(0, .ref Lx.1.1)] := by rw [← hb0]; exact hl
  have hP : va_P E.1 vwCl ([] : List va_W).flatten s.heap := fun k q h => by simp at h
  have hD : va_D (fun q : Nat => s.heap.size ≤ q) ([] : List va_W).flatten := ⟨fun i j p q h => by simp at h, fun k q h => by simp at h⟩
  have hS : va_S (fun q : Nat => s.heap.size ≤ q) s.heap s.heap [] := va_S.rf
  have hend : ∀ (H : Heap) (ls : Array Slot), W p l e room_1 s m #[Value.ref b] below meth c H [] 977054 6170461 (lw_Z below #[Value.ref b] s) (F0 m 889 ls [.int (nI 1)]) := fun H ls => lw_ret (d0 := s.drawn) (Drawn.sameBut.refl s.drawn lw_cs) hx hb hr hlocks dL_law_889
  refine px_new (gs := ([] : List va_W)) (ci := 8) (fs := [.null, .null, .null, .int 0, .null, .null, .null, .null, .null, .null, .int 0]) (C := RX8) (T := TX8) (N := 11) hx hb hts iX8 tyX8 tyX8_ok hown (hts _ q49) (hts _ q50) (hts _ q18) hK hP hD hS hA rfl (fun j hj => by rcases (show j = 0 ∨ j = 1 ∨ j = 2 ∨ j = 3 ∨ j = 4 ∨ j = 5 ∨ j = 6 ∨ j = 7 ∨ j = 8 ∨ j = 9 ∨ j = 10 by omega) with rfl | rfl | rfl | rfl | rfl | rfl | rfl | rfl | rfl | rfl | rfl <;> rfl) (Nat.le_of_ble_eq_true rfl) (Nat.le_of_ble_eq_true rfl) dL_law_0 (fun q1 H hP hD hS => ?_)
  have hP : va_P E.1 vwCl ([gOb q1 8 [.null, .null, .null, .int 0, .null, .null, .null, .null, .null, .null, .int 0]] : List va_W).flatten H := hP
  have hD : va_D (fun q : Nat => s.heap.size ≤ q) ([gOb q1 8 [.null, .null, .null, .int 0, .null, .null, .null, .null, .null, .null, .int 0]] : List va_W).flatten := hD
  refine lv_dup hx hb dL_law_3 rfl ?_
  refine px_IC (As := []) (rest := [.ref q1]) (gs := ([gOb q1 8 [.null, .null, .null, .int 0, .null, .null, .null, .null, .null, .null, .int 0]] : List va_W)) (gr := ([] : List va_W)) (gc := ([gOb q1 8 [.null, .null, .null, .int 0, .null, .null, .null, .null, .null, .null, .int 0]] : List va_W)) ⟨hx, hb, hml, hown, hts⟩ (c8_init l E q1) (cwI 0 hts (ws_g q53) rfl rfl rfl (hts _ q18) (hts _ q51) (hts _ q52) rfl hdI_X8_init ⟨(Nat.le_of_ble_eq_true rfl), (Nat.le_of_ble_eq_true rfl)⟩) hAO hK hN hP hD hS hA [] [0] rfl rfl (by decide) (by decide) rfl hl.1 rfl (Nat.le_of_ble_eq_true rfl) dL_law_4 ⟨(Nat.le_of_ble_eq_true rfl), (Nat.le_of_ble_eq_true rfl)⟩ (fun A2 eA2 H locs hP9 hD9 hS9 => ?_)
  subst eA2
  have hP : va_P E.1 vwCl (([] : List va_W) ++ [gO E A2 tNew]).flatten H := by rw [← gO_new]; exact hP9
  have hD : va_D (fun q : Nat => s.heap.size ≤ q) (([] : List va_W) ++ [gO E A2 tNew]).flatten := by rw [← gO_new]; exact hD9
  have hS := hS9
  have hP : va_P E.1 vwCl ([gO E A2 tNew] : List va_W).flatten H := hP
  have hD : va_D (fun q : Nat => s.heap.size ≤ q) ([gO E A2 tNew] : List va_W).flatten := hD
  refine W.eq (g2 := F0 m 7 ls [.ref (A2 0 0)]) rfl ?_
  refine lv_astore_n (lv' := [(1, .ref (A2 0 0)), (0, .ref Lx.1.1)]) hx hb dL_law_7 rfl hl (by decide) rfl (fun ls hl => ?_)
  obtain ⟨τ1, f1⟩ := fw_e_x
  refine lw_e hlt hx hb hml hts hown rfl hK hKL hN hX hL9 hA A2 tNew τ1 f1 (Nat.le_of_ble_eq_true rfl) (Nat.le_of_ble_eq_true rfl) hP hD hS (lv_sub hl [1, 0] rfl) (fun H locs ls hP hD hS hl => ?_)
  refine px_new (gs := ([gO E A2 τ1] : List va_W)) (ci := 8) (fs := [.null, .null, .null, .int 0, .null, .null, .null, .null, .null, .null, .int 0]) (C := RX8) (T := TX8) (N := 11) hx hb hts iX8 tyX8 tyX8_ok hown (hts _ q49) (hts _ q50) (hts _ q18) hK hP hD hS hA rfl (fun j hj => by rcases (show j = 0 ∨ j = 1 ∨ j = 2 ∨ j = 3 ∨ j = 4 ∨ j = 5 ∨ j = 6 ∨ j = 7 ∨ j = 8 ∨ j = 9 ∨ j = 10 by omega) with rfl | rfl | rfl | rfl | rfl | rfl | rfl | rfl | rfl | rfl | rfl <;> rfl) (Nat.le_of_ble_eq_true rfl) (Nat.le_of_ble_eq_true rfl) dL_law_622 (fun q2 H hP hD hS => ?_)
  have hP : va_P E.1 vwCl ([gO E A2 τ1, gOb q2 8 [.null, .null, .null, .int 0, .null, .null, .null, .null, .null, .null, .int 0]] : List va_W).flatten H := hP
  have hD : va_D (fun q : Nat => s.heap.size ≤ q) ([gO E A2 τ1, gOb q2 8 [.null, .null, .null, .int 0, .null, .null, .null, .null, .null, .null, .int 0]] : List va_W).flatten := hD
  refine lv_dup hx hb dL_law_625 rfl ?_
  refine px_IC (As := []) (rest := [.ref q2]) (gs := ([gO E A2 τ1, gOb q2 8 [.null, .null, .null, .int 0, .null, .null, .null, .null, .null, .null, .int 0]] : List va_W)) (gr := ([gO E A2 τ1] : List va_W)) (gc := ([gOb q2 8 [.null, .null, .null, .int 0, .null, .null, .null, .null, .null, .null, .int 0]] : List va_W)) ⟨hx, hb, hml, hown, hts⟩ (c8_init l E q2) (cwI 0 hts (ws_g q53) rfl rfl rfl (hts _ q18) (hts _ q51) (hts _ q52) rfl hdI_X8_init ⟨(Nat.le_of_ble_eq_true rfl), (Nat.le_of_ble_eq_true rfl)⟩) hAO hK hN hP hD hS hA [0] [1] rfl rfl (by decide) (by decide) rfl hl.1 rfl (Nat.le_of_ble_eq_true rfl) dL_law_626 ⟨(Nat.le_of_ble_eq_true rfl), (Nat.le_of_ble_eq_true rfl)⟩ (fun A3 eA3 H locs hP9 hD9 hS9 => ?_)
  subst eA3
  have hP : va_P E.1 vwCl (([gO E A2 τ1] : List va_W) ++ [gO E A3 tNew]).flatten H := by rw [← gO_new]; exact hP9
  have hD : va_D (fun q : Nat => s.heap.size ≤ q) (([gO E A2 τ1] : List va_W) ++ [gO E A3 tNew]).flatten := by rw [← gO_new]; exact hD9
  have hS := hS9
  have hP : va_P E.1 vwCl ([gO E A2 τ1, gO E A3 tNew] : List va_W).flatten H := hP
  have hD : va_D (fun q : Nat => s.heap.size ≤ q) ([gO E A2 τ1, gO E A3 tNew] : List va_W).flatten := hD
  have hP := g_P (gs' := ([gO E A3 tNew] : List va_W)) hP [1] rfl
  have hD := g_D (gs' := ([gO E A3 tNew] : List va_W)) hD [1] (by decide) rfl
  refine W.eq (g2 := F0 m 629 ls [.ref (A3 0 0)]) rfl ?_
  refine lv_astore_n (lv' := [(2, .ref (A3 0 0)), (0, .ref Lx.1.1), (1, .ref (A2 0 0))]) hx hb dL_law_629 rfl hl (by decide) rfl (fun ls hl => ?_)
  obtain ⟨sum, τ2, S2, f2, hd2, hM2, hs2, hv2⟩ := fw_o_S (L := Lx) hlen tNew_M
  refine lw_o hlt hx hb hml hts hown rfl hK hKL hN hX hL9 hA A3 tNew sum (nI (s_c S2)) τ2 f2 (Nat.le_of_ble_eq_true rfl) (Nat.le_of_ble_eq_true rfl) hP hD hS (lv_sub hl [1, 0] rfl) (fun H locs ls hP hD hS hl => ?_)
  refine lv_bipush (v := (nI 11)) hx hb dL_law_690 (by decide) ?_
  refine px_newL (gs := ([gO E A3 τ2] : List va_W)) hx hb (hts _ q1430) hK hKL hP hD hS hA (by decide) (by decide) (Nat.le_of_ble_eq_true rfl) (Nat.le_of_ble_eq_true rfl) dL_law_692 (fun a6 H hP hD hS => ?_)
  have hP : va_P E.1 vwCl ([gO E A3 τ2, gLW aL (a6 0) (fun _ => 0)] : List va_W).flatten H := hP
  have hD : va_D (fun q : Nat => s.heap.size ≤ q) ([gO E A3 τ2, gLW aL (a6 0) (fun _ => 0)] : List va_W).flatten := hD
  refine lv_astore (lv' := [(6, .ref (a6 0)), (0, .ref Lx.1.1), (2, .ref (A3 0 0)), (3, .long sum), (5, .int (nI (s_c S2)))]) hx hb dL_law_694 hl (by decide) rfl (fun ls hl => ?_)
  refine lw_w hlt hx hb hml hts hown rfl hK hKL hN hX hL9 hA A3 a6 sum (nI (s_c S2)) τ2 (fun _ => 0) (fw_w_S hlen hd2 hM2 hs2 hv2) (Nat.le_of_ble_eq_true rfl) (Nat.le_of_ble_eq_true rfl) hP hD hS (lv_sub hl [1, 2, 3, 4, 0] rfl) (fun H locs ls hS => ?_)
  refine va_forget (fun q hq => hS.2.2 q hq) ?_
  refine W.widen (k := 977054) (n := 6170461) (Nat.le_of_ble_eq_true rfl) (Nat.le_of_ble_eq_true rfl) ?_
  exact hend H ls
-- ===== YOUR PART ENDS =====
set_option maxHeartbeats 4000000 in
theorem lw_walk (l : Launch) (hflags : l.flags = flags0) (b : Addr) (xs : List Int32) : MetFree l x (headSpec (Jvm.Cond.code x code maxLocals ret :: tables_1) room_1) (lw_P b xs) (fun _ _ _ _ _ => True) lw_Q := by
  refine MetFree.of_bodyS (code := code) (maxLocals := maxLocals) (ret := ret) (by decide) ?_ ?_
  · intro args s m h hn
    obtain ⟨meth, c, h1, h2, h3, h4, h5, h6, -, -⟩ := Cond.code_spec hn (atoms_spec (ws := Jvm.Cond.code x code maxLocals ret :: tables_1) h _ List.mem_cons_self)
    exact ⟨meth, c, h1, h2, h3, h4, h5, h6⟩
  · intro p e s m args below meth c s₁ B hml0 hP _
    obtain ⟨rfl, hx, hbd, hgv⟩ := hP
    obtain ⟨scr, harrAt, hlist, hof, hsmall⟩ := hx
    obtain ⟨hcb, hkn, -, -⟩ := State.arrayAt?_spec harrAt
    have hown : s.vm.findClass R_law = some m.cls := findClass_of_methodNamed B.named
    have hts0 : ∀ c ∈ (Jvm.Cond.code x code maxLocals ret :: tables_1), c.before #[Value.ref b] s = true := atoms_spec (ws := Jvm.Cond.code x code maxLocals ret :: tables_1) B.pre
    have hts : ∀ w ∈ lw_tbl, w.before #[Value.ref b] s = true := k2_hts_sels lw_privs (fun w hw => hts0 w (List.mem_cons_of_mem _ hw)) lw_privs_ok
    have hml : c.maxLocals = 11 := B.maxLocals_eq (hts0 _ List.mem_cons_self)
    have X₀ : Stand p l e room_1 s m #[Value.ref b] below meth c s₁ [] 0 0 := Stand.of_body B
    have hh0 : s₁.heap = s.heap := by rw [B.state]; rfl
    have hsz : scr.slots.size = xs.length := by rw [← Array.length_toList, hlist, List.length_map]
    have hval : ∀ j : Nat, j < xs.length → scr.slots[j]? = some (.int (xs.getD j 0)) := fun j hj => by
      rw [← Array.getElem?_toList, hlist]
      simp [hj]
    have hbl : b < s.heap.size := (Array.getElem?_eq_some_iff.mp hcb).1
    have hX : va_X b xs.length (fun j => xs.getD j 0) s s.heap := ⟨scr, hcb, hof, hkn, hsz, hval⟩
    have K : W p l e room_1 s m #[Value.ref b] below meth c s₁.heap [] 0 0 (lw_Z below #[Value.ref b] s) (entryFrame m ([Value.ref b] : List Value).toArray 11) := by
      rw [hh0]
      exact whole_start l hflags hbd ⟨B.exec, B.bytes, B.returns, hml, hown, hts, hX, hbl, B.notSynchronized, hgv⟩
    obtain ⟨t, a1, o, b1, b2, b3⟩ := K s₁ rfl X₀
    exact ⟨t, o, a1, b1, b2, b3⟩
theorem lw_pre_spec {args : Array Value} {s : State} (h : (Jvm.Cond.and given_1 narrow_1).before args s = true) (hr : rest_1_c.before args s = true) : ∃ (b : Addr) (xs : List Int32), lw_P b xs args s := by
  have hs := flat_of_before _ h
  have hq := flat_of_before _ hr
  have hc : (Cond.count 1).before args s = true := hs _ (by decide +kernel)
  have harr : (Cond.arrayOf (.arg 0) .int).before args s = true := hs _ (by decide +kernel)
  have hle : (Cond.le (.length (.arg 0)) (.int 260)).before args s = true := hs _ (by decide +kernel)
  have hlen : (Cond.isInt (.length (.arg 0))).before args s = true := hq _ (by decide +kernel)
  have hall : (Cond.all (.arg 0) (.isInt (.elem (.arg 0) (.index 0)))).before args s = true := hq _ (by decide +kernel)
  obtain ⟨b, xs, hb, hx⟩ := State.ints_of_pre rfl harr hlen hall
  have hsm : xs.length < 2 ^ 31 := hx.choose_spec.2.2.2
  have hev : (Term.length (.arg 0)).eval args s none [] s = some (.int xs.length.toInt32) := hx.length_eval hb
  have hv := Cond.le_ints hev (show (Term.int 260).eval args s none [] s = some (.int 260) from rfl)
  have hd : xs.length.toInt32 ≤ 260 := by
    simpa [Cond.before, Cond.holds, hv] using hle
  have hN : xs.length ≤ 260 := (Int32.ofNat_le_ofNat hsm (by decide)).mp (show Int32.ofNat xs.length ≤ Int32.ofNat 260 from hd)
  exact ⟨b, xs, Cond.one_arg hc (show args[0]? = some (.ref b) from hb), hx, hN, h⟩
theorem lw_comes (l : Launch) (hflags : l.flags = flags0) : Comes l x (Jvm.Cond.code x code maxLocals ret :: tables_1) room_1 (fun tb e args s => Calls_1 tb e args s ∧ rest_1 tb e args s ∧ Pre_1 tb e args s)
    (fun _ _ args s o t => lw_Q args s o t) := by
  intro p e ha hc hk s m args below hf hfit hheap happ hpre
  obtain ⟨b, xs, hP⟩ := lw_pre_spec hpre.2.2 hpre.2.1
  obtain ⟨k, o, h1, h2, h3, hQ⟩ := lw_walk l hflags b xs p e ha hc hk s m args below hf ((Spec.applies_iff_loose hf).mp happ).1 hP trivial
  exact ⟨k, o, h1, h2, h3, hQ⟩
theorem lw_frame {s t : State} {o : Outcome} {args : Array Value} (h : State.butDraws s t lw_cs (fun t1 => Framed s o t1 [] 977054 6170461)) :
    State.butDraws s t [Jvm.Choice.named "NaN.bits"] (fun t1 => Framed s o t1 (fieldLocs frame_1_writes args s ++ arrayLocs frame_1_arrays args s ++ staticLocs frame_1_statics s) 977054 6170461) := h
theorem lw_limb (L : Cond) (hL : ∀ (args : Array Value) (s t : State), L.after args s (.returned (some (.int 1))) t = true) :
    ArmFor flags0 classFile x code maxLocals ret World_1 tables_1 room_1 Calls_1 rest_1 Pre_1
      (fun tb e a s o t => postC L tb e a s o t ∧ State.butDraws s t [Jvm.Choice.named "NaN.bits"] (fun t1 => Framed s o t1 (fieldLocs frame_1_writes a s ++ arrayLocs frame_1_arrays a s ++ staticLocs frame_1_statics s) 977054 6170461)) := by
  intro l hflags _ _ p e ha hc hk s m args below hf hfit hheap happ hpre
  obtain ⟨k, o, h1, h2, h3, rfl, hF⟩ := lw_comes l hflags p e ha hc hk s m args below hf hfit hheap happ hpre
  exact ⟨k, _, h1, h2, h3, hL args s _, lw_frame hF⟩
theorem i_vc : Claimed_1_1 ∧ Claimed_1_2 := ⟨lw_limb limb_1_1 (fun args s t => by simp [limb_1_1, Cond.after, Cond.holds, Cond.value]), lw_limb limb_1_2 (fun args s t => Cond.after_iff.mpr (by
  first | (rw [show limb_1_2 = Cond.eq .result (.int 1) from rfl, Cond.eq_ints (x := 1) (y := 1) rfl rfl]; simp; done) | (simp [limb_1_2, Cond.value, Term.eval]; done)))⟩

