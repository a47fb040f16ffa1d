/-! my own basics: one list of words for all methods; worlds as lists of groups; contracts that say 'answer and new world' -/
def lw_all : List Cond := lw_tbl.filter goodWord
theorem lw_in {w : Cond} (i : Nat) (h : lw_tbl[i]? = some w) (hg : goodWord w = true) : w ∈ lw_all := List.mem_filter.mpr ⟨List.mem_of_getElem? h, hg⟩
theorem lw_all_tbl {w : Cond} (h : w ∈ lw_all) : w ∈ lw_tbl := (List.mem_filter.mp h).1
theorem lw_ag : GoodIn lw_all lw_all := fun w hw => ⟨hw, good_of_word (List.mem_filter.mp hw).2⟩
def ws_ (y : MethodName) (c : ByteArray) (n : Nat) (r : Option FieldType) : List Cond := Cond.code y c n r :: lw_all
theorem ws_hts {y : MethodName} {c : ByteArray} {n : Nat} {r : Option FieldType} {args : Array Value} {s : State} (h : ∀ w ∈ ws_ y c n r, w.before args s = true) : ∀ w ∈ lw_all, w.before args s = true := fun w hw => h w (List.mem_cons_of_mem _ hw)
theorem ws_g {y : MethodName} {c : ByteArray} {n : Nat} {r : Option FieldType} (h : Cond.code y c n r ∈ lw_all) : GoodIn lw_all (ws_ y c n r) := fun w hw => (List.mem_cons.mp hw).elim (fun e => by rw [e]; exact lw_ag _ h) (fun h => lw_ag w h)
theorem ws_c4 {ws : List Cond} {a b c d : Cond} (ha : a ∈ lw_all) (hb : b ∈ lw_all) (hc : c ∈ lw_all) (hd : d ∈ lw_all) (h : GoodIn lw_all ws) : GoodIn lw_all ([a, b, c, d] ++ ws) := by
  intro w hw
  rcases List.mem_append.mp hw with h1 | h1
  · simp only [List.mem_cons, List.not_mem_nil, or_false] at h1
    rcases h1 with rfl | rfl | rfl | rfl <;> exact lw_ag _ (by assumption)
  · exact h w h1
theorem ws_c3 {ws : List Cond} {a b c : Cond} (ha : a ∈ lw_all) (hb : b ∈ lw_all) (hc : c ∈ lw_all) (h : GoodIn lw_all ws) : GoodIn lw_all ([a, b, c] ++ ws) := by
  intro w hw
  rcases List.mem_append.mp hw with h1 | h1
  · simp only [List.mem_cons, List.not_mem_nil, or_false] at h1
    rcases h1 with rfl | rfl | rfl <;> exact lw_ag _ (by assumption)
  · exact h w h1
theorem ws_v {own C : String} {idx : Nat} {y : MethodName} {c : ByteArray} {n : Nat} {r : Option FieldType} (ha : Cond.methodLink own idx y ∈ lw_all) (hb : Cond.instanceMethod y ∈ lw_all) (hc : Cond.selects C y y ∈ lw_all) (hd : Cond.initialized C ∈ lw_all) (h : Cond.code y c n r ∈ lw_all) : GoodIn lw_all (wsV own idx C y (ws_ y c n r)) := ws_c4 ha hb hc hd (ws_g h)
theorem ws_s {own : String} {idx : Nat} {y : MethodName} {c : ByteArray} {n : Nat} {r : Option FieldType} (ha : Cond.methodLink own idx y ∈ lw_all) (hb : Cond.static y ∈ lw_all) (hc : Cond.initialized y.cls ∈ lw_all) (h : Cond.code y c n r ∈ lw_all) : GoodIn lw_all (va_wsS own idx y (ws_ y c n r)) := ws_c3 ha hb hc (ws_g h)
/-- the launch's own numbers: class ids, slots, the array classes of int, char, Forest -/
abbrev PE : Type := va_G × ClassId × ClassId × ClassId
abbrev AI : Type := Nat → Int32
abbrev tyE (E : PE) : List (ClassId × FieldType) := [(E.2.1, .int), (E.2.2.1, .char), (E.2.2.2, .object "RecipeForests$Forest")]
/-! groups -/
def px_R : Nat × va_E → Nat × va_E → Prop := fun x y => x.1 ≠ y.1
theorem px_D_iff {A : Nat → Prop} {ws : va_W} : va_D A ws ↔ ws.Pairwise px_R ∧ ∀ q ∈ ws, A q.1 := by
  constructor
  · intro h
    refine ⟨List.pairwise_iff_getElem.mpr fun i j hi hj hij he => ?_, fun q hq => ?_⟩
    · have := h.1 i j ws[i] ws[j] (List.getElem?_eq_getElem hi) (List.getElem?_eq_getElem hj) he
      omega
    · obtain ⟨i, hi⟩ := List.getElem?_of_mem hq
      exact h.2 i q hi
  · intro h
    refine ⟨fun i j p q hi hj he => ?_, fun k q hk => h.2 q (List.mem_of_getElem? hk)⟩
    obtain ⟨hi1, rfl⟩ := List.getElem?_eq_some_iff.mp hi
    obtain ⟨hj1, rfl⟩ := List.getElem?_eq_some_iff.mp hj
    rcases Nat.lt_trichotomy i j with h1 | h1 | h1
    · exact absurd he (List.pairwise_iff_getElem.mp h.1 i j hi1 hj1 h1)
    · exact h1
    · exact absurd he.symm (List.pairwise_iff_getElem.mp h.1 j i hj1 hi1 h1)
theorem px_P_iff {D : va_G} {cl : List vw_C} {ws : va_W} {H : Heap} : va_P D cl ws H ↔ ∀ q ∈ ws, va_at D cl q H := by
  constructor
  · intro h q hq
    obtain ⟨i, hi⟩ := List.getElem?_of_mem hq
    exact h i q hi
  · intro h k q hk
    exact h q (List.mem_of_getElem? hk)
theorem px_pick {α : Type} {gs gs' : List α} {is : List Nat} (hs : is.map (fun i => gs[i]?) = gs'.map some) {x : α} (h : x ∈ gs') : x ∈ gs := by
  have h1 : some x ∈ is.map (fun i => gs[i]?) := by rw [hs]; exact List.mem_map.mpr ⟨x, h, rfl⟩
  obtain ⟨i, -, hi⟩ := List.mem_map.mp h1
  exact List.mem_of_getElem? hi
theorem g_P {D : va_G} {cl : List vw_C} {H : Heap} {gs gs' : List va_W} (h : va_P D cl gs.flatten H) (is : List Nat) (hs : is.map (fun i => gs[i]?) = gs'.map some) : va_P D cl gs'.flatten H := by
  rw [px_P_iff] at h ⊢
  intro q hq
  obtain ⟨g, hg, hqg⟩ := List.mem_flatten.mp hq
  exact h q (List.mem_flatten.mpr ⟨g, px_pick hs hg, hqg⟩)
theorem px_at {α : Type} {gs gs' : List α} {is : List Nat} (hs : is.map (fun i => gs[i]?) = gs'.map some) {k : Nat} {x : α} (h : gs'[k]? = some x) : ∃ i, is[k]? = some i ∧ gs[i]? = some x := by
  have h1 : (is.map (fun i => gs[i]?))[k]? = some (some x) := by rw [hs, List.getElem?_map, h]; rfl
  rw [List.getElem?_map] at h1
  cases hi : is[k]? with
  | none => rw [hi] at h1; cases h1
  | some i => rw [hi] at h1; exact ⟨i, rfl, Option.some.inj h1⟩
theorem g_D {A : Nat → Prop} {gs gs' : List va_W} (h : va_D A gs.flatten) (is : List Nat) (hn : va_nd is = true) (hs : is.map (fun i => gs[i]?) = gs'.map some) : va_D A gs'.flatten := by
  rw [px_D_iff] at h ⊢
  refine ⟨?_, fun q hq => ?_⟩
  · have h1 := List.pairwise_flatten.mp h.1
    refine List.pairwise_flatten.mpr ⟨fun g hg => h1.1 g (px_pick hs hg), List.pairwise_iff_getElem.mpr fun i j hi hj hij x hx y hy he => ?_⟩
    obtain ⟨a, ha1, ha2⟩ := px_at hs (List.getElem?_eq_getElem hi)
    obtain ⟨b, hb1, hb2⟩ := px_at hs (List.getElem?_eq_getElem hj)
    obtain ⟨hal, hae⟩ := List.getElem?_eq_some_iff.mp ha2
    obtain ⟨hbl, hbe⟩ := List.getElem?_eq_some_iff.mp hb2
    have hne : a ≠ b := by
      intro hab
      subst hab
      have := va_nd_inj is hn i j a ha1 hb1
      omega
    rw [← hae] at hx
    rw [← hbe] at hy
    rcases Nat.lt_or_gt_of_ne hne with hlt | hlt
    · exact List.pairwise_iff_getElem.mp h1.2 a b hal hbl hlt x hx y hy he
    · exact List.pairwise_iff_getElem.mp h1.2 b a hbl hal hlt y hy x hx he.symm
  · obtain ⟨g, hg, hqg⟩ := List.mem_flatten.mp hq
    exact h.2 q (List.mem_flatten.mpr ⟨g, px_pick hs hg, hqg⟩)
theorem px_A_mem {ws : va_W} {sz q : Nat} : va_A ws sz q ↔ (∃ x ∈ ws, x.1 = q) ∨ sz ≤ q := by
  constructor
  · rintro (⟨k, e, h⟩ | h)
    · exact Or.inl ⟨_, List.mem_of_getElem? h, rfl⟩
    · exact Or.inr h
  · rintro (⟨x, h, rfl⟩ | h)
    · obtain ⟨i, hi⟩ := List.getElem?_of_mem h
      exact Or.inl ⟨i, x.2, hi⟩
    · exact Or.inr h
theorem g_free {A0 : Nat → Prop} {gs gc : List va_W} {H0 H : Heap} {locs : List Loc} (hD : va_D A0 gs.flatten) (hS : va_S A0 H0 H locs) (hA : ∀ q, H0.size ≤ q → A0 q) (is : List Nat) (hs : is.map (fun i => gs[i]?) = gc.map some) : ∀ q, va_A gc.flatten H.size q → A0 q := by
  intro q h
  rcases px_A_mem.mp h with ⟨x, hx, rfl⟩ | h
  · obtain ⟨g, hg, hqg⟩ := List.mem_flatten.mp hx
    exact (px_D_iff.mp hD).2 x (List.mem_flatten.mpr ⟨g, px_pick hs hg, hqg⟩)
  · exact hA q (Nat.le_trans hS.1 h)
/-- behind a call: the caller's other groups, and the callee's new ones -/
theorem g_join {A0 : Nat → Prop} {D : va_G} {cl : List vw_C} {gs gr gc g1 : List va_W} {H H1 : Heap} (hP : va_P D cl gs.flatten H) (hD : va_D A0 gs.flatten) (iR iC : List Nat) (hR : iR.map (fun i => gs[i]?) = gr.map some) (hC : iC.map (fun i => gs[i]?) = gc.map some) (hn : va_nd (iR ++ iC) = true)
    (hk : ∀ q : Nat, q < H.size → ¬ va_A gc.flatten H.size q → H1[q]? = H[q]?) (hF : ∀ q, va_A gc.flatten H.size q → A0 q) (hP1 : va_P D cl g1.flatten H1) (hD1 : va_D (va_A gc.flatten H.size) g1.flatten) : va_P D cl (gr ++ g1).flatten H1 ∧ va_D A0 (gr ++ g1).flatten := by
  have hRC : (iR ++ iC).map (fun i => gs[i]?) = (gr ++ gc).map some := by rw [List.map_append, List.map_append, hR, hC]
  have hP' := px_P_iff.mp (g_P hP (iR ++ iC) hRC)
  have hD' := px_D_iff.mp (g_D hD (iR ++ iC) hn hRC)
  rw [List.flatten_append] at hP' hD' ⊢
  have hpw := List.pairwise_append.mp hD'.1
  have apart : ∀ q ∈ gr.flatten, q.1 < H.size ∧ ¬ va_A gc.flatten H.size q.1 := by
    intro q hq
    have hl := (hP' q (List.mem_append_left _ hq)).lt
    refine ⟨hl, fun h => ?_⟩
    rcases px_A_mem.mp h with ⟨x, hx, he⟩ | h
    · exact hpw.2.2 q hq x hx he.symm
    · omega
  have h1 := px_D_iff.mp hD1
  refine ⟨px_P_iff.mpr fun q hq => ?_, px_D_iff.mpr ⟨List.pairwise_append.mpr ⟨hpw.1, h1.1, fun x hx y hy he => ?_⟩, fun q hq => ?_⟩⟩
  · rcases List.mem_append.mp hq with h | h
    · exact (hP' q (List.mem_append_left _ h)).kept (hk q.1 (apart q h).1 (apart q h).2)
    · exact px_P_iff.mp hP1 q h
  · exact (apart x hx).2 (by rw [he]; exact h1.2 y hy)
  · rcases List.mem_append.mp hq with h | h
    · exact hD'.2 q (List.mem_append_left _ h)
    · exact hF q.1 (h1.2 q h)
/-! contracts -/
def px_nest : List (String × Nat × MethodName × String) := [(RX0, 35, yX8_isIngredient, RX8), (RX0, 38, yX8_isAmount, RX8), (RX1, 64, yX8_setOf, RX8), (RX0, 82, yX8_isRule, RX8), (RX1, 78, yX8_isInSet, RX8), (RX0, 116, yX8_isPlace, RX8)]
def px_N (U : State) : Prop := ∀ w ∈ px_nest, va_Nw (.methodLinkNest w.1 w.2.1 w.2.2.1 w.2.2.2) U
theorem px_N.same {u U : State} (h : u.vm = U.vm) (hN : px_N u) : px_N U := fun w hw => va_Nw.same rfl h (hN w hw)
theorem px_N.warm {s U : State} (hW : s.WarmedH U.vm) (hN : px_N s) : px_N U := fun w hw => va_Nw.warmM hW (hN w hw)
def PW (E : PE) (av : List Value) (ws : va_W) (sz : Nat) : Array Value → State → Prop := va_Pc av (fun U => U.heap.size = sz ∧ va_P E.1 vwCl ws U.heap ∧ va_K E.1 vwCl (tyE E) U ∧ px_N U ∧ va_D (fun _ => True) ws)
theorem PW_blind {E : PE} {av : List Value} {ws : va_W} {sz : Nat} : FrameBlind (PW E av ws sz) := fun a U g mk q => by obtain ⟨q0, q1, qP, qK, qN, qD⟩ := q; exact ⟨q0, q1, qP, va_K.moved (u := U) (U := U.calling g mk a) (Vm.Alike.refl U.vm) qK, px_N.same (U := U.calling g mk a) rfl qN, qD⟩
/-- returns v, writes nothing -/
def QP (v : Option Value) : Array Value → State → Outcome → State → Prop := fun _ st o t => o = .returned v ∧ t.heap = st.heap
/-- returns v, the world is ws' -/
def QW (E : PE) (ws : va_W) (sz : Nat) (v : Option Value) (ws' : va_W) : Array Value → State → Outcome → State → Prop := fun _ st o t => (o = .returned v ∧ va_P E.1 vwCl ws' t.heap ∧ va_D (va_A ws sz) ws') ∧ va_F (va_A ws sz) st t
def MP (l : Launch) (y : MethodName) (c : ByteArray) (n : Nat) (ret : Option FieldType) (rm : Room) (E : PE) (av : List Value) (ws : va_W) (v : Option Value) : Prop := ∀ sz, Met l y (ws_ y c n ret) rm (PW E av ws sz) (QP v) 0 0 (fun _ => False)
def MW (l : Launch) (y : MethodName) (c : ByteArray) (n : Nat) (ret : Option FieldType) (rm : Room) (E : PE) (av : List Value) (ws : va_W) (mc ms : Nat) (v : Option Value) (ws' : va_W) : Prop := ∀ sz, Met l y (ws_ y c n ret) rm (PW E av ws sz) (QW E ws sz v ws') mc ms (va_A ws sz)
section PXC
variable {p : Program} {l : Launch} {e : Env} {R : Room} {s : State} {m : MethodId} {args : Array Value} {below : List Frame} {meth : Method} {c : Code} {H : Heap} {locs : List Loc} {cells slots : Nat} {Q : State → Prop}
variable {y : MethodName} {bytes cc : ByteArray} {maxL nL mc ms n index pc : Nat} {ret : Option FieldType} {rm : Room} {own C : String} {b : Addr} {As rest st0 : List Value} {v : Option Value} {E : PE} {A0 : Nat → Prop} {H0 : Heap} {gs gr gc g1 g2 : List va_W} {ls : Array Slot} {a : Array Value}
theorem px_go (hr : va_Run p l e R s m args below meth c H locs cells slots mc ms (F0 m pc ls st0) rest (QW E gc.flatten H.size v g1.flatten a) (va_A gc.flatten H.size))
    (hP : va_P E.1 vwCl gs.flatten H) (hD : va_D A0 gs.flatten) (hS : va_S A0 H0 H locs) (hA : ∀ q, H0.size ≤ q → A0 q)
    (iR iC iF : List Nat) (hR : iR.map (fun i => gs[i]?) = gr.map some) (hC : iC.map (fun i => gs[i]?) = gc.map some) (hn : va_nd (iR ++ iC) = true) (hF : iF.map (fun i => (gr ++ g1)[i]?) = g2.map some) (hnF : va_nd iF = true)
    (kk : ∀ (H1 : Heap) (locs1 : List Loc), va_P E.1 vwCl g2.flatten H1 → va_D A0 g2.flatten → va_S A0 H0 H1 locs1 → W p l e R s m args below meth c H1 locs1 (cells + mc) (slots + ms) Q (F0 m (pc + 3) ls (v.toList ++ rest))) : W p l e R s m args below meth c H locs cells slots Q (F0 m pc ls st0) := by
  intro T hT X
  obtain ⟨v', st₀, t, T', L, h0, X', hL, e1, e2, ⟨⟨hv, hP1, hD1⟩, hz, hk⟩, st⟩ := hr T hT X
  cases hv
  rw [h0] at hz hk
  have hf := g_free hD hS hA iC hC
  obtain ⟨hP2, hD2⟩ := g_join (H1 := t.heap) hP hD iR iC hR hC hn hk hf hP1 hD1
  obtain ⟨t2, a1, b1⟩ := kk T'.heap (locs ++ L) (by rw [e1]; exact g_P hP2 iF hF) (g_D hD2 iF hnF hF)
    ⟨Nat.le_trans hS.1 (by rw [e1]; exact hz), fun q h1 h2 => by rw [e1, hk q (Nat.lt_of_lt_of_le h1 hS.1) (fun z => h2 (hf q z))]; exact hS.2.1 q h1 h2, fun q hq => by
      rcases List.mem_append.mp hq with h | h
      · exact hS.2.2 q h
      · exact hf _ (hL q h)⟩ T' rfl X'
  exact ⟨t2, st t2 a1, b1⟩
theorem px_goP (hr : va_Run p l e R s m args below meth c H locs cells slots 0 0 (F0 m pc ls st0) rest (QP v a) (fun _ => False))
    (kk : W p l e R s m args below meth c H locs cells slots Q (F0 m (pc + 3) ls (v.toList ++ rest))) : W p l e R s m args below meth c H locs cells slots Q (F0 m pc ls st0) := by
  intro T hT X
  obtain ⟨v', st₀, t, T', L, h0, X', hL, e1, e2, ⟨hv, hh⟩, st⟩ := hr T hT X
  cases hv
  have hLn : L = [] := List.eq_nil_iff_forall_not_mem.mpr (fun q hq => hL q hq)
  subst hLn
  rw [List.append_nil, Nat.add_zero, Nat.add_zero] at X'
  obtain ⟨t2, a1, b1⟩ := kk T' (by rw [e1, hh, h0]) X'
  exact ⟨t2, st t2 a1, b1⟩
theorem px_pre (hK : va_K E.1 vwCl (tyE E) s) (hN : px_N s) {av : List Value} {gc : List va_W} (hP : va_P E.1 vwCl gs.flatten H) (hD : va_D A0 gs.flatten) (iC : List Nat) (hC : iC.map (fun i => gs[i]?) = gc.map some) (hn : va_nd iC = true) : ∀ U : State, U.heap = H → s.WarmedH U.vm → PW E av gc.flatten H.size av.toArray U :=
  fun U hU hW => ⟨rfl, by rw [hU], by rw [hU]; exact g_P hP iC hC, va_K.moved hW.alike hK, px_N.warm hW hN, (g_D hD iC hn hC).weaken (fun _ _ _ _ => trivial)⟩
theorem px_recv (hK : va_K E.1 vwCl (tyE E) s) (hP : va_P E.1 vwCl gs.flatten H) (iC : List Nat) (hC : iC.map (fun i => gs[i]?) = gc.map some) (k ci : Nat) {q : vw_C} {fs : List Value} (hc : vwCl[ci]? = some q) (he : gc.flatten[k]? = some (b, .inr (ci, fs))) (hq : q.1 = C) : ∃ cellB : Cell, H[b]? = some cellB ∧ cellB.vm.isStatics = false ∧ s.vm.findClass C = some cellB.cls := by
  subst hq
  exact va_recv hK (g_P hP iC hC) hc he
/-- a virtual call that writes -/
theorem px_V (S : CallFix p m c cc nL s args lw_all own) (hM : MW l y bytes maxL ret rm E (.ref b :: As) gc.flatten mc ms v g1.flatten) (cw : CallW R s args own C index y bytes maxL ret (ws_ y bytes maxL ret) rm mc ms n)
    (hK : va_K E.1 vwCl (tyE E) s) (hN : px_N s) (hP : va_P E.1 vwCl gs.flatten H) (hD : va_D A0 gs.flatten) (hS : va_S A0 H0 H locs) (hA : ∀ q, H0.size ≤ q → A0 q)
    (iR iC iF : List Nat) (hR : iR.map (fun i => gs[i]?) = gr.map some) (hC : iC.map (fun i => gs[i]?) = gc.map some) (hn : va_nd (iR ++ iC) = true) (hnC : va_nd iC = true) (hF : iF.map (fun i => (gr ++ g1)[i]?) = g2.map some) (hnF : va_nd iF = true)
    (k ci : Nat) {q : vw_C} {fs : List Value} (hc : vwCl[ci]? = some q) (he : gc.flatten[k]? = some (b, .inr (ci, fs))) (hq : q.1 = C)
    (hlen : As.length = n) (hls : ls.size = nL) (hst : st0 = As.reverse ++ .ref b :: rest) (hroom : (rest.map fun v => v.category).sum ≤ 8) (hdg : decode cc pc = .ok (.invokevirtual index, 3)) (hf : cells + mc ≤ R.cells ∧ slots + ms ≤ R.slots)
    (kk : ∀ (H1 : Heap) (locs1 : List Loc), va_P E.1 vwCl g2.flatten H1 → va_D A0 g2.flatten → va_S A0 H0 H1 locs1 → W p l e R s m args below meth c H1 locs1 (cells + mc) (slots + ms) Q (F0 m (pc + 3) ls (v.toList ++ rest))) : W p l e R s m args below meth c H locs cells slots Q (F0 m pc ls st0) :=
  px_go (va_runV S (hM H.size) cw ⟨PW_blind, px_recv hK hP iC hC k ci hc he hq, px_pre hK hN hP hD iC hC hnC⟩ rfl hlen hls hst (lv_room (pc := pc) (ls := ls) (m := m) (rest := []) hroom) hdg hf) hP hD hS hA iR iC iF hR hC hn hF hnF kk
/-- a virtual call that only reads -/
theorem px_Vp (S : CallFix p m c cc nL s args lw_all own) (hM : MP l y bytes maxL ret rm E (.ref b :: As) gc.flatten v) (cw : CallW R s args own C index y bytes maxL ret (ws_ y bytes maxL ret) rm 0 0 n)
    (hK : va_K E.1 vwCl (tyE E) s) (hN : px_N s) (hP : va_P E.1 vwCl gs.flatten H) (hD : va_D A0 gs.flatten)
    (iC : List Nat) (hC : iC.map (fun i => gs[i]?) = gc.map some) (hnC : va_nd iC = true)
    (k ci : Nat) {q : vw_C} {fs : List Value} (hc : vwCl[ci]? = some q) (he : gc.flatten[k]? = some (b, .inr (ci, fs))) (hq : q.1 = C)
    (hlen : As.length = n) (hls : ls.size = nL) (hst : st0 = As.reverse ++ .ref b :: rest) (hroom : (rest.map fun v => v.category).sum ≤ 8) (hdg : decode cc pc = .ok (.invokevirtual index, 3)) (hf : cells + 0 ≤ R.cells ∧ slots + 0 ≤ R.slots)
    (kk : W p l e R s m args below meth c H locs cells slots Q (F0 m (pc + 3) ls (v.toList ++ rest))) : W p l e R s m args below meth c H locs cells slots Q (F0 m pc ls st0) :=
  px_goP (va_runV S (hM H.size) cw ⟨PW_blind, px_recv hK hP iC hC k ci hc he hq, px_pre hK hN hP hD iC hC hnC⟩ rfl hlen hls hst (lv_room (pc := pc) (ls := ls) (m := m) (rest := []) hroom) hdg hf) kk
/-- a static call that only reads -/
theorem px_Sp (S : CallFix p m c cc nL s args lw_all own) (hM : MP l y bytes maxL ret rm E As gc.flatten v) (cw : CallB R s args own index y bytes maxL ret (ws_ y bytes maxL ret) rm 0 0 n ∧ (Cond.static y).before args s = true)
    (hK : va_K E.1 vwCl (tyE E) s) (hN : px_N s) (hP : va_P E.1 vwCl gs.flatten H) (hD : va_D A0 gs.flatten)
    (iC : List Nat) (hC : iC.map (fun i => gs[i]?) = gc.map some) (hnC : va_nd iC = true)
    (hlen : As.length = n) (hls : ls.size = nL) (hst : st0 = As.reverse ++ rest) (hroom : (rest.map fun v => v.category).sum ≤ 8) (hdg : decode cc pc = .ok (.invokestatic index, 3)) (hf : cells + 0 ≤ R.cells ∧ slots + 0 ≤ R.slots)
    (kk : W p l e R s m args below meth c H locs cells slots Q (F0 m (pc + 3) ls (v.toList ++ rest))) : W p l e R s m args below meth c H locs cells slots Q (F0 m pc ls st0) :=
  px_goP (va_runS S (hM H.size) cw ⟨PW_blind, px_pre hK hN hP hD iC hC hnC⟩ rfl hlen hls hst (lv_room (pc := pc) (ls := ls) (m := m) (rest := []) hroom) hdg hf) kk
/-- a static call of a nest mate's private method that only reads -/
theorem px_SNp {host : String} (S : CallFix p m c cc nL s args lw_all own) (hM : MP l y bytes maxL ret rm E As gc.flatten v) (cw : va_CN R s args own index y host bytes maxL ret (ws_ y bytes maxL ret) rm 0 0 n ∧ (Cond.static y).before args s = true ∧ True)
    (hK : va_K E.1 vwCl (tyE E) s) (hN : px_N s) (hP : va_P E.1 vwCl gs.flatten H) (hD : va_D A0 gs.flatten)
    (iC : List Nat) (hC : iC.map (fun i => gs[i]?) = gc.map some) (hnC : va_nd iC = true)
    (hlen : As.length = n) (hls : ls.size = nL) (hst : st0 = As.reverse ++ rest) (hroom : (rest.map fun v => v.category).sum ≤ 8) (hdg : decode cc pc = .ok (.invokestatic index, 3)) (hf : cells + 0 ≤ R.cells ∧ slots + 0 ≤ R.slots)
    (kk : W p l e R s m args below meth c H locs cells slots Q (F0 m (pc + 3) ls (v.toList ++ rest))) : W p l e R s m args below meth c H locs cells slots Q (F0 m pc ls st0) :=
  px_goP (va_runSN S (hM H.size) cw ⟨PW_blind, px_pre hK hN hP hD iC hC hnC⟩ rfl hlen hls hst (lv_room (pc := pc) (ls := ls) (m := m) (rest := []) hroom) hdg hf) kk
/-- a constructor -/
theorem px_I (S : CallFix p m c cc nL s args lw_all own) (hM : MW l y bytes maxL none rm E (.ref b :: As) gc.flatten mc ms v g1.flatten) (cw : CallB R s args own index y bytes maxL none (ws_ y bytes maxL none) rm mc ms n ∧ y.name = "<init>" ∧ (Cond.instanceMethod y).before args s = true)
    (hK : va_K E.1 vwCl (tyE E) s) (hN : px_N s) (hP : va_P E.1 vwCl gs.flatten H) (hD : va_D A0 gs.flatten) (hS : va_S A0 H0 H locs) (hA : ∀ q, H0.size ≤ q → A0 q)
    (iR iC iF : List Nat) (hR : iR.map (fun i => gs[i]?) = gr.map some) (hC : iC.map (fun i => gs[i]?) = gc.map some) (hn : va_nd (iR ++ iC) = true) (hnC : va_nd iC = true) (hF : iF.map (fun i => (gr ++ g1)[i]?) = g2.map some) (hnF : va_nd iF = true)
    (hlen : As.length = n) (hls : ls.size = nL) (hst : st0 = As.reverse ++ .ref b :: rest) (hroom : (rest.map fun v => v.category).sum ≤ 8) (hdg : decode cc pc = .ok (.invokespecial index, 3)) (hf : cells + mc ≤ R.cells ∧ slots + ms ≤ R.slots)
    (kk : ∀ (H1 : Heap) (locs1 : List Loc), va_P E.1 vwCl g2.flatten H1 → va_D A0 g2.flatten → va_S A0 H0 H1 locs1 → W p l e R s m args below meth c H1 locs1 (cells + mc) (slots + ms) Q (F0 m (pc + 3) ls (v.toList ++ rest))) : W p l e R s m args below meth c H locs cells slots Q (F0 m pc ls st0) :=
  px_go (va_runI S (hM H.size) cw ⟨PW_blind, px_pre hK hN hP hD iC hC hnC⟩ rfl hlen hls hst (lv_room (pc := pc) (ls := ls) (m := m) (rest := []) hroom) hdg hf) hP hD hS hA iR iC iF hR hC hn hF hnF kk
end PXC
/-! small words of the methods' functions -/
def ch (x : Int32) : Int32 := (x.toUInt32 % 65536).toInt32
theorem ch_n (x : Int32) : narrow .char (.int (ch x)) = .int (ch x) := pk_nc x
theorem ch_f (x : Int32) : fits .char (.int (ch x)) = true := pk_fc x
theorem ch_v (x : Int32) : vp_nar .char x = ch x := vp_nar_char x
theorem ch_u (f : AI) (k : Nat) (x : Int32) : upd (fun j => ch (f j)) k (vp_nar .char x) = fun j => ch (upd f k x j) := by
  funext j
  unfold upd
  split
  · exact ch_v x
  · rfl
def b2i (b : Bool) : Int32 := if b then 1 else 0
theorem b2i_n (b : Bool) : narrow .boolean (.int (b2i b)) = .int (b2i b) := by cases b <;> decide +kernel
theorem ob {α β : Type} {x : Option α} {f : α → Option β} {y : β} (h : x.bind f = some y) : ∃ a, x = some a ∧ f a = some y := Option.bind_eq_some_iff.mp h
theorem o_t {α : Type} {P : Prop} [inst : Decidable P] {x : Option α} {y : α} (h : (if P then x else none) = some y) : P ∧ x = some y := by
  by_cases hp : P
  · rw [if_pos hp] at h; exact ⟨hp, h⟩
  · rw [if_neg hp] at h; cases h
/-! a method's start and end -/
def px_C (p : Program) (s : State) (m : MethodId) (args : Array Value) (meth : Method) (cd : Code) (y : MethodName) (c : ByteArray) (n : Nat) (ret : Option FieldType) (E : PE) (R rm : Room) (A : Nat → Prop) (ws : va_W) (ls : Array Slot) (av : List Value) : Prop :=
  p.tables.exec = Jvm.exec ∧ cd.code = c ∧ meth.sig.returnType = ret ∧ cd.maxLocals = n ∧ (∀ w ∈ lw_all, w.before args s = true) ∧ s.vm.findClass y.cls = some m.cls ∧ meth.locks = false ∧ R = rm ∧ va_K E.1 vwCl (tyE E) s ∧ px_N s ∧ va_P E.1 vwCl ws s.heap ∧ va_D A ws ∧ (∀ q : Nat, s.heap.size ≤ q → A q) ∧ lv_has ls n (lv_args 0 av) ∧ meth.name = y.name
theorem px_startP {l : Launch} {y : MethodName} {c : ByteArray} {n : Nat} {ret : Option FieldType} {rm : Room} {E : PE} {av : List Value} {ws : va_W} {v : Option Value} (hy : plainName y.cls = true) (hlen : (lg_sl av).length ≤ n)
    (body : ∀ (p : Program) (e : Env) (s : State) (m : MethodId) (args : Array Value) (below : List Frame) (meth : Method) (cd : Code) (R : Room) (Q : State → Prop) (A : Nat → Prop) (ls : Array Slot), px_C p s m args meth cd y c n ret E R rm A ws ls av → Q = MQ below (QP v) args s 0 0 (fun _ => False) → W p l e R s m args below meth cd s.heap [] 0 0 Q (F0 m 0 ls [])) : MP l y c n ret rm E av ws v := by
  intro sz
  refine Met.ofW (cc := c) (maxL := n) (ret := ret) hy rfl ?_
  intro p e s m args below meth cd s₁ B hml hv
  obtain ⟨rfl, hsz, hP, hK, hN, hD0⟩ := hv
  have hl := lv_entry av hlen
  rw [lg_entry_eq]
  generalize (lg_sl av ++ List.replicate (n - (lg_sl av).length) Slot.unset).toArray = ls at hl ⊢
  exact body p e s m av.toArray below meth cd _ _ (va_A ws s.heap.size) ls ⟨B.exec, B.bytes, B.returns, hml, ws_hts (atoms_spec (ws := ws_ y c n ret) B.pre), findClass_of_methodNamed B.named, B.notSynchronized, rfl, hK, hN, hP, hD0.self, fun q h => Or.inr h, hl, (name_of_methodNamed B.named B.method).1⟩ rfl
theorem px_startW {l : Launch} {y : MethodName} {c : ByteArray} {n mc ms : Nat} {ret : Option FieldType} {rm : Room} {E : PE} {av : List Value} {ws ws' : va_W} {v : Option Value} (hy : plainName y.cls = true) (hlen : (lg_sl av).length ≤ n)
    (body : ∀ (p : Program) (e : Env) (s : State) (m : MethodId) (args : Array Value) (below : List Frame) (meth : Method) (cd : Code) (R : Room) (Q : State → Prop) (A : Nat → Prop) (ls : Array Slot), px_C p s m args meth cd y c n ret E R rm A ws ls av → A = va_A ws s.heap.size → Q = MQ below (QW E ws s.heap.size v ws') args s mc ms (va_A ws s.heap.size) → W p l e R s m args below meth cd s.heap [] 0 0 Q (F0 m 0 ls [])) : MW l y c n ret rm E av ws mc ms v ws' := by
  intro sz
  refine Met.ofW (cc := c) (maxL := n) (ret := ret) hy rfl ?_
  intro p e s m args below meth cd s₁ B hml hv
  obtain ⟨rfl, hsz, hP, hK, hN, hD0⟩ := hv
  subst hsz
  have hl := lv_entry av hlen
  rw [lg_entry_eq]
  generalize (lg_sl av ++ List.replicate (n - (lg_sl av).length) Slot.unset).toArray = ls at hl ⊢
  exact body p e s m av.toArray below meth cd _ _ (va_A ws s.heap.size) ls ⟨B.exec, B.bytes, B.returns, hml, ws_hts (atoms_spec (ws := ws_ y c n ret) B.pre), findClass_of_methodNamed B.named, B.notSynchronized, rfl, hK, hN, hP, hD0.self, fun q h => Or.inr h, hl, (name_of_methodNamed B.named B.method).1⟩ rfl rfl
section PXE
variable {p : Program} {l : Launch} {e : Env} {R : Room} {s : State} {m : MethodId} {args : Array Value} {below : List Frame} {meth : Method} {c : Code} {H : Heap} {locs : List Loc} {cells slots : Nat} {Q : State → Prop}
variable {cc : ByteArray} {pc mc ms : Nat} {E : PE} {A : Nat → Prop} {ws ws' : va_W} {ls : Array Slot} {x : Int32} {z : UInt32} {d : UInt64}
theorem px_qw {v : Option Value} (hA : A = va_A ws s.heap.size) (hP : va_P E.1 vwCl ws' H) (hD : va_D A ws') (hS : va_S A s.heap H locs) : ∀ t : State, t.heap = H → s.WarmedH t.vm → QW E ws s.heap.size v ws' args s (.returned v) t := by
  subst hA
  exact fun t ht hW => ⟨⟨rfl, by rw [ht]; exact hP, hD⟩, hS.F ht⟩
theorem px_ePi (hQ : Q = MQ below (QP (some (.int x))) args s 0 0 (fun _ => False)) (hx : p.tables.exec = Jvm.exec) (hb : c.code = cc) (hr : meth.sig.returnType = some .int) (hlocks : meth.locks = false) (hdg : decode cc pc = .ok (.ireturn, 1)) : W p l e R s m args below meth c s.heap [] 0 0 Q (F0 m pc ls [.int x]) := by
  subst hQ; exact W.iret hx hb hr (fun t ht _ => ⟨rfl, ht⟩) (fun q h => by cases h) hdg
theorem px_ePz {ty : FieldType} (hn : narrow ty (.int x) = .int x) (hQ : Q = MQ below (QP (some (.int x))) args s 0 0 (fun _ => False)) (hx : p.tables.exec = Jvm.exec) (hb : c.code = cc) (hr : meth.sig.returnType = some ty) (hlocks : meth.locks = false) (hdg : decode cc pc = .ok (.ireturn, 1)) : W p l e R s m args below meth c s.heap [] 0 0 Q (F0 m pc ls [.int x]) := by
  subst hQ; exact W.zret hx hb hr hn (fun t ht _ => ⟨rfl, ht⟩) (fun q h => by cases h) hdg
theorem px_ePa {rt : FieldType} {b : Nat} (hrt : (∃ n, rt = .object n) ∨ ∃ t, rt = .array t) (hQ : Q = MQ below (QP (some (.ref b))) args s 0 0 (fun _ => False)) (hx : p.tables.exec = Jvm.exec) (hb : c.code = cc) (hr : meth.sig.returnType = some rt) (hlocks : meth.locks = false) (hdg : decode cc pc = .ok (.areturn, 1)) : W p l e R s m args below meth c s.heap [] 0 0 Q (F0 m pc ls [.ref b]) := by
  subst hQ; exact W.aret hx hb hr hrt (Or.inr ⟨_, rfl⟩) (fun t ht _ => ⟨rfl, ht⟩) (fun q h => by cases h) hdg
theorem px_ePf (hQ : Q = MQ below (QP (some (.float z))) args s 0 0 (fun _ => False)) (hx : p.tables.exec = Jvm.exec) (hb : c.code = cc) (hr : meth.sig.returnType = some .float) (hlocks : meth.locks = false) (hdg : decode cc pc = .ok (.freturn, 1)) : W p l e R s m args below meth c s.heap [] 0 0 Q (F0 m pc ls [.float z]) := by
  subst hQ; exact W.fret hx hb hr (fun t ht _ => ⟨rfl, ht⟩) (fun q h => by cases h) hdg
theorem px_ePd (hQ : Q = MQ below (QP (some (.double d))) args s 0 0 (fun _ => False)) (hx : p.tables.exec = Jvm.exec) (hb : c.code = cc) (hr : meth.sig.returnType = some .double) (hlocks : meth.locks = false) (hdg : decode cc pc = .ok (.dreturn, 1)) : W p l e R s m args below meth c s.heap [] 0 0 Q (F0 m pc ls [.double d]) := by
  subst hQ; exact W.dret hx hb hr (fun t ht _ => ⟨rfl, ht⟩) (fun q h => by cases h) hdg
theorem px_eWi (hA : A = va_A ws s.heap.size) (hQ : Q = MQ below (QW E ws s.heap.size (some (.int x)) ws') args s cells slots (va_A ws s.heap.size)) (hP : va_P E.1 vwCl ws' H) (hD : va_D A ws') (hS : va_S A s.heap H locs) (hx : p.tables.exec = Jvm.exec) (hb : c.code = cc) (hr : meth.sig.returnType = some .int) (hlocks : meth.locks = false) (hdg : decode cc pc = .ok (.ireturn, 1)) : W p l e R s m args below meth c H locs cells slots Q (F0 m pc ls [.int x]) := by
  subst hQ; exact W.iret hx hb hr (px_qw hA hP hD hS) (by rw [← hA]; exact hS.2.2) hdg
theorem px_eWz {ty : FieldType} (hn : narrow ty (.int x) = .int x) (hA : A = va_A ws s.heap.size) (hQ : Q = MQ below (QW E ws s.heap.size (some (.int x)) ws') args s cells slots (va_A ws s.heap.size)) (hP : va_P E.1 vwCl ws' H) (hD : va_D A ws') (hS : va_S A s.heap H locs) (hx : p.tables.exec = Jvm.exec) (hb : c.code = cc) (hr : meth.sig.returnType = some ty) (hlocks : meth.locks = false) (hdg : decode cc pc = .ok (.ireturn, 1)) : W p l e R s m args below meth c H locs cells slots Q (F0 m pc ls [.int x]) := by
  subst hQ; exact W.zret hx hb hr hn (px_qw hA hP hD hS) (by rw [← hA]; exact hS.2.2) hdg
theorem px_eWf (hA : A = va_A ws s.heap.size) (hQ : Q = MQ below (QW E ws s.heap.size (some (.float z)) ws') args s cells slots (va_A ws s.heap.size)) (hP : va_P E.1 vwCl ws' H) (hD : va_D A ws') (hS : va_S A s.heap H locs) (hx : p.tables.exec = Jvm.exec) (hb : c.code = cc) (hr : meth.sig.returnType = some .float) (hlocks : meth.locks = false) (hdg : decode cc pc = .ok (.freturn, 1)) : W p l e R s m args below meth c H locs cells slots Q (F0 m pc ls [.float z]) := by
  subst hQ; exact W.fret hx hb hr (px_qw hA hP hD hS) (by rw [← hA]; exact hS.2.2) hdg
theorem px_eWd (hA : A = va_A ws s.heap.size) (hQ : Q = MQ below (QW E ws s.heap.size (some (.double d)) ws') args s cells slots (va_A ws s.heap.size)) (hP : va_P E.1 vwCl ws' H) (hD : va_D A ws') (hS : va_S A s.heap H locs) (hx : p.tables.exec = Jvm.exec) (hb : c.code = cc) (hr : meth.sig.returnType = some .double) (hlocks : meth.locks = false) (hdg : decode cc pc = .ok (.dreturn, 1)) : W p l e R s m args below meth c H locs cells slots Q (F0 m pc ls [.double d]) := by
  subst hQ; exact W.dret hx hb hr (px_qw hA hP hD hS) (by rw [← hA]; exact hS.2.2) hdg
theorem px_eWv (hA : A = va_A ws s.heap.size) (hQ : Q = MQ below (QW E ws s.heap.size none ws') args s cells slots (va_A ws s.heap.size)) (hP : va_P E.1 vwCl ws' H) (hD : va_D A ws') (hS : va_S A s.heap H locs) (hx : p.tables.exec = Jvm.exec) (hb : c.code = cc) (hr : meth.sig.returnType = none) (hlocks : meth.locks = false) (hdg : decode cc pc = .ok (.return_, 1)) : W p l e R s m args below meth c H locs cells slots Q (F0 m pc ls []) := by
  subst hQ; exact W.vret hx hb hr (px_qw hA hP hD hS) (by rw [← hA]; exact hS.2.2) hdg
/-- a switch that goes to its default -/
theorem px_tdef (hexec : p.tables.exec = Jvm.exec) (hb : c.code = cc) {dflt lo hi : Int} {offs : Array Int} {len : Nat} {tgt : Nat} {rest : List Value} (hdg : decode cc pc = .ok (.tableswitch dflt lo hi offs, len)) (ho : ¬ x.toInt < lo → ¬ hi < x.toInt → offs[(x.toInt - lo).toNat]? = some dflt) (ht : (pc : Int) + dflt = (tgt : Int)) (k : W p l e R s m args below meth c H locs cells slots Q (F0 m tgt ls rest)) : W p l e R s m args below meth c H locs cells slots Q (F0 m pc ls (.int x :: rest)) := by
  by_cases h1 : x.toInt < lo
  · exact lv_tableOut hexec hb hdg (Or.inl h1) ht k
  · by_cases h2 : hi < x.toInt
    · exact lv_tableOut hexec hb hdg (Or.inr h2) ht k
    · exact lv_tableIn hexec hb hdg h1 h2 (ho h1 h2) ht k
end PXE
def inb (i : Int32) (n : Nat) : Bool := decide (0 ≤ i.toInt ∧ i.toInt < n)
theorem inb_in {i : Int32} {n : Nat} (h : inb i n = true) : vp_in i n := vp_in_iff.mpr (of_decide_eq_true h)
theorem inb_nI {k n : Nat} (h : k < n) (hn : n < 2 ^ 31) : inb (nI k) n = true := by
  unfold inb; rw [nI_toInt (by omega)]; exact decide_eq_true ⟨by omega, by omega⟩
def nn32 (r : UInt32) : Bool := decide (r &&& 0x7fffffff ≤ 0x7f800000)
theorem nn32_ok {r : UInt32} (h : nn32 r = true) : vf_n32 r := show r &&& 0x7fffffff ≤ 0x7f800000 from of_decide_eq_true h
def nn64 (r : UInt64) : Bool := decide (r &&& 0x7fffffffffffffff ≤ 0x7ff0000000000000)
theorem nn64_ok {r : UInt64} (h : nn64 r = true) : vf_n64 r := show r &&& 0x7fffffffffffffff ≤ 0x7ff0000000000000 from of_decide_eq_true h
def fuel : Nat := 2000
theorem px_cpyP {D : va_G} {cl : List vw_C} {H : Heap} {ws ws2 : va_W} {a : Nat} {cA : ClassId} {n : Nat} {f g : AI} (k : Nat) (hP : va_P D cl ws H) (h1 : ws[k]? = some (a, .inl (cA, n, .inl (va_cpy f g 0 0 n)))) (h2 : ws2 = ws.set k (a, .inl (cA, n, .inl f))) : va_P D cl ws2 H := by
  have he : (a, (.inl (cA, n, .inl (va_cpy f g 0 0 n)) : va_E)) = (a, .inl (cA, n, .inl (va_cpy f g 0 0 n))) := rfl
  rw [px_P_iff] at hP ⊢
  intro q hq
  rw [h2] at hq
  rcases List.mem_or_eq_of_mem_set hq with h | h
  · exact hP q h
  · subst h
    have h3 := hP _ (List.mem_of_getElem? h1)
    show H[a]? = some (vp_cell cA (n, .inl f))
    have h4 : H[a]? = some (vp_cell cA (n, .inl (va_cpy f g 0 0 n))) := h3
    rw [h4, vp_cell_i, vp_cell_i]
    unfold arrV
    congr 2
    congr 1
    funext j
    show Value.int (va_cpy f g 0 0 n j.val) = Value.int (f j.val)
    unfold va_cpy
    rw [if_pos ⟨Nat.zero_le _, by have := j.isLt; omega⟩]
    congr 2
    omega
theorem px_setD {A : Nat → Prop} {ws ws2 : va_W} {a : Nat} {e : va_E} (k : Nat) (hD : va_D A ws) (h1 : ws[k]? = some (a, e) ) {e2 : va_E} (h2 : ws2 = ws.set k (a, e2)) : va_D A ws2 := by
  rw [h2]; exact hD.set h1
def lt {α β : Type} (a : α) (f : α → β) : β := f a
theorem lt_e {α β : Type} {a : α} {f : α → β} {y : β} (h : lt a f = y) : ∃ z, z = a ∧ f z = y := ⟨a, rfl, h⟩
