def gAI (E : PE) (q n : Nat) (f : AI) : va_W := [(q, .inl (E.2.1, n, .inl f))]
def gAC (E : PE) (q n : Nat) (f : AI) : va_W := [(q, .inl (E.2.2.1, n, .inl (fun j => ch (f j))))]
theorem px_arrI {E : PE} {s : State} {cA : ClassId} (hK : va_K E.1 vwCl (tyE E ++ [(cA, .int)]) s) : cA = E.2.1 := by
  have h1 := (hK.2 3 (cA, .int) rfl).2
  have h2 := (hK.2 0 (E.2.1, .int) rfl).2
  have h1 : s.vm.findClass ("[" ++ FieldType.int.toString) = some cA := h1
  have h2 : s.vm.findClass ("[" ++ FieldType.int.toString) = some E.2.1 := h2
  exact Option.some.inj (h1.symm.trans h2)
theorem px_arrC {E : PE} {s : State} {cA : ClassId} (hK : va_K E.1 vwCl (tyE E ++ [(cA, .char)]) s) : cA = E.2.2.1 := by
  have h1 := (hK.2 3 (cA, .char) rfl).2
  have h2 := (hK.2 1 (E.2.2.1, .char) rfl).2
  have h1 : s.vm.findClass ("[" ++ FieldType.char.toString) = some cA := h1
  have h2 : s.vm.findClass ("[" ++ FieldType.char.toString) = some E.2.2.1 := h2
  exact Option.some.inj (h1.symm.trans h2)
section PXN
variable {p : Program} {l : Launch} {e : Env} {R : Room} {s : State} {m : MethodId} {args : Array Value} {below : List Frame} {meth : Method} {c : Code} {H : Heap} {locs : List Loc} {cells slots : Nat} {Q : State → Prop}
variable {cc : ByteArray} {pc N : Nat} {ls : Array Slot} {rest : List Value} {E : PE} {A : Nat → Prop} {H0 : Heap} {gs : List va_W} {n : Int32}
theorem px_newI (hexec : p.tables.exec = Jvm.exec) (hb : c.code = cc) (harr : (Cond.arrayClass .int).before args s = true) (hK : va_K E.1 vwCl (tyE E) s) (hP : va_P E.1 vwCl gs.flatten H) (hD : va_D A gs.flatten) (hS : va_S A H0 H locs) (hA : ∀ q, H0.size ≤ q → A q)
    (hn : ¬ n < 0) (hN : n.toNatClampNeg = N) (hbytes : N * 4 ≤ 536870912) (hcells : cells + 1 ≤ R.cells) (hslots : slots + N ≤ R.slots) (hdg : decode cc pc = .ok (.newarray .int, 2))
    (kk : ∀ (q : Nat) (H1 : Heap), va_P E.1 vwCl (gs ++ [gAI E q N (fun _ => 0)]).flatten H1 → va_D A (gs ++ [gAI E q N (fun _ => 0)]).flatten → va_S A H0 H1 locs →
      W p l e R s m args below meth c H1 locs (cells + 1) (slots + N) Q (F0 m (pc + 2) ls (.ref q :: rest))) : W p l e R s m args below meth c H locs cells slots Q (F0 m pc ls (.int n :: rest)) := by
  refine va_newa (atype := .int) (a0 := (N, .inl (fun _ => 0))) hexec hb harr rfl hK hP hD hS hA (fun _ => rfl) hn hN hbytes hcells hslots hdg (fun q cA H1 hK1 hP1 hD1 hS1 => ?_)
  have hc := px_arrI hK1
  subst hc
  have e1 : (gs ++ [gAI E q N (fun _ => 0)]).flatten = gs.flatten ++ [(q, .inl (E.2.1, N, .inl (fun _ => 0)))] := by simp [gAI]
  exact kk q H1 (by rw [e1]; exact hP1) (by rw [e1]; exact hD1) hS1
theorem px_newC (hexec : p.tables.exec = Jvm.exec) (hb : c.code = cc) (harr : (Cond.arrayClass .char).before args s = true) (hK : va_K E.1 vwCl (tyE E) s) (hP : va_P E.1 vwCl gs.flatten H) (hD : va_D A gs.flatten) (hS : va_S A H0 H locs) (hA : ∀ q, H0.size ≤ q → A q)
    (hn : ¬ n < 0) (hN : n.toNatClampNeg = N) (hbytes : N * 2 ≤ 536870912) (hcells : cells + 1 ≤ R.cells) (hslots : slots + N ≤ R.slots) (hdg : decode cc pc = .ok (.newarray .char, 2))
    (kk : ∀ (q : Nat) (H1 : Heap), va_P E.1 vwCl (gs ++ [gAC E q N (fun _ => 0)]).flatten H1 → va_D A (gs ++ [gAC E q N (fun _ => 0)]).flatten → va_S A H0 H1 locs →
      W p l e R s m args below meth c H1 locs (cells + 1) (slots + N) Q (F0 m (pc + 2) ls (.ref q :: rest))) : W p l e R s m args below meth c H locs cells slots Q (F0 m pc ls (.int n :: rest)) := by
  refine va_newa (atype := .char) (a0 := (N, .inl (fun j => ch ((fun _ => 0) j)))) hexec hb harr rfl hK hP hD hS hA (fun _ => rfl) hn hN hbytes hcells hslots hdg (fun q cA H1 hK1 hP1 hD1 hS1 => ?_)
  have hc := px_arrC hK1
  subst hc
  have e1 : (gs ++ [gAC E q N (fun _ => 0)]).flatten = gs.flatten ++ [(q, .inl (E.2.2.1, N, .inl (fun j => ch ((fun _ => 0) j))))] := by simp [gAC]
  exact kk q H1 (by rw [e1]; exact hP1) (by rw [e1]; exact hD1) hS1
theorem px_ldcwf0 {T : State} (X : Stand p l e R s m args below meth c T locs cells slots) (hexec : p.tables.exec = Jvm.exec) {own : String} {index : Nat} {v : UInt32} (hown : s.vm.findClass own = some m.cls)
    (hconst : (Cond.constantFloat own index v).before args s = true) {g : JFrame} (hg : g.method = m) (hdg : decode c.code g.pc = .ok (.ldc_w index, 3)) :
    ∀ target, Steps p.tables e below (T.setTop { g with pc := g.pc + 3, stack := .float v :: g.stack }) target → Steps p.tables e below (T.setTop g) target := by
  obtain ⟨k, cf, hk, hcf, hcp⟩ := Cond.constantFloat_spec hown hconst
  obtain ⟨k', hk', he⟩ := X.warmed.alike.2.2 _ _ hk
  intro target hrest
  subst hg
  jvm_step X.here [hexec, hdg, ldc_w.wp_float (s := T) (f := g) X.here.top hk' (by rw [he]; exact hcf) hcp]
  exact hrest
theorem px_ldcwf (hexec : p.tables.exec = Jvm.exec) (hb : c.code = cc) {own : String} {index : Nat} {v : UInt32} (hown : s.vm.findClass own = some m.cls) (hconst : (Jvm.Cond.constantFloat own index v).before args s = true) (hdg : decode cc pc = .ok (.ldc_w index, 3)) (k : W p l e R s m args below meth c H locs cells slots Q (F0 m (pc + 3) ls (.float v :: rest))) : W p l e R s m args below meth c H locs cells slots Q (F0 m pc ls rest) := by
  intro T hT X
  obtain ⟨t, a, b⟩ := k T hT X
  exact ⟨t, px_ldcwf0 X hexec hown hconst (g := F0 m pc ls rest) rfl (by rw [hb]; exact hdg) t a, b⟩
end PXN
