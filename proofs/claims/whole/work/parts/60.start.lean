/-! the start: what the law's entry gives -/
theorem st_arr {args : Array Value} {s : State} {ty : FieldType} (h : (Cond.arrayClass ty).before args s = true) : ∃ cA, ArrOfT s cA ty ∧ s.vm.findClass ("[" ++ ty.toString) = some cA := by
  obtain ⟨c, k, comp, h1, h2, h3⟩ := Cond.arrayClass_spec h
  exact ⟨c, fun n z => ⟨(fun k h => by cases h), k, h2, comp, h3⟩, h1⟩
set_option maxHeartbeats 4000000 in
theorem st_K {args : Array Value} {s : State} (hts : ∀ w ∈ lw_all, w.before args s = true) (hAO : va_AO "RecipeForests$Forest" s) : ∃ (E : PE) (L : LX), va_K E.1 vwCl (tyE E) s ∧ va_K E.1 vwCl (tyE E ++ [(L.1, .long), (L.2, .double)]) s := by
  obtain ⟨c0, i0, hK0⟩ := u_known (C := RX0) (T := TX0) (N := 4) (n := 4) hts iX0 (hts _ q155)
  obtain ⟨c1, i1, hK1⟩ := u_known (C := RX1) (T := TX1) (N := 11) (n := 11) hts iX1 (hts _ q95)
  obtain ⟨c2, i2, hK2⟩ := u_known (C := RX2) (T := TX2) (N := 3) (n := 3) hts iX2 (hts _ q136)
  obtain ⟨c3, i3, hK3⟩ := u_known (C := RX3) (T := TX3) (N := 2) (n := 2) hts iX3 (hts _ q206)
  obtain ⟨c4, i4, hK4⟩ := u_known (C := RX4) (T := TX4) (N := 2) (n := 2) hts iX4 (hts _ q239)
  obtain ⟨c5, i5, hK5⟩ := u_known (C := RX5) (T := TX5) (N := 3) (n := 3) hts iX5 (hts _ q161)
  obtain ⟨c6, i6, hK6⟩ := u_known (C := RX6) (T := TX6) (N := 4) (n := 4) hts iX6 (hts _ q220)
  obtain ⟨c7, i7, hK7⟩ := u_known (C := RX7) (T := TX7) (N := 3) (n := 3) hts iX7 (hts _ q190)
  obtain ⟨c8, i8, hK8⟩ := u_known (C := RX8) (T := TX8) (N := 11) (n := 11) hts iX8 (hts _ q87)
  obtain ⟨c9, i9, hK9⟩ := u_known (C := RX9) (T := TX9) (N := 21) (n := 21) hts iX9 (hts _ q1193)
  obtain ⟨aI, hI1, hI2⟩ := st_arr (hts _ q134)
  obtain ⟨aC, hC1, hC2⟩ := st_arr (hts _ q218)
  obtain ⟨aL, hL1, hL2⟩ := st_arr (hts _ q1605)
  obtain ⟨aD, hD1, hD2⟩ := st_arr (hts _ q1606)
  obtain ⟨comp, aF, kF, f1, f2, f3, f4, f5⟩ := Cond.arrayOver_spec (va_AO.use (A := args) hAO)
  have hKc : ∀ (c : Nat) (q : vw_C), vwCl[c]? = some q → u_Kn s q.1 q.2.1 q.2.2 (([c0, c1, c2, c3, c4, c5, c6, c7, c8, c9] : List ClassId).getD c 0) (([i0, i1, i2, i3, i4, i5, i6, i7, i8, i9] : List (Nat → Nat)).getD c (fun _ => 0)) := by
    intro c q h
    match c, h with
    | 0, h => cases h; exact hK0
    | 1, h => cases h; exact hK1
    | 2, h => cases h; exact hK2
    | 3, h => cases h; exact hK3
    | 4, h => cases h; exact hK4
    | 5, h => cases h; exact hK5
    | 6, h => cases h; exact hK6
    | 7, h => cases h; exact hK7
    | 8, h => cases h; exact hK8
    | 9, h => cases h; exact hK9
    | n + 10, h => cases h
  have hF : ArrOfT s aF (.object "RecipeForests$Forest") ∧ va_RA s aF (.object "RecipeForests$Forest") := ⟨fun N z => ⟨(fun k h => by cases h), kF, f3, comp, f4⟩, kF, comp, f3, f4, f1, f5⟩
  refine ⟨((fun c => ([c0, c1, c2, c3, c4, c5, c6, c7, c8, c9] : List ClassId).getD c 0, fun c => ([i0, i1, i2, i3, i4, i5, i6, i7, i8, i9] : List (Nat → Nat)).getD c (fun _ => 0)), aI, aC, aF), (aL, aD), ⟨hKc, fun k q h => ?_⟩, ⟨hKc, fun k q h => ?_⟩⟩
  · match k, h with
    | 0, h => cases h; exact ⟨hI1, hI2⟩
    | 1, h => cases h; exact ⟨hC1, hC2⟩
    | 2, h => cases h; exact hF
    | n + 3, h => cases h
  · match k, h with
    | 0, h => cases h; exact ⟨hI1, hI2⟩
    | 1, h => cases h; exact ⟨hC1, hC2⟩
    | 2, h => cases h; exact hF
    | 3, h => cases h; exact ⟨hL1, hL2⟩
    | 4, h => cases h; exact ⟨hD1, hD2⟩
    | n + 5, h => cases h
theorem st_fl {args : Array Value} {s : State} (h : (Jvm.Cond.and given_1 narrow_1).before args s = true) : ∀ c ∈ flatC (Jvm.Cond.and given_1 narrow_1), c.before args s = true := flat_of_before _ h
theorem st_Nc {args : Array Value} {s : State} (h : (Jvm.Cond.and given_1 narrow_1).before args s = true) (i j : Nat) (h1 : 1 ≤ i) (h2 : i ≤ 5) (h3 : 1 ≤ j) (h4 : j ≤ 5) (h5 : i ≠ j) : va_Nc (exn i) (exn j) s := by
  have K : ∀ i : Fin 6, ∀ j : Fin 6, 1 ≤ i.1 → 1 ≤ j.1 → i.1 ≠ j.1 → Cond.not (.castable (exn i.1) (exn j.1)) ∈ flatC (Jvm.Cond.and given_1 narrow_1) := by decide +kernel
  exact va_Nc.of (st_fl h _ (K ⟨i, by omega⟩ ⟨j, by omega⟩ h1 h3 h5))
def st_tm (i : Nat) : Term := .string (strs.getD i ("", 0, "")).1 (strs.getD i ("", 0, "")).2.1
theorem st_ex : ∀ i : Fin 26, Cond.exactly (st_tm i.1) "java/lang/String" ∈ flatC (Jvm.Cond.and given_1 narrow_1) := by decide +kernel
theorem st_co : ∀ i : Fin 7, Cond.eq (.field (st_tm i.1) "java/lang/String" "coder" "B") (.int 0) ∈ flatC (Jvm.Cond.and given_1 narrow_1) := by decide +kernel
theorem st_ar : ∀ i : Fin 7, Cond.arrayOf (.field (st_tm i.1) "java/lang/String" "value" "[B") .byte ∈ flatC (Jvm.Cond.and given_1 narrow_1) := by decide +kernel
theorem st_le : ∀ i : Fin 7, Cond.eq (.length (.field (st_tm i.1) "java/lang/String" "value" "[B")) (.int (Int32.ofNat (sLen.getD i.1 0))) ∈ flatC (Jvm.Cond.and given_1 narrow_1) := by decide +kernel
theorem st_el : ∀ i : Fin 7, ∀ j : Fin 5, j.1 < sLen.getD i.1 0 → Cond.eq (.elem (.field (st_tm i.1) "java/lang/String" "value" "[B") (.int (Int32.ofNat j.1))) (.int ((sByt.getD i.1 []).getD j.1 0)) ∈ flatC (Jvm.Cond.and given_1 narrow_1) := by decide +kernel
theorem st_df : ∀ i : Fin 7, ∀ j : Fin 7, i ≠ j → Int32.ofNat (sLen.getD i.1 0) ≠ Int32.ofNat (sLen.getD j.1 0) ∨ ∃ k : Fin 5, k.1 < sLen.getD i.1 0 ∧ k.1 < sLen.getD j.1 0 ∧ (sByt.getD i.1 []).getD k.1 0 ≠ (sByt.getD j.1 []).getD k.1 0 := by decide +kernel
theorem st_cong {t u : Term} {args : Array Value} {s : State} {v : Value} (ht : t.eval args s none [] s = some v) (hu : u.eval args s none [] s = some v) (C n d : String) : (Term.field t C n d).eval args s none [] s = (Term.field u C n d).eval args s none [] s := by
  simp only [Term.eval, ht, hu]
theorem st_congL {t u : Term} {args : Array Value} {s : State} (h : t.eval args s none [] s = u.eval args s none [] s) : (Term.length t).eval args s none [] s = (Term.length u).eval args s none [] s := by
  simp only [Term.eval, h]
theorem st_congE {t u w : Term} {args : Array Value} {s : State} (h : t.eval args s none [] s = u.eval args s none [] s) : (Term.elem t w).eval args s none [] s = (Term.elem u w).eval args s none [] s := by
  simp only [Term.eval, h]
theorem st_neq {t u : Term} {args : Array Value} {s : State} {a b : Nat} (ht : t.eval args s none [] s = some (.ref a)) (hu : u.eval args s none [] s = some (.ref b)) (hab : a ≠ b) : (Cond.not (Cond.eq t u)).before args s = true := by
  simp [Cond.before, Cond.holds, Cond.value, ht, hu, hab]
theorem st_ref : ∀ i : Fin 26, Cond.stringRef (strs.getD i.1 ("", 0, "")).1 (strs.getD i.1 ("", 0, "")).2.1 (strs.getD i.1 ("", 0, "")).2.2 ∈ lw_tbl := by decide +kernel
theorem st_cast : ∀ w ∈ px_cast, Cond.castable w.1 w.2 ∈ lw_tbl := by decide +kernel
theorem st_decl : ∀ y ∈ px_decl, Cond.declares y ∈ lw_tbl := by decide +kernel
theorem st_nest : ∀ w ∈ px_nest, Cond.methodLinkNest w.1 w.2.1 w.2.2.1 w.2.2.2 ∈ lw_tbl := by decide +kernel
theorem st_ao : Cond.arrayOver (.object "RecipeForests$Forest") ∈ lw_tbl := by decide +kernel
theorem st_evref {t : Term} {n : String} {args : Array Value} {s : State} (h : (Cond.exactly t n).before args s = true) : ∃ a, t.eval args s none [] s = some (.ref a) := by
  cases hv : t.eval args s none [] s with
  | none => simp [Cond.before, Cond.holds, Cond.value, hv] at h
  | some w =>
    cases w with
    | ref a => exact ⟨a, rfl⟩
    | null => simp only [Cond.before, Cond.holds, Cond.value, hv] at h; cases hf : s.vm.findClass n <;> simp [hf] at h
    | _ => simp [Cond.before, Cond.holds, Cond.value, hv] at h
set_option maxHeartbeats 4000000 in
theorem st_X {args : Array Value} {s : State} {A : Nat → Prop} (hA : ∀ a : Nat, a < s.heap.size → ¬ A a) (hts : ∀ w ∈ lw_tbl, w.before args s = true) (h : (Jvm.Cond.and given_1 narrow_1).before args s = true) : ∃ X : PX, px_X X A s s.heap := by
  have fl := st_fl h
  have hne : ∀ i j : Nat, i < 7 → j < 7 → i ≠ j → (Cond.not (Cond.eq (st_tm i) (st_tm j))).before args s = true ∨ (Cond.not (Cond.eq (st_tm j) (st_tm i))).before args s = true := by
    intro i j hi hj hn
    obtain ⟨a, ha⟩ := st_evref (fl _ (st_ex ⟨i, by omega⟩))
    obtain ⟨b, hb⟩ := st_evref (fl _ (st_ex ⟨j, by omega⟩))
    refine Or.inl (st_neq ha hb (fun e => ?_))
    subst e
    have hf := st_cong ha hb "java/lang/String" "value" "[B"
    rcases st_df ⟨i, hi⟩ ⟨j, hj⟩ (fun q => hn (congrArg Fin.val q)) with w | ⟨k, k1, k2, w⟩
    · have e1 := Cond.eq_int (fl _ (st_le ⟨i, hi⟩)) rfl
      have e2 := Cond.eq_int (fl _ (st_le ⟨j, hj⟩)) rfl
      exact w (Value.int.inj (Option.some.inj (e1.symm.trans ((st_congL hf).trans e2))))
    · have e1 := Cond.eq_int (fl _ (st_el ⟨i, hi⟩ k k1)) rfl
      have e2 := Cond.eq_int (fl _ (st_el ⟨j, hj⟩ k k2)) rfl
      exact w (Value.int.inj (Option.some.inj (e1.symm.trans ((st_congE hf).trans e2))))
  obtain ⟨adK, adV, hS, hE⟩ := vk_Sof (args := args) (s := s) (N := 7) (tm := st_tm) (len := sLen) (byt := sByt) (A := A) (fun i hi => (by decide : ∀ i : Fin 7, sLen.getD i.1 0 < 2 ^ 31) ⟨i, hi⟩) (fun i hi => fl _ (st_ex ⟨i, by omega⟩)) (fun i hi => fl _ (st_co ⟨i, hi⟩)) (fun i hi => fl _ (st_ar ⟨i, hi⟩)) (fun i hi => fl _ (st_le ⟨i, hi⟩))
    (fun i hi j hj => fl _ (st_el ⟨i, hi⟩ ⟨j, Nat.lt_of_lt_of_le hj ((by decide : ∀ i : Fin 7, sLen.getD i.1 0 ≤ 5) ⟨i, hi⟩)⟩ hj)) hne hA
  have h2 : ∀ i : Nat, ∃ a, i < 26 → (st_tm i).eval args s none [] s = some (.ref a) := by
    intro i
    by_cases hi : i < 26
    · obtain ⟨a, ha⟩ := st_evref (fl _ (st_ex ⟨i, hi⟩))
      exact ⟨a, fun _ => ha⟩
    · exact ⟨0, fun q => absurd q hi⟩
  have h3 := fun i => (h2 i).choose_spec
  generalize hg : (fun i => (h2 i).choose) = ad2 at *
  have h3 : ∀ i, i < 26 → (st_tm i).eval args s none [] s = some (.ref (ad2 i)) := fun i hi => by rw [← hg]; exact (h2 i).choose_spec hi
  refine ⟨(fun i => if i < 7 then adK i else ad2 i, adV), fun i q hq => ?_, ?_, ?_, ?_, ?_, ?_, fun w hw => va_Nw.of rfl (hts _ (st_cast w hw)), fun y hy => va_Nw.of rfl (hts _ (st_decl y hy))⟩
  · have hi : i < 26 := (List.getElem?_eq_some_iff.mp hq).1
    have hq2 : strs.getD i ("", 0, "") = q := by rw [List.getD_eq_getElem?_getD, hq]; rfl
    have r1 := hts _ (st_ref ⟨i, hi⟩)
    have r2 : (st_tm i).eval args s none [] s = some (.ref (if i < 7 then adK i else ad2 i)) := by
      by_cases h7 : i < 7
      · rw [if_pos h7]; exact hE i h7
      · rw [if_neg h7]; exact h3 i hi
    unfold st_tm at r2
    rw [hq2] at r2
    have r1 : (Cond.stringRef q.1 q.2.1 q.2.2).before args s = true := by rw [← hq2]; exact r1
    exact vk_R.of r1 r2
  · exact ⟨fun i hi => by
      have := hS.1 i hi
      show va_O "java/lang/String" (if i < 7 then adK i else ad2 i) A s s.heap ∧ va_OF "java/lang/String" "coder" "B" (.int 0) (if i < 7 then adK i else ad2 i) A s s.heap ∧ va_OF "java/lang/String" "value" "[B" (.ref (adV i)) (if i < 7 then adK i else ad2 i) A s s.heap ∧ _
      rw [if_pos hi]; exact this, fun i j hi hj e => by
      have e : (if i < 7 then adK i else ad2 i) = (if j < 7 then adK j else ad2 j) := e
      rw [if_pos hi, if_pos hj] at e; exact hS.2 i j hi hj e⟩
  · exact va_Zof (hts _ (by decide +kernel)) (hts _ (by decide +kernel)) (by
      have := fl (Cond.eq (Term.static "java/lang/String" "COMPACT_STRINGS" "Z") (.int 1)) (by decide +kernel)
      exact Cond.eq_int this rfl) hA
  · exact va_Zqof (hts _ (by decide +kernel)) (hts _ (by decide +kernel)) (fl _ (by decide +kernel)) hA
  · exact vx_Zqof (hts _ (by decide +kernel)) (hts _ (by decide +kernel)) (fl _ (by decide +kernel)) hA
  · exact vx_Zqof (hts _ (by decide +kernel)) (hts _ (by decide +kernel)) (fl _ (by decide +kernel)) hA

