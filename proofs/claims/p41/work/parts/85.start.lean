/-! the start: what the law's entry gives -/
theorem st_arr {args : Array Value} {s : State} {ty : FieldType} (h : (Cond.arrayClass ty).before args s = true) : ∃ cA, ArrOfT s cA ty ∧ s.vm.findClass ("[" ++ ty.toString) = some cA := by
  obtain ⟨c, k, comp, h1, h2, h3⟩ := Cond.arrayClass_spec h
  exact ⟨c, fun n z => ⟨(fun k h => by cases h), k, h2, comp, h3⟩, h1⟩
set_option maxHeartbeats 4000000 in
theorem st_K {args : Array Value} {s : State} (hts : ∀ w ∈ lw_all, w.before args s = true) (hAO : va_AO "RecipeForests$Forest" s) : ∃ (E : PE) (aB aL : ClassId), va_K E.1 vwCl (tyE E) s ∧ va_K E.1 vwCl (tyE E ++ [(aB, .byte)]) s ∧ va_K E.1 vwCl (tyE E ++ [(aL, .long)]) s := by
  obtain ⟨c0, i0, hK0⟩ := u_known (C := RX0) (T := TX0) (N := 4) (n := 4) hts iX0 (hts _ q118)
  obtain ⟨c1, i1, hK1⟩ := u_known (C := RX1) (T := TX1) (N := 11) (n := 11) hts iX1 (hts _ q58)
  obtain ⟨c2, i2, hK2⟩ := u_known (C := RX2) (T := TX2) (N := 3) (n := 3) hts iX2 (hts _ q99)
  obtain ⟨c3, i3, hK3⟩ := u_known (C := RX3) (T := TX3) (N := 2) (n := 2) hts iX3 (hts _ q169)
  obtain ⟨c4, i4, hK4⟩ := u_known (C := RX4) (T := TX4) (N := 2) (n := 2) hts iX4 (hts _ q202)
  obtain ⟨c5, i5, hK5⟩ := u_known (C := RX5) (T := TX5) (N := 3) (n := 3) hts iX5 (hts _ q124)
  obtain ⟨c6, i6, hK6⟩ := u_known (C := RX6) (T := TX6) (N := 4) (n := 4) hts iX6 (hts _ q183)
  obtain ⟨c7, i7, hK7⟩ := u_known (C := RX7) (T := TX7) (N := 3) (n := 3) hts iX7 (hts _ q153)
  obtain ⟨c8, i8, hK8⟩ := u_known (C := RX8) (T := TX8) (N := 11) (n := 11) hts iX8 (hts _ q50)
  obtain ⟨c9, i9, hK9⟩ := u_known (C := RJ0) (T := TJ0) (N := 4) (n := 4) hts iJ0 (hts _ q1354)
  obtain ⟨c10, i10, hK10⟩ := u_known (C := RJ4) (T := TJ4) (N := 4) (n := 4) hts iJ4 (hts _ q1196)
  obtain ⟨aI, hI1, hI2⟩ := st_arr (hts _ q97)
  obtain ⟨aC, hC1, hC2⟩ := st_arr (hts _ q181)
  obtain ⟨aL, hL1, hL2⟩ := st_arr (hts _ q1430)
  obtain ⟨aD, hD1, hD2⟩ := st_arr (hts _ q423)
  obtain ⟨comp, aF, kF, f1, f2, f3, f4, f5⟩ := Cond.arrayOver_spec (va_AO.use (A := args) hAO)
  have hKc : ∀ (c : Nat) (q : vw_C), vwCl[c]? = some q → u_Kn s q.1 q.2.1 q.2.2 (([c0, c1, c2, c3, c4, c5, c6, c7, c8, c9, c10] : List ClassId).getD c 0) (([i0, i1, i2, i3, i4, i5, i6, i7, i8, i9, i10] : List (Nat → Nat)).getD c (fun _ => 0)) := by
    intro c q h
    match c, h with
    | 0, h => cases h; exact hK0
    | 1, h => cases h; exact hK1
    | 2, h => cases h; exact hK2
    | 3, h => cases h; exact hK3
    | 4, h => cases h; exact hK4
    | 5, h => cases h; exact hK5
    | 6, h => cases h; exact hK6
    | 7, h => cases h; exact hK7
    | 8, h => cases h; exact hK8
    | 9, h => cases h; exact hK9
    | 10, h => cases h; exact hK10
    | n + 11, h => cases h
  have hF : ArrOfT s aF (.object "RecipeForests$Forest") ∧ va_RA s aF (.object "RecipeForests$Forest") := ⟨fun N z => ⟨(fun k h => by cases h), kF, f3, comp, f4⟩, kF, comp, f3, f4, f1, f5⟩
  refine ⟨((fun c => ([c0, c1, c2, c3, c4, c5, c6, c7, c8, c9, c10] : List ClassId).getD c 0, fun c => ([i0, i1, i2, i3, i4, i5, i6, i7, i8, i9, i10] : List (Nat → Nat)).getD c (fun _ => 0)), aI, aC, aF), aD, aL, ⟨hKc, fun k q h => ?_⟩, ⟨hKc, fun k q h => ?_⟩, ⟨hKc, fun k q h => ?_⟩⟩
  · match k, h with
    | 0, h => cases h; exact ⟨hI1, hI2⟩
    | 1, h => cases h; exact ⟨hC1, hC2⟩
    | 2, h => cases h; exact hF
    | n + 3, h => cases h
  · match k, h with
    | 0, h => cases h; exact ⟨hI1, hI2⟩
    | 1, h => cases h; exact ⟨hC1, hC2⟩
    | 2, h => cases h; exact hF
    | 3, h => cases h; exact ⟨hD1, hD2⟩
    | n + 4, h => cases h
  · match k, h with
    | 0, h => cases h; exact ⟨hI1, hI2⟩
    | 1, h => cases h; exact ⟨hC1, hC2⟩
    | 2, h => cases h; exact hF
    | 3, h => cases h; exact ⟨hL1, hL2⟩
    | n + 4, h => cases h
theorem st_fl {args : Array Value} {s : State} (h : (Jvm.Cond.and given_1 narrow_1).before args s = true) : ∀ c ∈ flatC (Jvm.Cond.and given_1 narrow_1), c.before args s = true := flat_of_before _ h
theorem st_Nc {args : Array Value} {s : State} (h : (Jvm.Cond.and given_1 narrow_1).before args s = true) (i j : Nat) (h1 : 1 ≤ i) (h2 : i ≤ 5) (h3 : 1 ≤ j) (h4 : j ≤ 5) (h5 : i ≠ j) : va_Nc (exn i) (exn j) s := by
  have K : ∀ i : Fin 6, ∀ j : Fin 6, 1 ≤ i.1 → 1 ≤ j.1 → i.1 ≠ j.1 → Cond.not (.castable (exn i.1) (exn j.1)) ∈ flatC (Jvm.Cond.and given_1 narrow_1) := by decide +kernel
  exact va_Nc.of (st_fl h _ (K ⟨i, by omega⟩ ⟨j, by omega⟩ h1 h3 h5))
def st_tm (i : Nat) : Term := .string (strs.getD i ("", 0, "")).1 (strs.getD i ("", 0, "")).2.1
theorem st_ex : ∀ i : Fin 37, Cond.exactly (st_tm i.1) "java/lang/String" ∈ flatC (Jvm.Cond.and given_1 narrow_1) := by decide +kernel
theorem st_co : ∀ i : Fin 17, Cond.eq (.field (st_tm i.1) "java/lang/String" "coder" "B") (.int 0) ∈ flatC (Jvm.Cond.and given_1 narrow_1) := by decide +kernel
theorem st_ar : ∀ i : Fin 17, Cond.arrayOf (.field (st_tm i.1) "java/lang/String" "value" "[B") .byte ∈ flatC (Jvm.Cond.and given_1 narrow_1) := by decide +kernel
theorem st_le : ∀ i : Fin 17, Cond.eq (.length (.field (st_tm i.1) "java/lang/String" "value" "[B")) (.int (Int32.ofNat (sLen.getD i.1 0))) ∈ flatC (Jvm.Cond.and given_1 narrow_1) := by decide +kernel
def sublM : List Cond → List Cond → Bool
  | [], l => l.isEmpty
  | b :: m, l => match l with
    | [] => true
    | a :: l' => if a = b then sublM m l' else sublM m (a :: l')
theorem sublM_mem : ∀ (m l : List Cond), sublM m l = true → ∀ c ∈ l, c ∈ m := by
  intro m
  induction m with
  | nil =>
    intro l h c hc
    cases l with
    | nil => exact absurd hc List.not_mem_nil
    | cons a l => cases h
  | cons b m ih =>
    intro l h c hc
    cases l with
    | nil => exact absurd hc List.not_mem_nil
    | cons a l =>
      unfold sublM at h
      dsimp only at h
      by_cases e : a = b
      · rw [if_pos e] at h
        rcases List.mem_cons.mp hc with rfl | hc
        · rw [e]; exact List.mem_cons_self
        · exact List.mem_cons_of_mem _ (ih l h c hc)
      · rw [if_neg e] at h
        exact List.mem_cons_of_mem _ (ih (a :: l) h c hc)
def st_elT (i j : Nat) : Cond := Cond.eq (.elem (.field (st_tm i) "java/lang/String" "value" "[B") (.int (Int32.ofNat j))) (.int ((sByt.getD i []).getD j 0))
theorem st_elL : sublM (flatC (Jvm.Cond.and given_1 narrow_1)) ((List.range 17).flatMap fun i => (List.range (sLen.getD i 0)).map fun j => st_elT i j) = true := by decide +kernel
theorem st_el (i : Fin 17) (j : Fin 14) (h : j.1 < sLen.getD i.1 0) : st_elT i.1 j.1 ∈ flatC (Jvm.Cond.and given_1 narrow_1) := sublM_mem _ _ st_elL _ (List.mem_flatMap.mpr ⟨i.1, List.mem_range.mpr i.2, List.mem_map.mpr ⟨j.1, List.mem_range.mpr h, rfl⟩⟩)
theorem st_df : ∀ i : Fin 17, ∀ j : Fin 17, i ≠ j → Int32.ofNat (sLen.getD i.1 0) ≠ Int32.ofNat (sLen.getD j.1 0) ∨ ∃ k : Fin 14, k.1 < sLen.getD i.1 0 ∧ k.1 < sLen.getD j.1 0 ∧ (sByt.getD i.1 []).getD k.1 0 ≠ (sByt.getD j.1 []).getD k.1 0 := by decide +kernel
theorem st_cong {t u : Term} {args : Array Value} {s : State} {v : Value} (ht : t.eval args s none [] s = some v) (hu : u.eval args s none [] s = some v) (C n d : String) : (Term.field t C n d).eval args s none [] s = (Term.field u C n d).eval args s none [] s := by
  simp only [Term.eval, ht, hu]
theorem st_congL {t u : Term} {args : Array Value} {s : State} (h : t.eval args s none [] s = u.eval args s none [] s) : (Term.length t).eval args s none [] s = (Term.length u).eval args s none [] s := by
  simp only [Term.eval, h]
theorem st_congE {t u w : Term} {args : Array Value} {s : State} (h : t.eval args s none [] s = u.eval args s none [] s) : (Term.elem t w).eval args s none [] s = (Term.elem u w).eval args s none [] s := by
  simp only [Term.eval, h]
theorem st_neq {t u : Term} {args : Array Value} {s : State} {a b : Nat} (ht : t.eval args s none [] s = some (.ref a)) (hu : u.eval args s none [] s = some (.ref b)) (hab : a ≠ b) : (Cond.not (Cond.eq t u)).before args s = true := by
  simp [Cond.before, Cond.holds, Cond.value, ht, hu, hab]
theorem st_ref : ∀ i : Fin 37, Cond.stringRef (strs.getD i.1 ("", 0, "")).1 (strs.getD i.1 ("", 0, "")).2.1 (strs.getD i.1 ("", 0, "")).2.2 ∈ lw_tbl := by decide +kernel
theorem st_cast : ∀ w ∈ px_cast, Cond.castable w.1 w.2 ∈ lw_tbl := by decide +kernel
theorem st_decl : ∀ y ∈ px_decl, Cond.declares y ∈ lw_tbl := by decide +kernel
theorem st_nest : ∀ w ∈ px_nest, Cond.methodLinkNest w.1 w.2.1 w.2.2.1 w.2.2.2 ∈ lw_tbl := by decide +kernel
theorem st_ao : Cond.arrayOver (.object "RecipeForests$Forest") ∈ lw_tbl := by decide +kernel
theorem st_evref {t : Term} {n : String} {args : Array Value} {s : State} (h : (Cond.exactly t n).before args s = true) : ∃ a, t.eval args s none [] s = some (.ref a) := by
  cases hv : t.eval args s none [] s with
  | none => simp [Cond.before, Cond.holds, Cond.value, hv] at h
  | some w =>
    cases w with
    | ref a => exact ⟨a, rfl⟩
    | null => simp only [Cond.before, Cond.holds, Cond.value, hv] at h; cases hf : s.vm.findClass n <;> simp [hf] at h
    | _ => simp [Cond.before, Cond.holds, Cond.value, hv] at h
set_option maxHeartbeats 4000000 in
theorem st_X {args : Array Value} {s : State} {A : Nat → Prop} (hA : ∀ a : Nat, a < s.heap.size → ¬ A a) (hts : ∀ w ∈ lw_tbl, w.before args s = true) (h : (Jvm.Cond.and given_1 narrow_1).before args s = true) : ∃ X : PX, px_X X A s s.heap := by
  have fl := st_fl h
  have hne : ∀ i j : Nat, i < 17 → j < 17 → i ≠ j → (Cond.not (Cond.eq (st_tm i) (st_tm j))).before args s = true ∨ (Cond.not (Cond.eq (st_tm j) (st_tm i))).before args s = true := by
    intro i j hi hj hn
    obtain ⟨a, ha⟩ := st_evref (fl _ (st_ex ⟨i, by omega⟩))
    obtain ⟨b, hb⟩ := st_evref (fl _ (st_ex ⟨j, by omega⟩))
    refine Or.inl (st_neq ha hb (fun e => ?_))
    subst e
    have hf := st_cong ha hb "java/lang/String" "value" "[B"
    rcases st_df ⟨i, hi⟩ ⟨j, hj⟩ (fun q => hn (congrArg Fin.val q)) with w | ⟨k, k1, k2, w⟩
    · have e1 := Cond.eq_int (fl _ (st_le ⟨i, hi⟩)) rfl
      have e2 := Cond.eq_int (fl _ (st_le ⟨j, hj⟩)) rfl
      exact w (Value.int.inj (Option.some.inj (e1.symm.trans ((st_congL hf).trans e2))))
    · have e1 := Cond.eq_int (fl _ (st_el ⟨i, hi⟩ k k1)) rfl
      have e2 := Cond.eq_int (fl _ (st_el ⟨j, hj⟩ k k2)) rfl
      exact w (Value.int.inj (Option.some.inj (e1.symm.trans ((st_congE hf).trans e2))))
  obtain ⟨adK, adV, hS, hE⟩ := vk_Sof (args := args) (s := s) (N := 17) (tm := st_tm) (len := sLen) (byt := sByt) (A := A) (fun i hi => (by decide : ∀ i : Fin 17, sLen.getD i.1 0 < 2 ^ 31) ⟨i, hi⟩) (fun i hi => fl _ (st_ex ⟨i, by omega⟩)) (fun i hi => fl _ (st_co ⟨i, hi⟩)) (fun i hi => fl _ (st_ar ⟨i, hi⟩)) (fun i hi => fl _ (st_le ⟨i, hi⟩))
    (fun i hi j hj => fl _ (st_el ⟨i, hi⟩ ⟨j, Nat.lt_of_lt_of_le hj ((by decide : ∀ i : Fin 17, sLen.getD i.1 0 ≤ 14) ⟨i, hi⟩)⟩ hj)) hne hA
  have h2 : ∀ i : Nat, ∃ a, i < 37 → (st_tm i).eval args s none [] s = some (.ref a) := by
    intro i
    by_cases hi : i < 37
    · obtain ⟨a, ha⟩ := st_evref (fl _ (st_ex ⟨i, hi⟩))
      exact ⟨a, fun _ => ha⟩
    · exact ⟨0, fun q => absurd q hi⟩
  have h3 := fun i => (h2 i).choose_spec
  generalize hg : (fun i => (h2 i).choose) = ad2 at *
  have h3 : ∀ i, i < 37 → (st_tm i).eval args s none [] s = some (.ref (ad2 i)) := fun i hi => by rw [← hg]; exact (h2 i).choose_spec hi
  refine ⟨(fun i => if i < 17 then adK i else ad2 i, adV, []), fun i q hq => ?_, ⟨?_, fun d hd => absurd hd List.not_mem_nil⟩, ?_, ?_, ?_, ?_, fun w hw => va_Nw.of rfl (hts _ (st_cast w hw)), fun y hy => va_Nw.of rfl (hts _ (st_decl y hy))⟩
  · have hi : i < 37 := (List.getElem?_eq_some_iff.mp hq).1
    have hq2 : strs.getD i ("", 0, "") = q := by rw [List.getD_eq_getElem?_getD, hq]; rfl
    have r1 := hts _ (st_ref ⟨i, hi⟩)
    have r2 : (st_tm i).eval args s none [] s = some (.ref (if i < 17 then adK i else ad2 i)) := by
      by_cases h7 : i < 17
      · rw [if_pos h7]; exact hE i h7
      · rw [if_neg h7]; exact h3 i hi
    unfold st_tm at r2
    rw [hq2] at r2
    have r1 : (Cond.stringRef q.1 q.2.1 q.2.2).before args s = true := by rw [← hq2]; exact r1
    exact vk_R.of r1 r2
  · exact ⟨fun i hi => by
      have := hS.1 i hi
      show va_O "java/lang/String" (if i < 17 then adK i else ad2 i) A s s.heap ∧ va_OF "java/lang/String" "coder" "B" (.int 0) (if i < 17 then adK i else ad2 i) A s s.heap ∧ va_OF "java/lang/String" "value" "[B" (.ref (adV i)) (if i < 17 then adK i else ad2 i) A s s.heap ∧ _
      rw [if_pos hi]; exact this, fun i j hi hj e => by
      have e : (if i < 17 then adK i else ad2 i) = (if j < 17 then adK j else ad2 j) := e
      rw [if_pos hi, if_pos hj] at e; exact hS.2 i j hi hj e⟩
  · exact va_Zof (hts _ (by decide +kernel)) (hts _ (by decide +kernel)) (by
      have := fl (Cond.eq (Term.static "java/lang/String" "COMPACT_STRINGS" "Z") (.int 1)) (by decide +kernel)
      exact Cond.eq_int this rfl) hA
  · exact va_Zqof (hts _ (by decide +kernel)) (hts _ (by decide +kernel)) (fl _ (by decide +kernel)) hA
  · exact vx_Zqof (hts _ (by decide +kernel)) (hts _ (by decide +kernel)) (fl _ (by decide +kernel)) hA
  · exact vx_Zqof (hts _ (by decide +kernel)) (hts _ (by decide +kernel)) (fl _ (by decide +kernel)) hA
/-! the digits' rows, the script, the text builder's private methods -/
def dO (j : Nat) : Int32 := Int32.ofNat (48 + j % 10)
def dT (j : Nat) : Int32 := Int32.ofNat (48 + j / 10)
def st_doT (j : Nat) : Cond := Cond.eq (.elem (.static "java/lang/Integer" "DigitOnes" "[B") (.int (Int32.ofNat j))) (.int (dO j))
theorem st_doL : sublM (flatC (Jvm.Cond.and given_1 narrow_1)) ((List.range 100).map st_doT) = true := by decide +kernel
theorem st_do (j : Fin 100) : st_doT j.1 ∈ flatC (Jvm.Cond.and given_1 narrow_1) := sublM_mem _ _ st_doL _ (List.mem_map.mpr ⟨j.1, List.mem_range.mpr j.2, rfl⟩)
def st_dtT (j : Nat) : Cond := Cond.eq (.elem (.static "java/lang/Integer" "DigitTens" "[B") (.int (Int32.ofNat j))) (.int (dT j))
theorem st_dtL : sublM (flatC (Jvm.Cond.and given_1 narrow_1)) ((List.range 100).map st_dtT) = true := by decide +kernel
theorem st_dt (j : Fin 100) : st_dtT j.1 ∈ flatC (Jvm.Cond.and given_1 narrow_1) := sublM_mem _ _ st_dtL _ (List.mem_map.mpr ⟨j.1, List.mem_range.mpr j.2, rfl⟩)
theorem st_dig {args : Array Value} {s : State} {A : Nat → Prop} (hA : ∀ a : Nat, a < s.heap.size → ¬ A a) (hts : ∀ w ∈ lw_tbl, w.before args s = true) (h : (Jvm.Cond.and given_1 narrow_1).before args s = true) : ∃ aO aT : Nat, (va_Z "java/lang/Integer" "DigitOnes" "[B" (.ref aO) A s s.heap ∧ va_T .byte aO 100 (fun j => .int (dO j)) A s s.heap) ∧ (va_Z "java/lang/Integer" "DigitTens" "[B" (.ref aT) A s s.heap ∧ va_T .byte aT 100 (fun j => .int (dT j)) A s s.heap) := by
  have fl := st_fl h
  obtain ⟨t, ht, hT⟩ := va_Tof (tm := .static "java/lang/Integer" "DigitOnes" "[B") (ty := .byte) (N := 100) (f := fun j => .int (dO j)) (A := A) (by decide) (fl _ (by decide +kernel)) (va_eqt (fl (Cond.eq (.length (.static "java/lang/Integer" "DigitOnes" "[B")) (.int 100)) (by decide +kernel))) (fun j hj => va_eqt (fl _ (st_do ⟨j, hj⟩))) hA
  obtain ⟨t2, ht2, hT2⟩ := va_Tof (tm := .static "java/lang/Integer" "DigitTens" "[B") (ty := .byte) (N := 100) (f := fun j => .int (dT j)) (A := A) (by decide) (fl _ (by decide +kernel)) (va_eqt (fl (Cond.eq (.length (.static "java/lang/Integer" "DigitTens" "[B")) (.int 100)) (by decide +kernel))) (fun j hj => va_eqt (fl _ (st_dt ⟨j, hj⟩))) hA
  exact ⟨t, t2, ⟨va_Zof (hts _ (by decide +kernel)) (hts _ (by decide +kernel)) ht hA, hT⟩, ⟨va_Zof (hts _ (by decide +kernel)) (hts _ (by decide +kernel)) ht2 hA, hT2⟩⟩
theorem st_scr {s : State} {b Ls : Nat} {xs : Nat → Int32} (h : va_X b Ls xs s s.heap) (hb : b < s.heap.size) : va_T .int b Ls (fun j => .int (xs j)) (fun q : Nat => s.heap.size ≤ q) s s.heap := by
  obtain ⟨scr, h1, h2, h3, h4, h5⟩ := h
  exact ⟨scr, h1, h2, h3, by rw [h4]; exact Nat.le_refl _, by rw [h4], h5, fun q => Nat.not_lt.mpr q hb⟩
theorem st_ext {args : Array Value} {s : State} (hts : ∀ w ∈ lw_tbl, w.before args s = true) : ∀ w ∈ lw_ext, va_Nw w s := by
  have P : ∀ y : MethodName, (y.cls ≠ "java/lang/invoke/MethodHandle" ∧ y.cls ≠ "java/lang/invoke/VarHandle") → yJ5_isLatin1_aae02.cls = y.cls → (Cond.privateMethod y).before args s = true → (Cond.instanceMethod y).before args s = true → (Cond.selects RJ4 y y).before args s = true := fun y h1 h2 h3 h4 => sel_priv h1 h2 (hts (Cond.instantiable RJ4 4) (by decide +kernel)) (hts (Cond.selects RJ4 yJ5_isLatin1_aae02 yJ5_isLatin1_aae02) (by decide +kernel)) h3 h4
  intro w hw
  simp only [lw_ext, List.mem_cons, List.not_mem_nil, or_false] at hw
  rcases hw with rfl | rfl | rfl
  · exact va_Nw.of rfl (P _ (by decide +kernel) rfl (hts _ (by decide +kernel)) (hts _ (by decide +kernel)))
  · exact va_Nw.of rfl (P _ (by decide +kernel) rfl (hts _ (by decide +kernel)) (hts _ (by decide +kernel)))
  · exact va_Nw.of rfl (P _ (by decide +kernel) rfl (hts _ (by decide +kernel)) (hts _ (by decide +kernel)))
theorem gO_new (E : PE) (A : Nat → Nat → Nat) (g : List va_W) : (g ++ [gX8 E (A 0) (A 3 0) (A 4 0) (A 5 0) 0 (A 6 0) (A 1 0) (A 7 0) (A 8 0) (A 9 0) (A 10 0) (-1), gX0 E (A 1) (A 3 0) (A 2 0) (-1) (-1), gX5 E (A 2) (fun _ => 0) ((nI 0)) ((-1 : Int32)), gX1 E (A 3) fo0, gX1 E (A 4) fo0, gX1 E (A 5) fo0, gX2 E (A 6) (fun _ => fo0) 0 0, gX7 E (A 7) (fun _ => 0) ((nI 0)) ((nI 0)), gX3 E (A 8) (fun _ => 0) ((nI 0)), gX6 E (A 9) (fun _ => 0) ((nI 0)) ((nI 0)) ((nI 0)), gX4 E (A 10) (fun _ => 0) ((nI 0))]).flatten = (g ++ [gO E A tNew]).flatten := by
  rw [List.flatten_append, List.flatten_append, fl1]
  rfl
section PXLW
variable {p : Program} {l : Launch} {e : Env} {R : Room} {s : State} {m : MethodId} {args : Array Value} {below : List Frame} {meth : Method} {c : Code} {H H0 : Heap} {locs : List Loc} {cells slots : Nat} {Q : State → Prop}
variable {cc : ByteArray} {pc : Nat} {E : PE} {L9 : ClassId} {A : Nat → Prop} {gs : List va_W} {rest : List Value} {ls : Array Slot} {n : Int32}
theorem px_newL (hexec : p.tables.exec = Jvm.exec) (hb : c.code = cc) (harr : (Cond.arrayClass .long).before args s = true) (hK : va_K E.1 vwCl (tyE E) s) (hLL : va_K E.1 vwCl (tyE E ++ [(L9, .long)]) s) (hP : va_P E.1 vwCl gs.flatten H) (hD : va_D A gs.flatten) (hS : va_S A H0 H locs) (hA : ∀ q, H0.size ≤ q → A q)
    (hn : ¬ n < 0) (hN : n.toNatClampNeg = 11) (hcells : cells + 1 ≤ R.cells) (hslots : slots + 11 ≤ R.slots) (hdg : decode cc pc = .ok (.newarray .long, 2))
    (kk : ∀ (a : Nat → Nat) (H1 : Heap), va_P E.1 vwCl (gs ++ [gLW L9 (a 0) (fun _ => 0)]).flatten H1 → va_D A (gs ++ [gLW L9 (a 0) (fun _ => 0)]).flatten → va_S A H0 H1 locs →
      W p l e R s m args below meth c H1 locs (cells + 1) (slots + 11) Q (F0 m (pc + 2) ls (.ref (a 0) :: rest))) : W p l e R s m args below meth c H locs cells slots Q (F0 m pc ls (.int n :: rest)) := by
  refine va_newa (atype := .long) (a0 := (11, .inr (.inl (fun _ => 0)))) hexec hb harr rfl hK hP hD hS hA (fun _ => rfl) hn hN (by decide) hcells hslots hdg (fun q cA H1 hK1 hP1 hD1 hS1 => ?_)
  have hc : cA = L9 := by
    have h1 : s.vm.findClass ("[" ++ FieldType.long.toString) = some cA := (hK1.2 3 (cA, .long) rfl).2
    have h2 : s.vm.findClass ("[" ++ FieldType.long.toString) = some L9 := (hLL.2 3 (L9, .long) rfl).2
    exact Option.some.inj (h1.symm.trans h2)
  subst hc
  have e1 : (gs ++ [gLW cA q (fun _ => 0)]).flatten = gs.flatten ++ [(q, .inl (cA, 11, .inr (.inl (fun _ => 0))))] := by simp [gLW]
  exact kk (fun _ => q) H1 (by rw [e1]; exact hP1) (by rw [e1]; exact hD1) hS1
end PXLW
