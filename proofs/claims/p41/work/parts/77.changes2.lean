/-! a rest that is never below zero -/
theorem some_e (x : Int32) {n : Nat} (h0 : 0 < n) (hn : n < 2 ^ 30) : ∃ j, j < n ∧ fL_some x (nI n) = some (nI j) := by
  have hx2 : x.toInt < 2147483648 := Int32.toInt_lt x
  have hx0 : (-2147483648 : Int) ≤ x.toInt := Int32.le_toInt x
  have hN : (nI n).toInt = n := nI_toInt (by omega)
  have hm : (n : Int) * x.toInt.tdiv n + x.toInt.tmod n = x.toInt := Int.mul_tdiv_add_tmod _ _
  have hr1 : (x.toInt.tmod n) < n := Int.tmod_lt_of_pos _ (by omega)
  have hr2 : -(n : Int) < x.toInt.tmod n := Int.lt_tmod_of_pos _ (by omega)
  have hqa : (x.toInt.tdiv n).natAbs ≤ x.toInt.natAbs := Int.natAbs_tdiv_le_natAbs _ _
  have hra : (x.toInt.tmod n).natAbs ≤ x.toInt.natAbs := by rw [Int.natAbs_tmod]; exact Nat.mod_le _ _
  have hs1 : 0 ≤ x.toInt → 0 ≤ x.toInt.tmod n := fun h => Int.tmod_nonneg _ h
  have hs2 : x.toInt ≤ 0 → x.toInt.tmod n ≤ 0 := fun h => by
    have a := Int.tmod_nonneg (n : Int) (show 0 ≤ -x.toInt by omega)
    rw [Int.neg_tmod] at a
    omega
  generalize hq : x.toInt.tdiv n = q at hm hqa
  generalize hrr : x.toInt.tmod n = r at hm hr1 hr2 hra hs1 hs2
  have hq2 : q ≠ 2147483648 := fun e => by rw [e] at hm; omega
  have e1 : (x / nI n).toInt = q := by
    rw [Int32.toInt_div, hN, hq, Int.bmod_eq_of_le] <;> omega
  have e2 : (x / nI n * nI n).toInt = x.toInt - r := by
    rw [Int32.toInt_mul, e1, hN, show q * (n : Int) = x.toInt - r by rw [Int.mul_comm]; omega, Int.bmod_eq_of_le]
    · by_cases hx : 0 ≤ x.toInt
      · have := hs1 hx; omega
      · have := hs2 (by omega); omega
    · by_cases hx : 0 ≤ x.toInt
      · have := hs1 hx; omega
      · have := hs2 (by omega); omega
  have e3 : (x - x / nI n * nI n).toInt = r := by
    rw [Int32.toInt_sub, e2, show x.toInt - (x.toInt - r) = r by omega, Int.bmod_eq_of_le] <;> omega
  unfold fL_some
  rw [if_neg (by rw [nJ_eq0 (by omega)]; omega)]
  by_cases hp : 0 ≤ r
  · refine ⟨r.toNat, by omega, ?_⟩
    rw [if_pos (Int32.le_iff_toInt_le.mpr (by rw [e3]; exact hp))]
    congr 1
    apply Int32.toInt_inj.mp
    rw [e3, nI_toInt (by omega)]
    omega
  · refine ⟨(r + n).toNat, by omega, ?_⟩
    rw [if_neg (fun h => hp (by have := Int32.le_iff_toInt_le.mp h; rw [e3] at this; exact this))]
    congr 1
    apply Int32.toInt_inj.mp
    rw [Int32.toInt_add, e3, hN, nI_toInt (by omega), Int.bmod_eq_of_le] <;> omega
/-! changes -/
section CH
variable {S : SS} {τ : TO} {u : Nat} {g : Nat → Fo} {L : LX} {x : Int32}
theorem acc0_x (hF : RF (t_forest_f τ) S) : t_account (nI 0) τ = some (nI (s_c S), τ) := by
  unfold t_account fL_account f8_account
  rw [if_pos rfl, show f1_commitCount (t_forest_f τ) = some (nI (s_c S)) from congrArg some hF.1.1]
  rfl
theorem acc1_x (hF : RF (t_forest_f τ) S) : t_account (nI 1) τ = some (nI (s_b S), τ) := by
  unfold t_account fL_account f8_account
  rw [if_neg (by decide), if_pos rfl, show f1_branchCount (t_forest_f τ) = some (nI (s_b S)) from congrArg some hF.1.2.1]
  rfl
/-- a change that came to pass, or that was refused -/
def Sb (τ : TO) (u : Nat) (g : Nat → Fo) (b : Bool) (τ' : TO) : Prop := t_top_isSaved τ' = t_top_isSaved τ ∧ t_saved_f τ' = t_saved_f τ ∧ t_inp_length τ' = nI 0 ∧ LN τ' ∧ RSo (t_desk_reason τ') ∧ ((b = true ∧ ∃ S', WF S' ∧ RF (t_forest_f τ') S' ∧ HT τ' (min (u + 1) 8) (psh (t_forest_f τ) g)) ∨ (b = false ∧ t_forest_f τ' = t_forest_f τ ∧ HT τ' u g))
theorem br_S {q : Option (Int32 × TO)} (h : ∃ r τ', q = some (r, τ') ∧ St τ u g r τ') : ∃ b τ', (q.bind fun (r20, w21) => (if r20 < 0 then (some (false, w21)) else (some (true, w21)))) = some (b, τ') ∧ Sb τ u g b τ' := by
  obtain ⟨r, τ', rfl, a, b, c, d, e, ⟨v, S', rfl, f2, f3, f4, f5⟩ | ⟨f1, f2, f3⟩⟩ := h
  · refine ⟨true, τ', ?_, a, b, c, d, e, Or.inl ⟨rfl, S', f3, f4, f5⟩⟩
    rw [bnd]
    dsimp only
    rw [if_neg (by rw [nJ_lt0 f2]; exact fun q => q)]
  · refine ⟨false, τ', ?_, a, b, c, d, e, Or.inr ⟨rfl, f2, f3⟩⟩
    rw [bnd]
    dsimp only
    rw [if_pos f1]
theorem br_V {j n : Nat} {K : Nat → Option (Bool × TO)} {P : Bool → TO → Prop} (hj : j < n) (hn : n ≤ 100) (h : ∀ i, i < 100 → ∃ b τ', K i = some (b, τ') ∧ P b τ') : ∃ b τ', (if inb (nI j) 100 = true then (lt ((nI j).toNatClampNeg) K) else none) = some (b, τ') ∧ P b τ' := by
  obtain ⟨b, τ', e1, e2⟩ := h j (by omega)
  refine ⟨b, τ', ?_, e2⟩
  rw [inb_t (by omega) (by omega), if_pos rfl, lt_eq, nJ_nat (by omega)]
  exact e1
theorem br_O {j : Nat} {q : Option Int32} {K : Int32 → Option (Bool × TO)} {P : Bool → TO → Prop} (hq : q = some (nI j)) (h : ∃ b τ', K (nI j) = some (b, τ') ∧ P b τ') : ∃ b τ', q.bind K = some (b, τ') ∧ P b τ' := by
  obtain ⟨b, τ', e1, e2⟩ := h
  exact ⟨b, τ', by rw [hq, bnd]; exact e1, e2⟩
theorem br_Q {r : Int32} {q : Option (Int32 × TO)} {K : Int32 × TO → Option (Bool × TO)} {P : Bool → TO → Prop} (hq : q = some (r, τ)) (h : ∃ b τ', K (r, τ) = some (b, τ') ∧ P b τ') : ∃ b τ', q.bind K = some (b, τ') ∧ P b τ' := by
  obtain ⟨b, τ', e1, e2⟩ := h
  exact ⟨b, τ', by rw [hq, bnd]; exact e1, e2⟩
theorem br_P {c : Prop} [inst : Decidable c] {f k : Option (Bool × TO)} {P : Bool → TO → Prop} (hc : c) (h : ∃ b τ', f = some (b, τ') ∧ P b τ') : ∃ b τ', (if c then f else k) = some (b, τ') ∧ P b τ' := by
  rw [if_pos hc]; exact h
theorem br_N {c : Prop} [inst : Decidable c] {f k : Option (Bool × TO)} {P : Bool → TO → Prop} (hc : ¬ c) (h : ∃ b τ', k = some (b, τ') ∧ P b τ') : ∃ b τ', (if c then f else k) = some (b, τ') ∧ P b τ' := by
  rw [if_neg hc]; exact h
theorem br_C {c : Prop} [inst : Decidable c] {f k : Option (Bool × TO)} {P : Bool → TO → Prop} (h : ∃ b τ', f = some (b, τ') ∧ P b τ') (h2 : ∃ b τ', k = some (b, τ') ∧ P b τ') : ∃ b τ', (if c then f else k) = some (b, τ') ∧ P b τ' := by
  by_cases hc : c
  · rw [if_pos hc]; exact h
  · rw [if_neg hc]; exact h2
set_option maxHeartbeats 4000000 in
set_option maxRecDepth 20000 in
theorem changes_S (h : WF S) (hF : RF (t_forest_f τ) S) (hI : t_inp_length τ = nI 0) (hL : LN τ) (hR : RSo (t_desk_reason τ)) (hG : HT τ u g) : ∃ b τ', fL_changes L x τ = some (b, τ') ∧ Sb τ u g b τ' := by
  have h5 := h.b5; have hb1 := h.b1; have hc := h.c24; have hc1 := h.c1
  unfold fL_changes
  refine br_Q (acc1_x hF) ?_
  dsimp only
  rw [nI_add]
  obtain ⟨b4, hb4, e4⟩ := some_e (x >>> (nI 4 &&& 31)) (n := s_b S + 1) (by omega) (by omega)
  refine br_O e4 ?_
  refine br_Q (acc0_x hF) ?_
  dsimp only
  rw [nI_add]
  obtain ⟨c9, hc9, e9⟩ := some_e (x >>> (nI 6 &&& 31)) (n := s_c S + 1) (by omega) (by omega)
  refine br_O e9 ?_
  obtain ⟨r11, hr11, e11⟩ := some_e (x >>> (nI 9 &&& 31)) (n := 5) (by omega) (by omega)
  refine br_O e11 ?_
  obtain ⟨w, hw, e13⟩ := some_e x (n := 18) (by omega) (by omega)
  refine br_O e13 ?_
  obtain ⟨k7, -, e7⟩ := some_e (x >>> (nI 7 &&& 31)) (n := 7) (by omega) (by omega)
  obtain ⟨k5, -, e5⟩ := some_e (x >>> (nI 5 &&& 31)) (n := 101) (by omega) (by omega)
  obtain ⟨k11, -, e11b⟩ := some_e (x >>> (nI 11 &&& 31)) (n := s_b S + 1) (by omega) (by omega)
  obtain ⟨k44, -, e44⟩ := some_e (x >>> (nI 4 &&& 31)) (n := 4) (by omega) (by omega)
  obtain ⟨k45, -, e45⟩ := some_e (x >>> (nI 4 &&& 31)) (n := 5) (by omega) (by omega)
  obtain ⟨k43, hk43, e43⟩ := some_e (x >>> (nI 4 &&& 31)) (n := 3) (by omega) (by omega)
  obtain ⟨k76, hk76, e76⟩ := some_e (x >>> (nI 7 &&& 31)) (n := 6) (by omega) (by omega)
  obtain ⟨k5h, hk5h, e5h⟩ := some_e (x >>> (nI 5 &&& 31)) (n := 100) (by omega) (by omega)
  obtain ⟨k73, hk73, e73⟩ := some_e (x >>> (nI 7 &&& 31)) (n := 3) (by omega) (by omega)
  obtain ⟨k94, hk94, e94⟩ := some_e (x >>> (nI 9 &&& 31)) (n := 4) (by omega) (by omega)
  by_cases w0 : w = 0
  · refine br_P (by rw [w0]) ?_
    refine br_O e7 ?_
    refine br_O e5 ?_
    exact br_S (op_edit h hF hI hL hR hG)
  refine br_N (by rw [nJ_eq (by omega) (by omega)]; exact w0) ?_
  by_cases w1 : w = 1
  · refine br_P (by rw [w1]) ?_
    refine br_O e7 ?_
    refine br_O e5 ?_
    exact br_S (op_edit h hF hI hL hR hG)
  refine br_N (by rw [nJ_eq (by omega) (by omega)]; exact w1) ?_
  by_cases w2 : w = 2
  · refine br_P (by rw [w2]) ?_
    refine br_O e7 ?_
    refine br_O e5 ?_
    exact br_S (op_edit h hF hI hL hR hG)
  refine br_N (by rw [nJ_eq (by omega) (by omega)]; exact w2) ?_
  by_cases w3 : w = 3
  · refine br_P (by rw [w3]) ?_
    refine br_O e7 ?_
    refine br_O e5 ?_
    exact br_S (op_edit h hF hI hL hR hG)
  refine br_N (by rw [nJ_eq (by omega) (by omega)]; exact w3) ?_
  by_cases w4 : w = 4
  · refine br_P (by rw [w4]) ?_
    exact br_S (op_fork h hF hI hL hR hG)
  refine br_N (by rw [nJ_eq (by omega) (by omega)]; exact w4) ?_
  by_cases w5 : w = 5
  · refine br_P (by rw [w5]) ?_
    exact br_S (op_reset h hF hI hL hR hG)
  refine br_N (by rw [nJ_eq (by omega) (by omega)]; exact w5) ?_
  by_cases w6 : w = 6
  · refine br_P (by rw [w6]) ?_
    refine br_Q (acc1_x hF) ?_
    dsimp only
    rw [nI_add]
    refine br_O e11b ?_
    exact br_S (op_merge h hF hI hL hR hG)
  refine br_N (by rw [nJ_eq (by omega) (by omega)]; exact w6) ?_
  by_cases w7 : w = 7
  · refine br_P (by rw [w7]) ?_
    refine br_Q (acc1_x hF) ?_
    dsimp only
    rw [nI_add]
    refine br_O e11b ?_
    exact br_S (op_merge h hF hI hL hR hG)
  refine br_N (by rw [nJ_eq (by omega) (by omega)]; exact w7) ?_
  by_cases w8 : w = 8
  · refine br_P (by rw [w8]) ?_
    exact br_S (op_pick h hF hI hL hR hG)
  refine br_N (by rw [nJ_eq (by omega) (by omega)]; exact w8) ?_
  by_cases w9 : w = 9
  · refine br_P (by rw [w9]) ?_
    exact br_S (op_pick h hF hI hL hR hG)
  refine br_N (by rw [nJ_eq (by omega) (by omega)]; exact w9) ?_
  by_cases w10 : w = 10
  · refine br_P (by rw [w10]) ?_
    exact br_S (op_revert h hF hI hL hR hG)
  refine br_N (by rw [nJ_eq (by omega) (by omega)]; exact w10) ?_
  by_cases w11 : w = 11
  · refine br_P (by rw [w11]) ?_
    exact br_S (op_revert h hF hI hL hR hG)
  refine br_N (by rw [nJ_eq (by omega) (by omega)]; exact w11) ?_
  by_cases w12 : w = 12
  · refine br_P (by rw [w12]) ?_
    refine br_O e44 ?_
    exact br_S (op_bundle h hF hI hL hR hG)
  refine br_N (by rw [nJ_eq (by omega) (by omega)]; exact w12) ?_
  by_cases w13 : w = 13
  · refine br_P (by rw [w13]) ?_
    refine br_O e45 ?_
    exact br_S (op_put h hF hI hL hR hG)
  refine br_N (by rw [nJ_eq (by omega) (by omega)]; exact w13) ?_
  by_cases w14 : w = 14
  · refine br_P (by rw [w14]) ?_
    refine br_O e45 ?_
    exact br_S (op_put h hF hI hL hR hG)
  refine br_N (by rw [nJ_eq (by omega) (by omega)]; exact w14) ?_
  by_cases w15 : w = 15
  · refine br_P (by rw [w15]) ?_
    exact br_S (op_play h hF hI hL hR hG)
  refine br_N (by rw [nJ_eq (by omega) (by omega)]; exact w15) ?_
  · refine br_C ?_ ?_
    · refine br_O e43 ?_
      refine br_V hk43 (by omega) fun i1 hi1 => ?_
      refine br_O e76 ?_
      refine br_V hk76 (by omega) fun i2 hi2 => ?_
      refine br_O e5h ?_
      refine br_V hk5h (by omega) fun i3 hi3 => ?_
      have d1 := dgs_le i1; have d2 := dgs_le i2; have d3 := dgs_le i3
      refine br_S (op_reads ?_ h hF hI hL hR hG)
      simp only [show sLen.getD 6 0 = 1 from rfl, show sLen.getD 7 0 = 1 from rfl, show sLen.getD 8 0 = 1 from rfl, show sLen.getD 9 0 = 3 from rfl]
      omega
    · refine br_O e43 ?_
      refine br_V hk43 (by omega) fun i1 hi1 => ?_
      refine br_O e73 ?_
      refine br_V hk73 (by omega) fun i2 hi2 => ?_
      refine br_O e94 ?_
      refine br_V hk94 (by omega) fun i3 hi3 => ?_
      have d1 := dgs_le i1; have d2 := dgs_le i2; have d3 := dgs_le i3
      refine br_S (op_reads ?_ h hF hI hL hR hG)
      simp only [show sLen.getD 10 0 = 1 from rfl, show sLen.getD 11 0 = 1 from rfl, show sLen.getD 12 0 = 1 from rfl]
      omega
end CH
