/-! a forest's own numbers as the picture's row -/
def NS (S : SS) : AI := fun q => if q = 0 then nI (s_c S) else if q = 1 then nI (s_b S) else if q = 2 then s_pu S else if q < 7 then oP (s_bu S (q - 3)) else if q < 12 then nI (s_tp S (q - 7)) else if (q - 12) % 9 = 0 then nI (s_kd S ((q - 12) / 9)) else if (q - 12) % 9 = 1 then oI (s_fs S ((q - 12) / 9)) else if (q - 12) % 9 = 2 then oI (s_sc S ((q - 12) / 9)) else nI (s_am S ((q - 12) / 9) ((q - 12) % 9 - 3))
theorem NS_rn {S : SS} (h : WF S) : RN (NS S) S := by
  have h5 := h.b5
  refine ⟨⟨rfl, rfl, rfl⟩, fun p hp => ?_, fun j hj => ?_, fun i hi => ⟨?_, ?_, ?_, fun k hk => ?_⟩⟩
  · unfold NS
    rw [if_neg (by omega), if_neg (by omega), if_neg (by omega), if_pos (by omega), show 3 + p - 3 = p by omega]
  · unfold NS
    rw [if_neg (by omega), if_neg (by omega), if_neg (by omega), if_neg (by omega), if_pos (by omega), show 7 + j - 7 = j by omega]
  · unfold NS
    rw [if_neg (by omega), if_neg (by omega), if_neg (by omega), if_neg (by omega), if_neg (by omega), if_pos (by omega), show (12 + 9 * i - 12) / 9 = i by omega]
  · unfold NS
    rw [if_neg (by omega), if_neg (by omega), if_neg (by omega), if_neg (by omega), if_neg (by omega), if_neg (by omega), if_pos (by omega), show (12 + 9 * i + 1 - 12) / 9 = i by omega]
  · unfold NS
    rw [if_neg (by omega), if_neg (by omega), if_neg (by omega), if_neg (by omega), if_neg (by omega), if_neg (by omega), if_neg (by omega), if_pos (by omega), show (12 + 9 * i + 2 - 12) / 9 = i by omega]
  · unfold NS
    rw [if_neg (by omega), if_neg (by omega), if_neg (by omega), if_neg (by omega), if_neg (by omega), if_neg (by omega), if_neg (by omega), if_neg (by omega), show (12 + 9 * i + 3 + k - 12) / 9 = i by omega, show (12 + 9 * i + 3 + k - 12) % 9 - 3 = k by omega]
/-! an answer that one number fixes -/
def QZ (c : Nat → Nat) (m k : Nat) (v th v9 : Int32) : Prop := ∃ j, j < m ∧ m ≤ 8 ∧ th = nI j ∧ k = c j ∧ (j = 0 → v = v9)
def cI (j : Nat) : Nat := j
def cD (j : Nat) : Nat := if j = 3 then 4 else j
def cO (j : Nat) : Nat := if j = 2 then 4 else j
def cU (j : Nat) : Nat := if j = 1 then 2 else j
theorem QA_Z {k : Nat} {v th v9 : Int32} (h : QA k v th v9) : QZ cI 2 k v th v9 := by
  rcases h with ⟨rfl, rfl, rfl⟩ | ⟨rfl, rfl⟩
  · exact ⟨0, by omega, by omega, rfl, rfl, fun _ => rfl⟩
  · exact ⟨1, by omega, by omega, rfl, rfl, fun q => by omega⟩
theorem QC_Z {k : Nat} {v th v9 : Int32} (h : QC k v th v9) : QZ cI 3 k v th v9 := by
  rcases h with ⟨rfl, rfl, rfl⟩ | ⟨rfl, rfl⟩ | ⟨rfl, rfl⟩
  · exact ⟨0, by omega, by omega, rfl, rfl, fun _ => rfl⟩
  · exact ⟨1, by omega, by omega, rfl, rfl, fun q => by omega⟩
  · exact ⟨2, by omega, by omega, rfl, rfl, fun q => by omega⟩
theorem QD_Z {k : Nat} {v th v9 : Int32} (h : QD k v th v9) : QZ cD 4 k v th v9 := by
  rcases h with ⟨rfl, rfl, rfl⟩ | ⟨rfl, rfl⟩ | ⟨rfl, rfl⟩ | ⟨rfl, rfl⟩
  · exact ⟨0, by omega, by omega, rfl, rfl, fun _ => rfl⟩
  · exact ⟨1, by omega, by omega, rfl, rfl, fun q => by omega⟩
  · exact ⟨2, by omega, by omega, rfl, rfl, fun q => by omega⟩
  · exact ⟨3, by omega, by omega, rfl, rfl, fun q => by omega⟩
theorem QO_Z {k : Nat} {v th v9 : Int32} (h : (k = 0 ∧ th = nI 0 ∧ v = v9) ∨ (k = 1 ∧ th = nI 1) ∨ (k = 4 ∧ th = nI 2)) : QZ cO 3 k v th v9 := by
  rcases h with ⟨rfl, rfl, rfl⟩ | ⟨rfl, rfl⟩ | ⟨rfl, rfl⟩
  · exact ⟨0, by omega, by omega, rfl, rfl, fun _ => rfl⟩
  · exact ⟨1, by omega, by omega, rfl, rfl, fun q => by omega⟩
  · exact ⟨2, by omega, by omega, rfl, rfl, fun q => by omega⟩
theorem QU_Z {k : Nat} {v th v9 : Int32} (h : (k = 0 ∧ th = nI 0 ∧ v = v9) ∨ (k = 2 ∧ th = nI 1)) : QZ cU 2 k v th v9 := by
  rcases h with ⟨rfl, rfl, rfl⟩ | ⟨rfl, rfl⟩
  · exact ⟨0, by omega, by omega, rfl, rfl, fun _ => rfl⟩
  · exact ⟨1, by omega, by omega, rfl, rfl, fun q => by omega⟩
theorem det0 {α : Type} {Ok : α → Prop} {P : α → Option (Nat × Int32)} {R : Option (Int32 × Int32)} {c : Nat → Nat} {m : Nat} (hP : ∀ a, Ok a → ∃ k v th v9, P a = some (k, v) ∧ R = some (v9, th) ∧ QZ c m k v th v9) : ∃ j v9, ∀ a, Ok a → j < m ∧ ∃ v, P a = some (c j, v) ∧ (j = 0 → v = v9) := by
  by_cases hne : ∃ a, Ok a
  · obtain ⟨a0, h0⟩ := hne
    obtain ⟨k, v, th, v9, -, e2, j, hj, hm, rfl, -, -⟩ := hP a0 h0
    refine ⟨j, v9, fun a ha => ?_⟩
    obtain ⟨k', v', th', v9', f1, f2, j', hj', -, rfl, rfl, h3⟩ := hP a ha
    rw [e2] at f2
    have f3 := Option.some.inj f2
    have g1 : v9 = v9' := congrArg Prod.fst f3
    have g2 : nI j = nI j' := congrArg Prod.snd f3
    have g3 := (nI_eq (by omega) (by omega)).mp g2
    subst g3
    subst g1
    exact ⟨hj, v', f1, h3⟩
  · exact ⟨0, 0, fun a ha => absurd ⟨a, ha⟩ hne⟩
theorem det1 {α ρ : Type} {Ok : α → Prop} {P : α → Option (Nat × Int32 × ρ)} {R : Option (Int32 × Int32)} {c : Nat → Nat} {m : Nat} (hP : ∀ a, Ok a → ∃ k v z th v9, P a = some (k, v, z) ∧ R = some (v9, th) ∧ QZ c m k v th v9) : ∃ j v9, ∀ a, Ok a → j < m ∧ ∃ v z, P a = some (c j, v, z) ∧ (j = 0 → v = v9) := by
  by_cases hne : ∃ a, Ok a
  · obtain ⟨a0, h0⟩ := hne
    obtain ⟨k, v, z, th, v9, -, e2, j, hj, hm, rfl, -, -⟩ := hP a0 h0
    refine ⟨j, v9, fun a ha => ?_⟩
    obtain ⟨k', v', z', th', v9', f1, f2, j', hj', -, rfl, rfl, h3⟩ := hP a ha
    rw [e2] at f2
    have f3 := Option.some.inj f2
    have g1 : v9 = v9' := congrArg Prod.fst f3
    have g2 : nI j = nI j' := congrArg Prod.snd f3
    have g3 := (nI_eq (by omega) (by omega)).mp g2
    subst g3
    subst g1
    exact ⟨hj, v', z', f1, h3⟩
  · exact ⟨0, 0, fun a ha => absurd ⟨a, ha⟩ hne⟩
/-- what an object keeps over a query -/
def LN (τ : TO) : Prop := ∃ l, l ≤ 24 ∧ t_lin_length τ = nI l
def co (τ : TO) : Int32 × Fo × Fo × (Nat → Fo) × Int32 × Int32 × Int32 × Int32 × Int32 × Prop := (t_top_isSaved τ, t_forest_f τ, t_saved_f τ, t_hist_rows τ, t_hist_next τ, t_hist_count τ, t_inp_length τ, t_desk_reason τ, t_desk_detail τ, LN τ)
theorem co_f {τ τ' : TO} (h : co τ' = co τ) : t_forest_f τ' = t_forest_f τ := congrArg (fun z => z.2.1) h
theorem co_l {τ τ' : TO} (h : co τ' = co τ) : LN τ' = LN τ := congrArg (fun z => z.2.2.2.2.2.2.2.2.2) h
def RG (τ : TO) (S : SS) : Prop := RF (t_forest_f τ) S ∧ LN τ
theorem co_g {τ τ' : TO} {S : SS} (h : co τ' = co τ) (hg : RG τ S) : RG τ' S := ⟨by rw [co_f h]; exact hg.1, by rw [co_l h]; exact hg.2⟩
/-- a query's answer is a, and it keeps the object -/
def Det (S : SS) {α : Type} (q : TO → Option (α × TO)) (a : α) : Prop := ∀ τ, RG τ S → ∃ τ', q τ = some (a, τ') ∧ co τ' = co τ
section DQ
variable {S : SS}
theorem dq_tip (h : WF S) (x : Int32) : ∃ a, ∀ φ, RF φ S → fL_tip x φ = some a := by
  obtain ⟨j, v9, hk⟩ := det0 (Ok := fun φ => RF φ S) (P := fun φ => f8_tip x φ) (R := f9_tip x (NS S) (nI 0)) (c := cI) (m := 2) (fun φ hF => by
    obtain ⟨k, v, th, v9, q1, q2, q3⟩ := tip_q (x := x) (th := nI 0) h hF (NS_rn h)
    exact ⟨k, v, th, v9, q1, q2, QA_Z q3⟩)
  refine ⟨if j = 0 then v9 else if j = 1 then (-1001) else (-1001), fun φ hF => ?_⟩
  obtain ⟨hj, v, e1, e2⟩ := hk φ hF
  have e1 : f8_tip x φ = some (cI j, v) := e1
  unfold fL_tip
  rw [e1, bnd]
  rcases (show j = 0 ∨ j = 1 by omega) with rfl | rfl
  · rw [e2 rfl]; rfl
  · rfl
theorem dq_amount (h : WF S) (x : Int32) (y : Int32) : ∃ a, ∀ φ, RF φ S → fL_amount x y φ = some a := by
  obtain ⟨j, v9, hk⟩ := det0 (Ok := fun φ => RF φ S) (P := fun φ => f8_amount x y φ) (R := f9_amount x y (NS S) (nI 0)) (c := cI) (m := 2) (fun φ hF => by
    obtain ⟨k, v, th, v9, q1, q2, q3⟩ := amount_q (x := x) (x2 := y) (th := nI 0) h hF (NS_rn h)
    exact ⟨k, v, th, v9, q1, q2, QA_Z q3⟩)
  refine ⟨if j = 0 then v9 else if j = 1 then (-1001) else (-1001), fun φ hF => ?_⟩
  obtain ⟨hj, v, e1, e2⟩ := hk φ hF
  have e1 : f8_amount x y φ = some (cI j, v) := e1
  unfold fL_amount
  rw [e1, bnd]
  rcases (show j = 0 ∨ j = 1 by omega) with rfl | rfl
  · rw [e2 rfl]; rfl
  · rfl
theorem dq_commitOf (h : WF S) (x : Int32) (y : Int32) : ∃ a, ∀ φ, RF φ S → fL_commitOf x y φ = some a := by
  obtain ⟨j, v9, hk⟩ := det0 (Ok := fun φ => RF φ S) (P := fun φ => f8_commitOf x y φ) (R := f9_commitOf x y (NS S) (nI 0)) (c := cI) (m := 3) (fun φ hF => by
    obtain ⟨k, v, th, v9, q1, q2, q3⟩ := commitOf_q (x := x) (x2 := y) (th := nI 0) h hF (NS_rn h)
    exact ⟨k, v, th, v9, q1, q2, QC_Z q3⟩)
  refine ⟨if j = 0 then v9 else if j = 1 then (-1001) else if j = 2 then (-1002) else (-1003), fun φ hF => ?_⟩
  obtain ⟨hj, v, e1, e2⟩ := hk φ hF
  have e1 : f8_commitOf x y φ = some (cI j, v) := e1
  unfold fL_commitOf
  rw [e1, bnd]
  rcases (show j = 0 ∨ j = 1 ∨ j = 2 by omega) with rfl | rfl | rfl
  · rw [e2 rfl]; rfl
  · rfl
  · rfl
theorem dq_base (h : WF S) (x : Int32) (y : Int32) : ∃ a, ∀ φ, RF φ S → fL_base x y φ = some a := by
  obtain ⟨j, v9, hk⟩ := det0 (Ok := fun φ => RF φ S) (P := fun φ => f8_base x y φ) (R := f9_base x y (NS S) (nI 0)) (c := cI) (m := 2) (fun φ hF => by
    obtain ⟨k, v, th, v9, q1, _, q2, q3⟩ := base_q (x := x) (x2 := y) (th := nI 0) h hF (NS_rn h)
    exact ⟨k, v, th, v9, q1, q2, QA_Z q3⟩)
  refine ⟨if j = 0 then v9 else if j = 1 then (-1001) else (-1001), fun φ hF => ?_⟩
  obtain ⟨hj, v, e1, e2⟩ := hk φ hF
  have e1 : f8_base x y φ = some (cI j, v) := e1
  unfold fL_base
  rw [e1, bnd]
  rcases (show j = 0 ∨ j = 1 by omega) with rfl | rfl
  · rw [e2 rfl]; rfl
  · rfl
theorem dq_baseAgain (h : WF S) (x : Int32) (y : Int32) : ∃ a, ∀ φ, RF φ S → fL_baseAgain x y φ = some a := by
  obtain ⟨j, v9, hk⟩ := det0 (Ok := fun φ => RF φ S) (P := fun φ => f8_baseAgain x y φ) (R := f9_base x y (NS S) (nI 0)) (c := cI) (m := 2) (fun φ hF => by
    obtain ⟨k, v, th, v9, _, q1, q2, q3⟩ := base_q (x := x) (x2 := y) (th := nI 0) h hF (NS_rn h)
    exact ⟨k, v, th, v9, q1, q2, QA_Z q3⟩)
  refine ⟨if j = 0 then v9 else if j = 1 then (-1001) else (-1001), fun φ hF => ?_⟩
  obtain ⟨hj, v, e1, e2⟩ := hk φ hF
  have e1 : f8_baseAgain x y φ = some (cI j, v) := e1
  unfold fL_baseAgain
  rw [e1, bnd]
  rcases (show j = 0 ∨ j = 1 by omega) with rfl | rfl
  · rw [e2 rfl]; rfl
  · rfl
theorem dq_difference (h : WF S) (x : Int32) (y : Int32) : ∃ a, ∀ φ, RF φ S → fL_difference x y φ = some a := by
  obtain ⟨j, v9, hk⟩ := det0 (Ok := fun φ => RF φ S) (P := fun φ => f8_difference x y φ) (R := f9_difference x y (NS S) (nI 0)) (c := cI) (m := 2) (fun φ hF => by
    obtain ⟨k, v, th, v9, q1, q2, q3⟩ := diff_q (x := x) (x2 := y) (th := nI 0) h hF (NS_rn h)
    exact ⟨k, v, th, v9, q1, q2, QA_Z q3⟩)
  refine ⟨if j = 0 then v9 else if j = 1 then (-1001) else (-1001), fun φ hF => ?_⟩
  obtain ⟨hj, v, e1, e2⟩ := hk φ hF
  have e1 : f8_difference x y φ = some (cI j, v) := e1
  unfold fL_difference
  rw [e1, bnd]
  rcases (show j = 0 ∨ j = 1 by omega) with rfl | rfl
  · rw [e2 rfl]; rfl
  · rfl
theorem dq_tasteBits (h : WF S) (x : Int32) : ∃ a, ∀ φ, RF φ S → fL_tasteBits x φ = some a := by
  obtain ⟨j, v9, hk⟩ := det0 (Ok := fun φ => RF φ S) (P := fun φ => f8_tasteBits x φ) (R := f9_tasteBits x (NS S) (nI 0)) (c := cI) (m := 2) (fun φ hF => by
    obtain ⟨k, v, th, v9, q1, q2, q3⟩ := bits_q (x := x) (th := nI 0) h hF (NS_rn h)
    exact ⟨k, v, th, v9, q1, q2, QA_Z q3⟩)
  refine ⟨if j = 0 then v9 else if j = 1 then (-1001) else (-1001), fun φ hF => ?_⟩
  obtain ⟨hj, v, e1, e2⟩ := hk φ hF
  have e1 : f8_tasteBits x φ = some (cI j, v) := e1
  unfold fL_tasteBits
  rw [e1, bnd]
  rcases (show j = 0 ∨ j = 1 by omega) with rfl | rfl
  · rw [e2 rfl]; rfl
  · rfl
theorem dq_inBundle (h : WF S) (x : Int32) : ∃ a, ∀ φ, RF φ S → fL_inBundle x φ = some a := by
  obtain ⟨j, v9, hk⟩ := det0 (Ok := fun φ => RF φ S) (P := fun φ => f8_inBundle x φ) (R := f9_inBundle_ x (NS S) (nI 0)) (c := cO) (m := 3) (fun φ hF => by
    obtain ⟨k, v, th, v9, q1, q2, q3⟩ := inBundle_q (x := x) (th := nI 0) h hF (NS_rn h)
    exact ⟨k, v, th, v9, q1, q2, QO_Z q3⟩)
  refine ⟨if j = 0 then v9 else if j = 1 then (-1001) else if j = 2 then (-1002) else (-1003), fun φ hF => ?_⟩
  obtain ⟨hj, v, e1, e2⟩ := hk φ hF
  have e1 : f8_inBundle x φ = some (cO j, v) := e1
  unfold fL_inBundle
  rw [e1, bnd]
  rcases (show j = 0 ∨ j = 1 ∨ j = 2 by omega) with rfl | rfl | rfl
  · rw [e2 rfl]; rfl
  · rfl
  · rfl
theorem dq_conflicts (h : WF S) (x : Int32) (y : Int32) : ∃ a, ∀ φ (row : AI) (cc : Int32) (lo : Int32), RF φ S → ∃ row' cc' lo', fL_conflicts x y row cc lo φ = some (a, row', cc', lo') := by
  obtain ⟨j, v9, hk⟩ := det1 (α := Fo × AI × Int32 × Int32) (ρ := AI × Int32 × Int32) (Ok := fun a => RF a.1 S) (P := fun a => f8_conflicts x y a.2.1 a.2.2.1 a.2.2.2 a.1) (R := (f9_conflicts x y (NS S) (nI 0) (fun _ => 0) 0 0).map (fun r => (r.1, r.2.1))) (c := cI) (m := 2) (fun a hF => by
    obtain ⟨k, v, row', cc', lo', th, v9, _, _, _, q1, q2, q3⟩ := cfl_q (x := x) (x2 := y) (th := nI 0) (row := a.2.1) (cc := a.2.2.1) (lo := a.2.2.2) (row9 := fun _ => 0) (cc9 := 0) (fc9 := 0) h hF (NS_rn h)
    exact ⟨k, v, (row', cc', lo'), th, v9, q1, by rw [q2]; rfl, QA_Z q3⟩)
  refine ⟨if j = 0 then v9 else if j = 1 then (-1001) else (-1001), fun φ row cc lo hF => ?_⟩
  obtain ⟨hj, v, ⟨row', cc', lo'⟩, e1, e2⟩ := hk (φ, row, cc, lo) hF
  have e1 : f8_conflicts x y row cc lo φ = some (cI j, v, row', cc', lo') := e1
  refine ⟨row', cc', lo', ?_⟩
  unfold fL_conflicts
  rw [e1, bnd]
  rcases (show j = 0 ∨ j = 1 by omega) with rfl | rfl
  · rw [e2 rfl]; rfl
  · rfl
theorem dq_onLine (h : WF S) (x : Int32) (y : Int32) : ∃ a, ∀ φ (cm : AI) (len : Int32), RF φ S → ∃ cm' len', fL_onLine x y φ cm len = some (a, cm', len') := by
  obtain ⟨j, v9, hk⟩ := det1 (α := Fo × AI × Int32) (ρ := AI × Int32) (Ok := fun a => RF a.1 S) (P := fun a => f8_onLine x y a.1 a.2.1 a.2.2) (R := f9_onLine x y (NS S) (nI 0)) (c := cO) (m := 3) (fun a hF => by
    obtain ⟨k, v, cm', len', th, v9, q1, q2, q3⟩ := onLine_q (x := x) (x2 := y) (th := nI 0) (cm := a.2.1) (len := a.2.2) h hF (NS_rn h)
    exact ⟨k, v, (cm', len'), th, v9, q1, q2, QO_Z q3⟩)
  refine ⟨if j = 0 then v9 else if j = 1 then (-1001) else if j = 2 then (-1002) else (-1003), fun φ cm len hF => ?_⟩
  obtain ⟨hj, v, ⟨cm', len'⟩, e1, e2⟩ := hk (φ, cm, len) hF
  have e1 : f8_onLine x y φ cm len = some (cO j, v, cm', len') := e1
  refine ⟨cm', len', ?_⟩
  unfold fL_onLine
  rw [e1, bnd]
  rcases (show j = 0 ∨ j = 1 ∨ j = 2 by omega) with rfl | rfl | rfl
  · rw [e2 rfl]; rfl
  · rfl
  · rfl
theorem dq_halve (h : WF S) (x : Int32) (y : Int32) (z : Int32) (w : Int32) : ∃ a, ∀ φ (cm : AI) (len : Int32) (lk : Int32), RF φ S → ∃ cm' len' lk', fL_halve x y z w φ cm len lk = some (a, cm', len', lk') := by
  obtain ⟨j, v9, hk⟩ := det1 (α := Fo × AI × Int32 × Int32) (ρ := AI × Int32 × Int32) (Ok := fun a => RF a.1 S) (P := fun a => f8_halve x y z w a.1 a.2.1 a.2.2.1 a.2.2.2) (R := f9_halve x y z w (NS S) (nI 0)) (c := cD) (m := 4) (fun a hF => by
    obtain ⟨k, v, cm', len', lk', th, v9, q1, q2, q3⟩ := halve_q (x := x) (x2 := y) (x3 := z) (x4 := w) (th := nI 0) (cm := a.2.1) (len := a.2.2.1) (lk := a.2.2.2) h hF (NS_rn h)
    exact ⟨k, v, (cm', len', lk'), th, v9, q1, q2, QD_Z q3⟩)
  refine ⟨if j = 0 then v9 else if j = 1 then (-1001) else if j = 2 then (-1002) else (-1003), fun φ cm len lk hF => ?_⟩
  obtain ⟨hj, v, ⟨cm', len', lk'⟩, e1, e2⟩ := hk (φ, cm, len, lk) hF
  have e1 : f8_halve x y z w φ cm len lk = some (cD j, v, cm', len', lk') := e1
  refine ⟨cm', len', lk', ?_⟩
  unfold fL_halve
  rw [e1, bnd]
  rcases (show j = 0 ∨ j = 1 ∨ j = 2 ∨ j = 3 by omega) with rfl | rfl | rfl | rfl
  · rw [e2 rfl]; rfl
  · rfl
  · rfl
  · rfl
theorem dq_firstBad (h : WF S) (x : Int32) (y : Int32) (z : Int32) : ∃ a, ∀ φ (cm : AI) (len : Int32), RF φ S → ∃ cm' len', fL_firstBad x y z φ cm len = some (a, cm', len') := by
  obtain ⟨j, v9, hk⟩ := det1 (α := Fo × AI × Int32) (ρ := AI × Int32) (Ok := fun a => RF a.1 S) (P := fun a => f8_firstBad x y z a.1 a.2.1 a.2.2) (R := f9_firstBad x y z (NS S) (nI 0)) (c := cD) (m := 4) (fun a hF => by
    obtain ⟨k, v, cm', len', th, v9, q1, q2, q3⟩ := firstBad_q (x := x) (x2 := y) (x3 := z) (th := nI 0) (cm := a.2.1) (len := a.2.2) h hF (NS_rn h)
    exact ⟨k, v, (cm', len'), th, v9, q1, q2, QD_Z q3⟩)
  refine ⟨if j = 0 then v9 else if j = 1 then (-1001) else if j = 2 then (-1002) else (-1003), fun φ cm len hF => ?_⟩
  obtain ⟨hj, v, ⟨cm', len'⟩, e1, e2⟩ := hk (φ, cm, len) hF
  have e1 : f8_firstBad x y z φ cm len = some (cD j, v, cm', len') := e1
  refine ⟨cm', len', ?_⟩
  unfold fL_firstBad
  rw [e1, bnd]
  rcases (show j = 0 ∨ j = 1 ∨ j = 2 ∨ j = 3 by omega) with rfl | rfl | rfl | rfl
  · rw [e2 rfl]; rfl
  · rfl
  · rfl
  · rfl
theorem dq_blame (h : WF S) (x : Int32) (y : Int32) : ∃ a, ∀ φ (cm : AI) (len : Int32), RF φ S → ∃ cm' len', fL_blame x y φ cm len = some (a, cm', len') := by
  obtain ⟨j, v9, hk⟩ := det1 (α := Fo × AI × Int32) (ρ := AI × Int32) (Ok := fun a => RF a.1 S) (P := fun a => f8_blame x y a.1 a.2.1 a.2.2) (R := f9_blame x y (NS S) (nI 0)) (c := cI) (m := 2) (fun a hF => by
    obtain ⟨k, v, cm', len', th, v9, q1, q2, q3⟩ := blame_q (x := x) (x2 := y) (th := nI 0) (cm := a.2.1) (len := a.2.2) h hF (NS_rn h)
    exact ⟨k, v, (cm', len'), th, v9, q1, q2, QA_Z q3⟩)
  refine ⟨if j = 0 then v9 else if j = 1 then (-1001) else (-1001), fun φ cm len hF => ?_⟩
  obtain ⟨hj, v, ⟨cm', len'⟩, e1, e2⟩ := hk (φ, cm, len) hF
  have e1 : f8_blame x y φ cm len = some (cI j, v, cm', len') := e1
  refine ⟨cm', len', ?_⟩
  unfold fL_blame
  rw [e1, bnd]
  rcases (show j = 0 ∨ j = 1 by omega) with rfl | rfl
  · rw [e2 rfl]; rfl
  · rfl
theorem dq_tastiest (h : WF S) (x : Int32) : ∃ a, ∀ φ (cm : AI) (len : Int32), RF φ S → ∃ cm' len', fL_tastiest x φ cm len = some (a, cm', len') := by
  obtain ⟨j, v9, hk⟩ := det1 (α := Fo × AI × Int32) (ρ := AI × Int32) (Ok := fun a => RF a.1 S) (P := fun a => f8_tastiest x a.1 a.2.1 a.2.2) (R := f9_tastiest x (NS S) (nI 0)) (c := cI) (m := 2) (fun a hF => by
    obtain ⟨k, v, cm', len', th, v9, q1, q2, q3⟩ := tastiest_q (x := x) (th := nI 0) (cm := a.2.1) (len := a.2.2) h hF (NS_rn h)
    exact ⟨k, v, (cm', len'), th, v9, q1, q2, QA_Z q3⟩)
  refine ⟨if j = 0 then v9 else if j = 1 then (-1001) else (-1001), fun φ cm len hF => ?_⟩
  obtain ⟨hj, v, ⟨cm', len'⟩, e1, e2⟩ := hk (φ, cm, len) hF
  have e1 : f8_tastiest x φ cm len = some (cI j, v, cm', len') := e1
  refine ⟨cm', len', ?_⟩
  unfold fL_tastiest
  rw [e1, bnd]
  rcases (show j = 0 ∨ j = 1 by omega) with rfl | rfl
  · rw [e2 rfl]; rfl
  · rfl
theorem dq_in (h : WF S) (x y : Int32) : ∃ a, ∀ φ, RF φ S → fL_in x y φ = some a := by
  obtain ⟨j, v9, hk⟩ := det0 (Ok := fun φ => RF φ S) (P := fun φ => (f8_isIn x y φ).map (fun r => (r.1, b2i r.2))) (R := (f9_isIn x y (NS S) (nI 0)).map (fun r => (b2i r.1, r.2))) (c := cI) (m := 2) (fun φ hF => by
    obtain ⟨k, v, th, v9, q1, q2, q3⟩ := isIn_q (x := x) (x2 := y) (th := nI 0) h hF (NS_rn h)
    refine ⟨k, b2i v, th, b2i v9, by rw [q1]; rfl, by rw [q2]; rfl, QA_Z ?_⟩
    rcases q3 with ⟨a, b, c⟩ | q3
    · exact Or.inl ⟨a, b, by rw [c]⟩
    · exact Or.inr q3)
  refine ⟨if j = 0 then (if v9 = 0 then nI 0 else nI 1) else (-1001), fun φ hF => ?_⟩
  obtain ⟨hj, v, e1, e2⟩ := hk φ hF
  obtain ⟨k, w, th, w9, q1, q2, q3⟩ := isIn_q (x := x) (x2 := y) (th := nI 0) h hF (NS_rn h)
  have e1 : (f8_isIn x y φ).map (fun r => (r.1, b2i r.2)) = some (cI j, v) := e1
  rw [q1] at e1
  have e3 := Option.some.inj e1
  have g1 : k = j := congrArg Prod.fst e3
  have g2 : b2i w = v := congrArg Prod.snd e3
  subst g1
  unfold fL_in
  rw [q1, bnd]
  dsimp only
  rcases (show k = 0 ∨ k = 1 by omega) with rfl | rfl
  · rw [if_pos rfl, if_pos rfl, ← e2 rfl, ← g2]
    cases w <;> rfl
  · rfl
theorem dq_taste (h : WF S) (x : Int32) : ∃ a, ∀ φ, RF φ S → fL_taste x φ = some a := by
  by_cases hne : ∃ v, f9_taste x (NS S) (nI 0) = some (v, nI 0)
  · obtain ⟨v9, h9⟩ := hne
    refine ⟨v9, fun φ hF => ?_⟩
    unfold fL_taste
    rcases taste_q (x := x) (th := nI 0) h hF (NS_rn h) with ⟨v, q1, q2, -⟩ | ⟨v, w9, q1, q2⟩
    · rw [h9] at q2
      have := congrArg Prod.fst (Option.some.inj q2)
      rw [q1, bnd]
      exact congrArg some this.symm
    · rw [h9] at q2
      have h2 := congrArg Prod.snd (Option.some.inj q2)
      exact absurd h2 (show ¬ nI 0 = nI 1 by decide)
  · refine ⟨3296346112, fun φ hF => ?_⟩
    unfold fL_taste
    rcases taste_q (x := x) (th := nI 0) h hF (NS_rn h) with ⟨v, q1, q2, -⟩ | ⟨v, w9, q1, q2⟩
    · exact absurd ⟨v, q2⟩ hne
    · rw [q1, bnd]; rfl
end DQ
