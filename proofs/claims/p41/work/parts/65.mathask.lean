section MS
variable {S : SS} {N M K : AI} {φ ψ φ' : Fo} {x x1 x2 x3 an th r is nx cn un ln : Int32} {N' : AI} {i j k n u a b c : Nat}
theorem k54 : ((5 : Nat) = 4) = False := eq_false (by decide)
theorem k40 : ((4 : Nat) = 0) = False := eq_false (by decide)
/-! the second way to the base -/
def po : Option Nat → Nat
  | none => 0
  | some j => 2 ^ j
def FI (S : SS) (i bits k : Nat) : Prop := ∀ t, (s_fa S i).testBit t = true ↔ (bits.testBit t = true ∨ ∃ j, j ≤ k ∧ bits.testBit j = true ∧ (s_fa S j).testBit t = true)
theorem po_bit {o : Option Nat} {t : Nat} : (po o).testBit t = true ↔ o = some t := by
  cases o with
  | none => exact ⟨fun q => by simp [po] at q, fun q => by cases q⟩
  | some j => exact tb_2.trans ⟨fun q => by rw [q], fun q => by cases q; rfl⟩
theorem FI_skip {bits : Nat} (hI : FI S i bits (k + 1)) (hb : bits.testBit (k + 1) = false) : FI S i bits k := by
  intro t
  rw [hI t]
  refine or_congr Iff.rfl ⟨fun ⟨u, a, b, c⟩ => ⟨u, ?_, b, c⟩, fun ⟨u, a, b, c⟩ => ⟨u, by omega, b, c⟩⟩
  have : u ≠ k + 1 := fun q => by rw [q, hb] at b; cases b
  omega
theorem FI_step {bits : Nat} (h : WF S) (hk : k + 1 < s_c S) (hI : FI S i bits (k + 1)) (hb : bits.testBit (k + 1) = true) : FI S i (bits ||| (po (s_fs S (k + 1)) ||| po (s_sc S (k + 1)))) k := by
  intro t
  rw [hI t, tb_or, tb_or, po_bit, po_bit]
  constructor
  · rintro (q | ⟨u, hu, q1, q2⟩)
    · exact Or.inl (Or.inl q)
    · by_cases hu2 : u = k + 1
      · subst hu2
        rcases (h.bit hk).mp q2 with q | ⟨v, a, b⟩ | ⟨v, a, b⟩
        · subst q; exact Or.inl (Or.inl hb)
        · have := h.fslt hk a
          exact Or.inr ⟨v, by omega, tb_or.mpr (Or.inr (tb_or.mpr (Or.inl (po_bit.mpr a)))), b⟩
        · have := h.sc hk a
          exact Or.inr ⟨v, by omega, tb_or.mpr (Or.inr (tb_or.mpr (Or.inr (po_bit.mpr a)))), b⟩
      · exact Or.inr ⟨u, by omega, tb_or.mpr (Or.inl q1), q2⟩
  · rintro ((q | q | q) | ⟨u, hu, q1, q2⟩)
    · exact Or.inl q
    · have := h.fslt hk q
      exact Or.inr ⟨k + 1, Nat.le_refl _, hb, (h.bit hk).mpr (Or.inr (Or.inl ⟨_, q, h.self (by omega)⟩))⟩
    · have := h.sc hk q
      exact Or.inr ⟨k + 1, Nat.le_refl _, hb, (h.bit hk).mpr (Or.inr (Or.inr ⟨_, q, h.self (by omega)⟩))⟩
    · rcases tb_or.mp q1 with q | q
      · exact Or.inr ⟨u, by omega, q, q2⟩
      · rcases tb_or.mp q with q | q
        · rw [po_bit] at q
          exact Or.inr ⟨k + 1, Nat.le_refl _, hb, (h.bit hk).mpr (Or.inr (Or.inl ⟨_, q, q2⟩))⟩
        · rw [po_bit] at q
          exact Or.inr ⟨k + 1, Nat.le_refl _, hb, (h.bit hk).mpr (Or.inr (Or.inr ⟨_, q, q2⟩))⟩
theorem FI_at {bits : Nat} (h : WF S) (hk : k < s_c S) (hI : FI S i bits k) : bits.testBit k = (s_fa S i).testBit k := by
  rw [Bool.eq_iff_iff, hI k]
  refine ⟨Or.inl, fun q => q.elim id (fun ⟨u, a, b, c⟩ => ?_)⟩
  have := h.le (show u < s_c S by omega) c
  have : u = k := by omega
  rw [← this]; exact b
theorem FI_start (h : WF S) (hi : i < s_c S) (hk : i ≤ k) : FI S i (2 ^ i) k := by
  intro t
  constructor
  · intro q
    exact Or.inr ⟨i, hk, tb_2.mpr rfl, q⟩
  · rintro (q | ⟨u, _, q1, q2⟩)
    · rw [tb_2] at q; subst q; exact h.self hi
    · rw [tb_2] at q1; subst q1; exact q2
theorem f8_setOf_o {o : Option Nat} (ho : ∀ v, o = some v → v < 24) : f8_setOf (oI o) = some (nI (po o)) := by
  cases o with
  | none => exact f8_setOf_m
  | some v => exact f8_setOf_e (ho v rfl)
theorem po_lt {o : Option Nat} (ho : ∀ v, o = some v → v < 24) : po o < 2 ^ 24 := by
  cases o with
  | none => exact Nat.two_pow_pos _
  | some v => exact Nat.pow_lt_pow_right (by omega) (ho v rfl)
theorem meet_L (h : WF S) (hF : RF φ S) : ∀ (k n A B : Nat), k < n → k < s_c S → A < 2 ^ 24 → B < 2 ^ 24 → FI S i A k → FI S j B k → f1_meetingPoint_L18 x1 x2 φ n (nI A) (nI B) (nI k) = some (nI (hib (s_fa S i &&& s_fa S j) k)) := by
  have hc := h.c24
  intro k
  induction k with
  | zero =>
    intro n A B hn hk hA hB h1 h2
    obtain ⟨n, rfl⟩ : ∃ n', n = n' + 1 := ⟨n - 1, by omega⟩
    rw [f1_meetingPoint_L18, if_pos (by rw [nJ_le0 (by omega)])]; rfl
  | succ k ih =>
    intro n A B hn hk hA hB h1 h2
    obtain ⟨n, rfl⟩ : ∃ n', n = n' + 1 := ⟨n - 1, by omega⟩
    have f1 : ∀ v, s_fs S (k + 1) = some v → v < 24 := fun v q => by have := h.fslt hk q; omega
    have f2 : ∀ v, s_sc S (k + 1) = some v → v < 24 := fun v q => by have := h.sc hk q; omega
    have p1 := po_lt f1; have p2 := po_lt f2
    have hP : po (s_fs S (k + 1)) ||| po (s_sc S (k + 1)) < 2 ^ 24 := Nat.or_lt_two_pow p1 p2
    have e1 := FI_at h hk h1; have e2 := FI_at h hk h2
    unfold hib
    rw [Nat.testBit_and, ← e1, ← e2]
    rw [f1_meetingPoint_L18, if_neg (by rw [nJ_le0 (by omega)]; omega), f8_isInSet_e (by omega) (by omega), bnd, f8_isInSet_e (by omega) (by omega), bnd]
    simp only [f1_firstOf_e h hF hk, f1_secondOf_e h hF hk, f8_setOf_o f1, f8_setOf_o f2, bnd, nJ_or, Nat.or_zero, nJ_m1 (show 1 ≤ k + 1 by omega) (show k + 1 < 2 ^ 31 by omega), Nat.add_sub_cancel]
    cases hb1 : A.testBit (k + 1) <;> cases hb2 : B.testBit (k + 1)
    · simp only [b2iF, reduceIte, Bool.and_self, Bool.false_eq_true]
      exact ih n A B (by omega) (by omega) hA hB (FI_skip h1 hb1) (FI_skip h2 hb2)
    · simp only [b2iF, if_neg b2iT, reduceIte, Bool.false_and, Bool.false_eq_true]
      exact ih n A _ (by omega) (by omega) hA (Nat.or_lt_two_pow hB hP) (FI_skip h1 hb1) (FI_step h hk h2 hb2)
    · simp only [b2iF, if_neg b2iT, reduceIte, Bool.and_false, Bool.false_eq_true]
      exact ih n _ B (by omega) (by omega) (Nat.or_lt_two_pow hA hP) hB (FI_step h hk h1 hb1) (FI_skip h2 hb2)
    · simp only [if_neg b2iT, Bool.and_self, reduceIte]
theorem f1_meetingPoint_e (h : WF S) (hF : RF φ S) (hi : i < s_c S) (hj : j < s_c S) : f1_meetingPoint (nI i) (nI j) φ = some (nI (cmn S i j)) := by
  have hc := h.c24
  have hp : ∀ j, j < 24 → 2 ^ j < 2 ^ 24 := fun j hj => Nat.pow_lt_pow_right (by omega) hj
  unfold f1_meetingPoint
  have hm : (if nI i < nI j then nI j else nI i) = nI (max i j) := by
    by_cases q : i < j
    · rw [if_pos (by rw [nJ_lt (by omega) (by omega)]; exact q), Nat.max_eq_right (by omega)]
    · rw [if_neg (by rw [nJ_lt (by omega) (by omega)]; exact q), Nat.max_eq_left (by omega)]
  rw [f8_setOf_e (by omega), bnd, f8_setOf_e (by omega), bnd, hm]
  rw [meet_L h hF (max i j) fuel (2 ^ i) (2 ^ j) (by unfold fuel; omega) (by omega) (hp i (by omega)) (hp j (by omega)) (FI_start h hi (by omega)) (FI_start h hj (by omega))]
  congr 2
  refine (hib_down (by omega) (fun t ht => ?_)).symm
  rw [Nat.testBit_and, Bool.and_eq_false_iff]
  left; rw [← Bool.not_eq_true]; intro w; have := h.le hi w; omega
theorem cmn_comm : cmn S i j = cmn S j i := by unfold cmn; rw [Nat.and_comm]
/-! needs -/
theorem need_b (h : WF S) (hF : RF φ S) : f8_needBranch x φ = some (if inb x (s_b S) then 0 else 1) := by
  unfold f8_needBranch
  rw [f1_isBranch_e h hF, bnd]
  cases inb x (s_b S)
  · rw [if_pos b2iF]; rfl
  · rw [if_neg b2iT]; rfl
theorem need_c (h : WF S) (hF : RF φ S) : f8_needCommit x φ = some (if inb x (s_c S) then 0 else 1) := by
  unfold f8_needCommit
  rw [f1_isCommit_e h hF, bnd]
  cases inb x (s_c S)
  · rw [if_pos b2iF]; rfl
  · rw [if_neg b2iT]; rfl
theorem need_i : f8_needIngredient x = some (if inb x 6 then 0 else 1) := by
  unfold f8_needIngredient
  rw [f8_isIngredient_e, bnd]
  cases inb x 6
  · rw [if_pos b2iF]; rfl
  · rw [if_neg b2iT]; rfl
theorem need_a : f8_needAmount x = some (if inb x 100 then 0 else 2) := by
  unfold f8_needAmount
  rw [f8_isAmount_e, bnd]
  cases inb x 100
  · rw [if_pos b2iF]; rfl
  · rw [if_neg b2iT]; rfl
/-- how the answers of a query go together -/
def QA (k : Nat) (v th v9 : Int32) : Prop := (k = 0 ∧ th = nI 0 ∧ v = v9) ∨ (k = 1 ∧ th = nI 1)
def QC (k : Nat) (v th v9 : Int32) : Prop := (k = 0 ∧ th = nI 0 ∧ v = v9) ∨ (k = 1 ∧ th = nI 1) ∨ (k = 2 ∧ th = nI 2)
theorem tip_q (h : WF S) (hF : RF φ S) (hN : RN N S) : ∃ k v th' v9, f8_tip x φ = some (k, v) ∧ f9_tip x N th = some (v9, th') ∧ QA k v th' v9 := by
  unfold f8_tip f9_tip
  rw [need_b h hF, f9_isBranch_e h hN, bnd, bnd]
  cases hK : inb x (s_b S)
  · exact ⟨_, _, _, _, rfl, rfl, Or.inr ⟨rfl, rfl⟩⟩
  · obtain ⟨j, hj, -, rfl⟩ := inb_ex hK
    rw [if_neg b2iT, f9_top_e h hN hj, f1_tipOf_e h hF hj]
    exact ⟨_, _, _, _, rfl, rfl, Or.inl ⟨rfl, rfl, rfl⟩⟩
theorem amount_q (h : WF S) (hF : RF φ S) (hN : RN N S) : ∃ k v th' v9, f8_amount x x2 φ = some (k, v) ∧ f9_amount x x2 N th = some (v9, th') ∧ QA k v th' v9 := by
  unfold f8_amount f9_amount
  rw [need_c h hF, f9_isCommit_e h hN, bnd, bnd]
  cases hK : inb x (s_c S)
  · exact ⟨_, _, _, _, rfl, rfl, Or.inr ⟨rfl, rfl⟩⟩
  obtain ⟨i, hi, -, rfl⟩ := inb_ex hK
  rw [if_pos (show (if true = true then 0 else 1) = 0 from rfl), if_neg b2iT, need_i, f9_isKind_e, bnd, bnd]
  cases hK2 : inb x2 6
  · exact ⟨_, _, _, _, rfl, rfl, Or.inr ⟨rfl, rfl⟩⟩
  obtain ⟨k, hk, -, rfl⟩ := inb_ex hK2
  rw [if_pos (show (if true = true then 0 else 1) = 0 from rfl), if_neg b2iT, f1_amountIn_e h hF hi hk, f9_has_e h hN hi hk]
  exact ⟨_, _, _, _, rfl, rfl, Or.inl ⟨rfl, rfl, rfl⟩⟩
theorem base_q (h : WF S) (hF : RF φ S) (hN : RN N S) : ∃ k v th' v9, f8_base x x2 φ = some (k, v) ∧ f8_baseAgain x x2 φ = some (k, v) ∧ f9_base x x2 N th = some (v9, th') ∧ QA k v th' v9 := by
  unfold f8_base f8_baseAgain f9_base
  rw [need_c h hF, f9_isCommit_e h hN, bnd, bnd, bnd]
  cases hK : inb x (s_c S)
  · exact ⟨_, _, _, _, rfl, rfl, rfl, Or.inr ⟨rfl, rfl⟩⟩
  obtain ⟨i, hi, -, rfl⟩ := inb_ex hK
  rw [if_pos (show (if true = true then 0 else 1) = 0 from rfl), if_pos (show (if true = true then 0 else 1) = 0 from rfl), if_neg b2iT, need_c h hF, f9_isCommit_e h hN, bnd, bnd, bnd]
  cases hK2 : inb x2 (s_c S)
  · exact ⟨_, _, _, _, rfl, rfl, rfl, Or.inr ⟨rfl, rfl⟩⟩
  obtain ⟨j, hj, -, rfl⟩ := inb_ex hK2
  rw [if_pos (show (if true = true then 0 else 1) = 0 from rfl), if_pos (show (if true = true then 0 else 1) = 0 from rfl), if_neg b2iT, f1_commonGround_e h hF hi hj, f1_meetingPoint_e h hF hi hj, f9_common_e h hN hi hj]
  exact ⟨_, _, _, _, rfl, rfl, rfl, Or.inl ⟨rfl, rfl, rfl⟩⟩
theorem diff_L (h : WF S) (hF : RF φ S) (hN : RN N S) (hi : i < s_c S) (hj : j < s_c S) : ∀ (d k n : Nat) (X : Int32), k + d = 6 → d < n → ∃ v, f8_difference_L15 (nI i) (nI j) φ n X (nI k) = some (0, v) ∧ f9_difference_L32 (nI i) (nI j) N n X (nI k) th = some (v, th) := by
  intro d
  induction d with
  | zero =>
    intro k n X hk hn
    obtain ⟨n, rfl⟩ : ∃ n', n = n' + 1 := ⟨n - 1, by omega⟩
    have : k = 6 := by omega
    subst this
    exact ⟨X, by rw [f8_difference_L15, if_pos (show nI 6 ≤ nI 6 by decide)], by rw [f9_difference_L32, if_pos (show nI 6 ≤ nI 6 by decide)]⟩
  | succ d ih =>
    intro k n X hk hn
    obtain ⟨n, rfl⟩ : ∃ n', n = n' + 1 := ⟨n - 1, by omega⟩
    have hle : ¬ nI 6 ≤ nI k := by rw [nJ_le (by omega) (by omega)]; omega
    rw [f8_difference_L15, f9_difference_L32, if_neg hle, if_neg hle, f1_amountIn_e h hF hi (by omega), f9_has_e h hN hi (by omega), bnd, bnd, f1_amountIn_e h hF hj (by omega), f9_has_e h hN hj (by omega), bnd, bnd, nI_add]
    exact ih (k + 1) n _ (by omega) (by omega)
theorem diff_q (h : WF S) (hF : RF φ S) (hN : RN N S) : ∃ k v th' v9, f8_difference x x2 φ = some (k, v) ∧ f9_difference x x2 N th = some (v9, th') ∧ QA k v th' v9 := by
  unfold f8_difference f9_difference
  rw [need_c h hF, f9_isCommit_e h hN, bnd, bnd]
  cases hK : inb x (s_c S)
  · exact ⟨_, _, _, _, rfl, rfl, Or.inr ⟨rfl, rfl⟩⟩
  obtain ⟨i, hi, -, rfl⟩ := inb_ex hK
  rw [if_pos (show (if true = true then 0 else 1) = 0 from rfl), if_neg b2iT, need_c h hF, f9_isCommit_e h hN, bnd, bnd]
  cases hK2 : inb x2 (s_c S)
  · exact ⟨_, _, _, _, rfl, rfl, Or.inr ⟨rfl, rfl⟩⟩
  obtain ⟨j, hj, -, rfl⟩ := inb_ex hK2
  obtain ⟨v, q1, q2⟩ := diff_L (th := nI 0) h hF hN hi hj 6 0 fuel (nI 0) (by omega) (by unfold fuel; omega)
  rw [if_pos (show (if true = true then 0 else 1) = 0 from rfl), if_neg b2iT, q1, q2]
  exact ⟨_, _, _, _, rfl, rfl, Or.inl ⟨rfl, rfl, rfl⟩⟩
theorem isIn_q (h : WF S) (hF : RF φ S) (hN : RN N S) : ∃ k v th' v9, f8_isIn x x2 φ = some (k, v) ∧ f9_isIn x x2 N th = some (v9, th') ∧ ((k = 0 ∧ th' = nI 0 ∧ v = v9) ∨ (k = 1 ∧ th' = nI 1)) := by
  unfold f8_isIn f9_isIn
  rw [need_c h hF, f9_isCommit_e h hN, bnd, bnd]
  cases hK : inb x (s_c S)
  · rw [if_pos b2iF, if_neg (show ¬ nI 1 = 0 by decide)]
    exact ⟨_, _, _, _, rfl, rfl, Or.inr ⟨rfl, rfl⟩⟩
  obtain ⟨i, hi, -, rfl⟩ := inb_ex hK
  rw [if_pos (show (if true = true then 0 else 1) = 0 from rfl), if_neg b2iT, need_c h hF, f9_isCommit_e h hN, bnd, bnd]
  cases hK2 : inb x2 (s_c S)
  · rw [if_pos b2iF, if_neg (show ¬ nI 1 = 0 by decide)]
    exact ⟨_, _, _, _, rfl, rfl, Or.inr ⟨rfl, rfl⟩⟩
  obtain ⟨j, hj, -, rfl⟩ := inb_ex hK2
  rw [if_pos (show (if true = true then 0 else 1) = 0 from rfl), if_neg b2iT, if_pos (show nI 0 = 0 from rfl), f1_hasInFamily_e h hF hj hi, f9_isWithin_e h hN hj hi, bnd]
  cases (s_fa S j).testBit i
  · exact ⟨_, _, _, _, rfl, rfl, Or.inl ⟨rfl, rfl, rfl⟩⟩
  · exact ⟨_, _, _, _, rfl, rfl, Or.inl ⟨rfl, rfl, rfl⟩⟩
theorem inBundle_q (h : WF S) (hF : RF φ S) (hN : RN N S) : ∃ k v th' v9, f8_inBundle x φ = some (k, v) ∧ f9_inBundle_ x N th = some (v9, th') ∧ ((k = 0 ∧ th' = nI 0 ∧ v = v9) ∨ (k = 1 ∧ th' = nI 1) ∨ (k = 4 ∧ th' = nI 2)) := by
  unfold f8_inBundle f9_inBundle_
  rw [f8_isPlace_e, f9_in_0 (by omega), bnd, bnd]
  cases hK : inb x 4
  · exact ⟨_, _, _, _, if_pos rfl, if_pos rfl, Or.inr (Or.inl ⟨rfl, rfl⟩)⟩
  obtain ⟨p, hp, -, rfl⟩ := inb_ex hK
  rw [if_neg b2iT, if_neg b2iT, f1_bundledAt_e hF hp, bnd, nI_add, inb_t (by omega) (by omega), if_pos rfl, nJ_nat (by omega), hN.2.1 p hp]
  cases hu : s_bu S p with
  | none => exact ⟨_, _, _, _, if_pos rfl, if_pos rfl, Or.inr (Or.inr ⟨rfl, rfl⟩)⟩
  | some u =>
    have hu2 := h.bu hp u hu
    rw [if_neg (by show ¬ nI u = -1; rw [nJ_eqm (by omega)]; exact fun q => q), if_neg (by show ¬ nI (u + 1) = 0; rw [nJ_eq0 (by omega)]; omega), if_pos rfl, show oP (some u) - nI 1 = nI u by show nI (u + 1) - nI 1 = _; rw [nJ_sub (by omega) (by omega)]; rfl]
    exact ⟨_, _, _, _, rfl, rfl, Or.inl ⟨rfl, rfl, rfl⟩⟩
theorem cfl_q (h : WF S) (hF : RF φ S) (hN : RN N S) {row row9 : AI} {cc lo cc9 fc9 : Int32} : ∃ k v row' cc' lo' th' v9 row9' cc9' fc9', f8_conflicts x x2 row cc lo φ = some (k, v, row', cc', lo') ∧ f9_conflicts x x2 N th row9 cc9 fc9 = some (v9, th', row9', cc9', fc9') ∧ QA k v th' v9 := by
  unfold f8_conflicts f9_conflicts
  rw [need_b h hF, f9_isBranch_e h hN, bnd, bnd]
  cases hK : inb x (s_b S)
  · exact ⟨_, _, _, _, _, _, _, _, _, _, rfl, rfl, Or.inr ⟨rfl, rfl⟩⟩
  obtain ⟨i, hi, -, rfl⟩ := inb_ex hK
  rw [if_pos (show (if true = true then 0 else 1) = 0 from rfl), if_neg b2iT, need_b h hF, f9_isBranch_e h hN, bnd, bnd]
  cases hK2 : inb x2 (s_b S)
  · exact ⟨_, _, _, _, _, _, _, _, _, _, rfl, rfl, Or.inr ⟨rfl, rfl⟩⟩
  obtain ⟨j, hj, -, rfl⟩ := inb_ex hK2
  have ti := h.tp hi; have tj := h.tp hj
  have hcm := cmn_lt h ti tj
  obtain ⟨w, q1, q2⟩ := f5_putTogether_e (r := 0) (row := row) (x := cc) (y := lo) h hF ti tj hcm (by omega)
  obtain ⟨w9, q3, q4⟩ := f9_mixes_e (r := 1) (row := row9) (x := cc9) (y := fc9) h hN ti tj hcm (by omega)
  rw [if_pos (show (if true = true then 0 else 1) = 0 from rfl), if_neg b2iT, f1_tipOf_e h hF hi, bnd, f1_tipOf_e h hF hj, bnd, f9_top_e h hN hi, bnd, f9_top_e h hN hj, bnd, bnd, bnd]
  unfold f0_conflictsBetween
  rw [f1_commonGround_e h hF ti tj, bnd, q1, f9_common_e h hN ti tj, bnd, bnd, q3]
  exact ⟨_, _, _, _, _, _, _, _, _, _, rfl, rfl, Or.inl ⟨rfl, rfl, rfl⟩⟩
theorem in_len {n : Nat} (hn : n ≤ 60) : f9_in x (nI 0) (nI n - nI 1) = some (inb x n) := by
  by_cases e : n = 0
  · subst e
    unfold f9_in
    by_cases a : x < 0
    · rw [if_pos (show x < nI 0 from a), inb_lo a]
    · rw [if_neg (show ¬ x < nI 0 from a), if_pos (by
        rw [Int32.lt_iff_toInt_lt]
        have a2 : ¬ x.toInt < 0 := fun q => a (Int32.lt_iff_toInt_lt.mpr q)
        rw [show (nI 0 - nI 1).toInt = -1 from by decide]
        omega)]
      exact congrArg some (decide_eq_false (by omega)).symm
  · rw [nJ_sub (by omega) (by omega), f9_in_0 (by omega), show n - 1 + 1 = n by omega]
theorem char_q {p q : AI} {l m : Int32} (hL : IVL p l q m) : ∃ k v th' v9, f8_character x p l = some (k, v) ∧ f9_character x q m th = some (v9, th') ∧ ((k = 0 ∧ th' = nI 0 ∧ ch v = ch v9) ∨ (k = 1 ∧ th' = nI 1)) := by
  obtain ⟨n, hn, rfl, rfl, hc⟩ := hL
  have has : f4_has x (nI n) = some (inb x n) := by
    unfold f4_has
    by_cases a : x < 0
    · rw [if_pos a, inb_lo a]
    · rw [if_neg a]
      by_cases b : nI n ≤ x
      · rw [if_pos b, inb_hi (by omega) b (Nat.le_refl _)]
      · have hb := inb_no a b (by omega)
        rw [if_neg b, hb]
        obtain ⟨j, h1, h2, rfl⟩ := inb_ex hb
        rw [if_neg (by rw [nJ_le (by omega) h2]; omega)]
  unfold f8_character f9_character
  rw [has, in_len (by omega), bnd, bnd]
  cases hK : inb x n
  · rw [if_pos b2iF, if_pos b2iF, if_neg (show ¬ nI 1 = 0 by decide)]
    exact ⟨_, _, _, _, rfl, rfl, Or.inr ⟨rfl, rfl⟩⟩
  · rw [if_neg b2iT, if_neg b2iT, if_pos (show nI 0 = 0 from rfl)]
    unfold f4_signAt
    rw [has, bnd, hK, if_neg b2iT]
    obtain ⟨i, hi, -, rfl⟩ := inb_ex hK
    rw [inb_t (by omega) (by omega), inb_t (by omega) (by omega), if_pos rfl, if_pos rfl, nJ_nat (by omega)]
    exact ⟨_, _, _, _, rfl, rfl, Or.inl ⟨rfl, rfl, hc i hi⟩⟩
theorem app_q {p q : AI} {l m : Int32} (hL : IVI p l q m) : ∃ k v p' l' th' v9 q' m', f8_append x p l = some (k, v, p', l') ∧ f9_append x q m th = some (v9, q', m', th') ∧ ((k = 0 ∧ th' = nI 0 ∧ v = v9) ∨ (k = 5 ∧ th' = nI 1)) ∧ IVI p' l' q' m' := by
  obtain ⟨n, hn, rfl, rfl, hc⟩ := hL
  unfold f8_append f9_append f3_isFull
  by_cases e : n = 60
  · rw [if_neg (by rw [nJ_lt (by omega) (by omega)]; omega), bnd, if_neg b2iT, if_pos (by rw [e])]
    exact ⟨_, _, _, _, _, _, _, _, rfl, rfl, Or.inr ⟨rfl, rfl⟩, ⟨n, hn, rfl, rfl, hc⟩⟩
  · rw [if_pos (by rw [nJ_lt (by omega) (by omega)]; omega), bnd, if_pos b2iF, if_neg (by rw [nJ_eq (by omega) (by omega)]; exact e)]
    unfold f3_add
    rw [if_neg (by rw [nJ_lt0 (by omega)]; exact fun h => h), if_neg (by rw [nJ_le (by omega) (by omega)]; omega), inb_t (by omega) (by omega), if_pos rfl, lt_eq, lt_eq, lt_eq, if_pos rfl, lt_eq, nJ_nat (by omega), nI_add]
    refine ⟨_, _, _, _, _, _, _, _, rfl, rfl, Or.inl ⟨rfl, rfl, rfl⟩, ⟨n + 1, by omega, rfl, rfl, fun i hi => ?_⟩⟩
    by_cases e2 : i = n
    · rw [e2, upd_s, upd_s]
    · rw [upd_n _ _ e2, upd_n _ _ e2]; exact hc i (by omega)
end MS
section MT
variable {S : SS} {N M K : AI} {φ ψ φ' : Fo} {x x1 x2 x3 an th r is nx cn un ln : Int32} {N' : AI} {i j k n u a b c m : Nat}
theorem those_L (h : WF S) (hF : RF φ S) (hN : RN N S) : ∀ (d k n : Nat) (X : Int32), k + d = s_c S → d < n → ∃ v, f1_countKind_L4 x φ n X (nI k) = some v ∧ f9_those_L4 x N n X (nI k) = some v := by
  have hc := h.c24
  intro d
  induction d with
  | zero =>
    intro k n X hk hn
    obtain ⟨n, rfl⟩ : ∃ n', n = n' + 1 := ⟨n - 1, by omega⟩
    have : k = s_c S := by omega
    subst this
    exact ⟨X, by rw [f1_countKind_L4, hF.1.1, if_pos (by rw [nJ_le (by omega) (by omega)]; omega)], by rw [f9_those_L4, show (nI 0).toNatClampNeg = 0 from rfl, hN.1.1, if_pos (by rw [nJ_le (by omega) (by omega)]; omega)]⟩
  | succ d ih =>
    intro k n X hk hn
    obtain ⟨n, rfl⟩ : ∃ n', n = n' + 1 := ⟨n - 1, by omega⟩
    have hle : ¬ nI (s_c S) ≤ nI k := by rw [nJ_le (by omega) (by omega)]; omega
    rw [f1_countKind_L4, f9_those_L4, hF.1.1, show (nI 0).toNatClampNeg = 0 from rfl, hN.1.1, if_neg hle, if_neg hle, f1_kindOf_e h hF (by omega), f9_kd_e h hN (by omega), bnd, bnd, nI_add]
    by_cases e : nI (s_kd S k) = x
    · rw [if_pos e, if_pos e]; exact ih (k + 1) n _ (by omega) (by omega)
    · rw [if_neg e, if_neg e]; exact ih (k + 1) n _ (by omega) (by omega)
theorem those_e (h : WF S) (hF : RF φ S) (hN : RN N S) : ∃ v, f1_countKind x φ = some v ∧ f9_those x N = some v := by
  have hc := h.c24
  exact those_L h hF hN (s_c S) 0 fuel (nI 0) (by omega) (by unfold fuel; omega)
theorem lost_L (h : WF S) (hF : RF φ S) (hN : RN N S) : ∀ (d k n : Nat) (X : Int32), k + d = s_b S → d < n → ∃ v, f1_countLost_L4 φ n X (nI k) = some v ∧ f9_account_L92 x N un ln n X (nI k) th = some (v, th) := by
  have hc := h.b5
  intro d
  induction d with
  | zero =>
    intro k n X hk hn
    obtain ⟨n, rfl⟩ : ∃ n', n = n' + 1 := ⟨n - 1, by omega⟩
    have : k = s_b S := by omega
    subst this
    have hle : nI (s_b S) ≤ nI (s_b S) := by rw [nJ_le (by omega) (by omega)]; omega
    rw [f1_countLost_L4, f9_account_L92, hF.1.2.1, show (nI 1).toNatClampNeg = 1 from rfl, hN.1.2.1, if_pos hle, if_pos hle, hF.1.1, show (nI 0).toNatClampNeg = 0 from rfl, hN.1.1]
    unfold fJ6_bitCount_0f7a4
    rw [bnd, bnd]
    exact ⟨_, rfl, rfl⟩
  | succ d ih =>
    intro k n X hk hn
    obtain ⟨n, rfl⟩ : ∃ n', n = n' + 1 := ⟨n - 1, by omega⟩
    have hle : ¬ nI (s_b S) ≤ nI k := by rw [nJ_le (by omega) (by omega)]; omega
    have hk2 : k < s_b S := by omega
    rw [f1_countLost_L4, f9_account_L92, hF.1.2.1, show (nI 1).toNatClampNeg = 1 from rfl, hN.1.2.1, if_neg hle, if_neg hle, f1_tipOf_e h hF hk2, f9_top_e h hN hk2, bnd, bnd, f1_familyOf_e h hF (h.tp hk2), f9_family_e h hN (h.tp hk2), bnd, bnd, nI_add]
    exact ih (k + 1) n _ (by omega) (by omega)
theorem sum_in (h : WF S) (hF : RF φ S) (hN : RN N S) (hk : k < s_b S) {KF : Int32 → Int32 → Option Int32} {KN : Int32 → Int32 → Int32 → Option (Int32 × Int32)} (hK : ∀ X, ∃ v, KF X (nI (k + 1)) = some v ∧ KN X (nI (k + 1)) th = some (v, th)) : ∀ (d q n : Nat) (X : Int32), q + d = 6 → d < n → ∃ v, f1_sumOfTips_L14 KF φ n X (nI k) (nI q) = some v ∧ f9_account_L159 KN x N un ln n X (nI k) (nI q) th = some (v, th) := by
  have hb := h.b5
  intro d
  induction d with
  | zero =>
    intro q n X hq hn
    obtain ⟨n, rfl⟩ : ∃ n', n = n' + 1 := ⟨n - 1, by omega⟩
    have : q = 6 := by omega
    subst this
    rw [f1_sumOfTips_L14, f9_account_L159, if_pos (show nI 6 ≤ nI 6 by decide), if_pos (show nI 6 ≤ nI 6 by decide), nI_add]
    exact hK X
  | succ d ih =>
    intro q n X hq hn
    obtain ⟨n, rfl⟩ : ∃ n', n = n' + 1 := ⟨n - 1, by omega⟩
    have hle : ¬ nI 6 ≤ nI q := by rw [nJ_le (by omega) (by omega)]; omega
    rw [f1_sumOfTips_L14, f9_account_L159, if_neg hle, if_neg hle, f1_tipOf_e h hF hk, f9_top_e h hN hk, bnd, bnd, f1_amountIn_e h hF (h.tp hk) (by omega), f9_has_e h hN (h.tp hk) (by omega), bnd, bnd, nI_add]
    exact ih (q + 1) n _ (by omega) (by omega)
theorem sum_L (h : WF S) (hF : RF φ S) (hN : RN N S) : ∀ (d k n : Nat) (X : Int32), k + d = s_b S → d < n → ∃ v, f1_sumOfTips_L4 φ n X (nI k) = some v ∧ f9_account_L146 x N un ln n X (nI k) th = some (v, th) := by
  have hb := h.b5
  intro d
  induction d with
  | zero =>
    intro k n X hk hn
    obtain ⟨n, rfl⟩ : ∃ n', n = n' + 1 := ⟨n - 1, by omega⟩
    have : k = s_b S := by omega
    subst this
    have hle : nI (s_b S) ≤ nI (s_b S) := by rw [nJ_le (by omega) (by omega)]; omega
    rw [f1_sumOfTips_L4, f9_account_L146, hF.1.2.1, show (nI 1).toNatClampNeg = 1 from rfl, hN.1.2.1, if_pos hle, if_pos hle]
    exact ⟨_, rfl, rfl⟩
  | succ d ih =>
    intro k n X hk hn
    obtain ⟨n, rfl⟩ : ∃ n', n = n' + 1 := ⟨n - 1, by omega⟩
    have hle : ¬ nI (s_b S) ≤ nI k := by rw [nJ_le (by omega) (by omega)]; omega
    rw [f1_sumOfTips_L4, f9_account_L146, hF.1.2.1, show (nI 1).toNatClampNeg = 1 from rfl, hN.1.2.1, if_neg hle, if_neg hle]
    exact sum_in h hF hN (by omega) (fun X => ih (k + 1) n X (by omega) (by omega)) 6 0 fuel X (by omega) (by unfold fuel; omega)
theorem acc_q (h : WF S) (hF : RF φ S) (hN : RN N S) : ∃ k v th' v9, f8_account x φ un ln = some (k, v) ∧ f9_account x N un ln th = some (v9, th') ∧ ((k = 0 ∧ th' = nI 0 ∧ v = v9) ∨ (k = 2 ∧ th' = nI 1)) := by
  have hb := h.b5
  have fin : ∀ {o : Option Int32} {o9 : Option (Int32 × Int32)} (v : Int32), o = some v → o9 = some (v, nI 0) → ∃ k v th' v9, (o.bind fun r => some (0, r)) = some (k, v) ∧ o9 = some (v9, th') ∧ ((k = 0 ∧ th' = nI 0 ∧ v = v9) ∨ (k = 2 ∧ th' = nI 1)) := by
    intro o o9 v e1 e2
    exact ⟨0, v, nI 0, v, by rw [e1, bnd], e2, Or.inl ⟨rfl, rfl, rfl⟩⟩
  cases hK : inb x 11
  · have hx : ∀ c, c < 11 → ¬ x = nI c := fun c hc q => by rw [q, inb_t hc (by omega)] at hK; cases hK
    unfold f8_account f9_account
    rw [if_neg (hx 0 (by omega)), if_neg (hx 1 (by omega)), if_neg (hx 2 (by omega)), if_neg (hx 3 (by omega)), if_neg (hx 4 (by omega)), if_neg (hx 5 (by omega)), if_neg (hx 6 (by omega)), if_neg (hx 7 (by omega)), if_neg (hx 8 (by omega)), if_neg (hx 9 (by omega)), if_neg (hx 10 (by omega)), if_neg (hx 0 (by omega)), if_neg (hx 1 (by omega)), if_neg (hx 2 (by omega)), if_neg (hx 3 (by omega)), if_neg (hx 4 (by omega)), if_neg (hx 5 (by omega)), if_neg (hx 6 (by omega)), if_neg (hx 7 (by omega)), if_neg (hx 8 (by omega)), if_neg (hx 9 (by omega)), if_neg (hx 10 (by omega)), rai_e]
    exact ⟨_, _, _, _, rfl, rfl, Or.inr ⟨rfl, rfl⟩⟩
  · obtain ⟨c, hc, -, rfl⟩ := inb_ex hK
    unfold f8_account f9_account
    rcases (show c = 0 ∨ c = 1 ∨ c = 2 ∨ c = 3 ∨ c = 4 ∨ c = 5 ∨ c = 6 ∨ c = 7 ∨ c = 8 ∨ c = 9 ∨ c = 10 by omega) with rfl | rfl | rfl | rfl | rfl | rfl | rfl | rfl | rfl | rfl | rfl <;> simp only [nJ_eq, Nat.reducePow, Nat.reduceLT, Nat.reduceEqDiff, reduceIte]
    · exact fin _ (congrArg some hF.1.1) (by rw [show (nI 0).toNatClampNeg = 0 from rfl, hN.1.1])
    · exact fin _ (congrArg some hF.1.2.1) (by rw [show (nI 1).toNatClampNeg = 1 from rfl, hN.1.2.1])
    · obtain ⟨v, q1, q2⟩ := those_e (x := nI 0) h hF hN
      exact fin v q1 (by rw [show nI 2 - nI 2 = nI 0 by decide, q2, bnd])
    · obtain ⟨v, q1, q2⟩ := those_e (x := nI 1) h hF hN
      exact fin v q1 (by rw [show nI 3 - nI 2 = nI 1 by decide, q2, bnd])
    · obtain ⟨v, q1, q2⟩ := those_e (x := nI 2) h hF hN
      exact fin v q1 (by rw [show nI 4 - nI 2 = nI 2 by decide, q2, bnd])
    · obtain ⟨v, q1, q2⟩ := lost_L (x := nI 5) (un := un) (ln := ln) (th := nI 0) h hF hN (s_b S) 0 fuel (nI 0) (by omega) (by unfold fuel; omega)
      exact fin v q1 q2
    · exact fin _ (congrArg some hF.1.2.2) (by rw [show (nI 2).toNatClampNeg = 2 from rfl, hN.1.2.2])
    · exact fin _ (f1_bundledCount_e h hF) (by rw [f9_inBundle_e h hN, bnd])
    · obtain ⟨v, q1, q2⟩ := sum_L (x := nI 8) (un := un) (ln := ln) (th := nI 0) h hF hN (s_b S) 0 fuel (nI 0) (by omega) (by unfold fuel; omega)
      exact fin v q1 q2
    · exact fin ln rfl rfl
    · exact fin un rfl rfl
/-! numbers of a commit -/
theorem chg_step (h : WF S) (hF : RF φ S) (hi : i < s_c S) (hj : j < s_c S) (hk : k < 6) : f1_changedIn_L18 (nI i) φ (n + 1) (nI j) (nI m) (nI k) = f1_changedIn_L18 (nI i) φ n (nI j) (nI (m + df1 (s_am S i k) (s_am S j k))) (nI (k + 1)) := by
  have a1 := h.am hi hk; have a2 := h.am hj hk
  rw [f1_changedIn_L18, if_neg (by rw [nJ_le (by omega) (by omega)]; omega), f1_amountIn_e h hF hi hk, bnd, f1_amountIn_e h hF hj hk, bnd, nI_add, nI_add]
  unfold df1
  by_cases e : s_am S i k = s_am S j k
  · rw [if_pos (by rw [e]), if_pos e]; rfl
  · rw [if_neg (by rw [nJ_eq (by omega) (by omega)]; exact e), if_neg e]
theorem unl_step (h : WF S) (hN : RN N S) (hi : i < s_c S) (hj : j < s_c S) (hk : k < 6) : f9_unlike_L5 (nI i) (nI j) N (n + 1) (nI m) (nI k) = f9_unlike_L5 (nI i) (nI j) N n (nI (m + df1 (s_am S i k) (s_am S j k))) (nI (k + 1)) := by
  have a1 := h.am hi hk; have a2 := h.am hj hk
  rw [f9_unlike_L5, if_neg (by rw [nJ_le (by omega) (by omega)]; omega), f9_has_e h hN hi hk, bnd, f9_has_e h hN hj hk, bnd, nI_add, nI_add]
  unfold df1
  by_cases e : s_am S i k = s_am S j k
  · rw [if_pos (by rw [e]), if_pos e]; rfl
  · rw [if_neg (by rw [nJ_eq (by omega) (by omega)]; exact e), if_neg e]
theorem f1_changedIn_e (h : WF S) (hF : RF φ S) (hi : i < s_c S) (hj : s_fs S i = some j) : f1_changedIn (nI i) φ = some (nI (unl (s_am S i) (s_am S j))) := by
  have hc := h.c24
  have := h.fslt hi hj
  have hj2 : j < s_c S := by omega
  unfold f1_changedIn
  rw [f1_firstOf_e h hF hi, bnd, hj, if_neg (by show ¬ nI j = -1; rw [nJ_eqm (by omega)]; exact fun q => q), show oI (some j) = nI j from rfl, show fuel = 1993 + 1 + 1 + 1 + 1 + 1 + 1 + 1 from rfl, chg_step h hF hi hj2 (by omega), chg_step h hF hi hj2 (by omega), chg_step h hF hi hj2 (by omega), chg_step h hF hi hj2 (by omega), chg_step h hF hi hj2 (by omega), chg_step h hF hi hj2 (by omega), f1_changedIn_L18, if_pos (by decide)]
  unfold unl
  simp only [Nat.zero_add, Nat.reduceAdd]
theorem f9_unlike_e (h : WF S) (hN : RN N S) (hi : i < s_c S) (hj2 : j < s_c S) : f9_unlike (nI i) (nI j) N = some (nI (unl (s_am S i) (s_am S j))) := by
  unfold f9_unlike
  rw [show fuel = 1993 + 1 + 1 + 1 + 1 + 1 + 1 + 1 from rfl, unl_step h hN hi hj2 (by omega), unl_step h hN hi hj2 (by omega), unl_step h hN hi hj2 (by omega), unl_step h hN hi hj2 (by omega), unl_step h hN hi hj2 (by omega), unl_step h hN hi hj2 (by omega), f9_unlike_L5, if_pos (by decide)]
  unfold unl
  simp only [Nat.zero_add, Nat.reduceAdd]
theorem deep_L (h : WF S) (hN : RN N S) (hi : i < s_c S) : ∀ (d k n : Nat) (D : AI), k + d = i + 1 → 1 ≤ k → d < n → (∀ q, q < k → D q = nI (s_dp S q)) → f9_deep_L7 (nI i) N n (nI k) D = some (nI (s_dp S i)) := by
  have hc := h.c24
  intro d
  induction d with
  | zero =>
    intro k n D hk h1 hn hD
    obtain ⟨n, rfl⟩ : ∃ n', n = n' + 1 := ⟨n - 1, by omega⟩
    rw [f9_deep_L7, if_pos (by rw [nJ_lt (by omega) (by omega)]; omega), inb_t (by omega) (by omega), if_pos rfl, nJ_nat (by omega), hD i (by omega)]
  | succ d ih =>
    intro k n D hk h1 hn hD
    obtain ⟨n, rfl⟩ : ∃ n', n = n' + 1 := ⟨n - 1, by omega⟩
    have hk2 : k < s_c S := by omega
    obtain ⟨j, e1, e2⟩ := h.fs hk2 (by omega)
    have hdj := h.dp j (by omega)
    have hdp := (h.2.1 k hk2).2.2.2.2.1
    rw [e1] at hdp
    rw [f9_deep_L7, if_neg (by rw [nJ_lt (by omega) (by omega)]; omega), f9_fs_e h hN hk2, bnd, e1, show oI (some j) = nI j from rfl, inb_t (by omega) (by omega), if_pos rfl, inb_t (by omega) (by omega), if_pos rfl, lt_eq, nJ_nat (by omega), nJ_nat (by omega), hD j e2, nI_add, f9_sc_e h hN hk2, bnd, nI_add]
    have hD2 : ∀ q, q < k → upd D k (nI (s_dp S j + 1)) q = nI (s_dp S q) := fun q hq => by rw [upd_n _ _ (by omega)]; exact hD q hq
    cases e3 : s_sc S k with
    | none =>
      rw [e3] at hdp
      rw [if_pos (show oI none < 0 by decide)]
      refine ih (k + 1) n _ (by omega) (by omega) (by omega) (fun q hq => ?_)
      by_cases e : q = k
      · rw [e, upd_s, hdp]
        congr 1
      · exact hD2 q (by omega)
    | some g =>
      have hg := h.sc hk2 e3
      have hdg := h.dp g (by omega)
      rw [e3] at hdp
      rw [show oI (some g) = nI g from rfl, if_neg (by rw [nJ_lt0 (by omega)]; exact fun q => q), if_pos rfl, bnd, inb_t (by omega) (by omega), if_pos rfl, if_pos rfl, lt_eq, nJ_nat (by omega), upd_s, hD2 g hg, nI_add]
      refine ih (k + 1) n _ (by omega) (by omega) (by omega) (fun q hq => ?_)
      by_cases e : q = k
      · rw [e, upd_s, hdp]
        show _ = nI (max (s_dp S j + 1) (s_dp S g + 1))
        by_cases e4 : s_dp S j + 1 < s_dp S g + 1
        · rw [if_pos (by rw [nJ_lt (by omega) (by omega)]; exact e4), Nat.max_eq_right (by omega)]
        · rw [if_neg (by rw [nJ_lt (by omega) (by omega)]; exact e4), Nat.max_eq_left (by omega)]
      · rw [upd_n _ _ e]; exact hD2 q (by omega)
theorem f9_deep_e (h : WF S) (hN : RN N S) (hi : i < s_c S) : f9_deep (nI i) N = some (nI (s_dp S i)) := by
  have hc := h.c24
  have h1 := h.c1
  refine deep_L h hN hi i 1 fuel _ (by omega) (by omega) (by unfold fuel; omega) (fun q hq => ?_)
  have : q = 0 := by omega
  subst this
  have := h.dp 0 (by omega)
  rw [show s_dp S 0 = 0 by omega]; rfl
theorem commitOf_q (h : WF S) (hF : RF φ S) (hN : RN N S) : ∃ k v th' v9, f8_commitOf x x2 φ = some (k, v) ∧ f9_commitOf x x2 N th = some (v9, th') ∧ QC k v th' v9 := by
  have hc := h.c24
  unfold f8_commitOf f9_commitOf
  rw [need_c h hF, f9_isCommit_e h hN, bnd, bnd]
  cases hK : inb x (s_c S)
  · exact ⟨_, _, _, _, rfl, rfl, Or.inr (Or.inl ⟨rfl, rfl⟩)⟩
  obtain ⟨i, hi, -, rfl⟩ := inb_ex hK
  rw [if_pos (show (if true = true then 0 else 1) = 0 from rfl), if_neg b2iT]
  cases hK2 : inb x2 6
  · have hx : ∀ c, c < 6 → ¬ x2 = nI c := fun c hc q => by rw [q, inb_t hc (by omega)] at hK2; cases hK2
    rw [if_neg (hx 0 (by omega)), if_neg (hx 1 (by omega)), if_neg (hx 2 (by omega)), if_neg (hx 3 (by omega)), if_neg (hx 4 (by omega)), if_neg (hx 5 (by omega)), if_neg (hx 0 (by omega)), if_neg (hx 1 (by omega)), if_neg (hx 2 (by omega)), if_neg (hx 3 (by omega)), if_neg (hx 4 (by omega)), if_neg (hx 5 (by omega)), rai_e]
    exact ⟨_, _, _, _, rfl, rfl, Or.inr (Or.inr ⟨rfl, rfl⟩)⟩
  obtain ⟨c, hc6, -, rfl⟩ := inb_ex hK2
  rcases (show c = 0 ∨ c = 1 ∨ c = 2 ∨ c = 3 ∨ c = 4 ∨ c = 5 by omega) with rfl | rfl | rfl | rfl | rfl | rfl <;> simp only [nJ_eq, Nat.reducePow, Nat.reduceLT, Nat.reduceEqDiff, reduceIte]
  · rw [f1_kindOf_e h hF hi, f9_kd_e h hN hi]
    exact ⟨_, _, _, _, rfl, rfl, Or.inl ⟨rfl, rfl, rfl⟩⟩
  · rw [f1_firstOf_e h hF hi, f9_fs_e h hN hi]
    exact ⟨_, _, _, _, rfl, rfl, Or.inl ⟨rfl, rfl, rfl⟩⟩
  · rw [f1_secondOf_e h hF hi, f9_sc_e h hN hi]
    exact ⟨_, _, _, _, rfl, rfl, Or.inl ⟨rfl, rfl, rfl⟩⟩
  · by_cases e : i = 0
    · subst e
      rw [if_pos (show nI 0 = 0 from rfl)]
      unfold f1_changedIn
      rw [f1_firstOf_e h hF hi, bnd, h.1.2.2.2.2.2.1, if_pos (show oI none = -1 from rfl)]
      exact ⟨_, _, _, _, rfl, rfl, Or.inl ⟨rfl, rfl, rfl⟩⟩
    · obtain ⟨j, e1, e2⟩ := h.fs hi (by omega)
      rw [if_neg (by rw [nJ_eq0 (by omega)]; exact e), f1_changedIn_e h hF hi e1, f9_fs_e h hN hi, bnd, bnd, e1, show oI (some j) = nI j from rfl, f9_unlike_e h hN hi (by omega)]
      exact ⟨_, _, _, _, rfl, rfl, Or.inl ⟨rfl, rfl, rfl⟩⟩
  · rw [f1_familyOf_e h hF hi, f9_family_e h hN hi, bnd, bnd]
    unfold fJ6_bitCount_0f7a4
    rw [bnd, bnd]
    exact ⟨_, _, _, _, rfl, rfl, Or.inl ⟨rfl, rfl, rfl⟩⟩
  · rw [f1_depthOf_e h hF hi, f9_deep_e h hN hi]
    exact ⟨_, _, _, _, rfl, rfl, Or.inl ⟨rfl, rfl, rfl⟩⟩
/-! all is well -/
theorem m1_lt {q : Nat} (hq : q < 2 ^ 31) : (-1 : Int32) < nI q := by
  rw [Int32.lt_iff_toInt_lt, nI_toInt hq]
  have : ((-1 : Int32)).toInt = -1 := rfl
  omega
theorem m1_nle {q : Nat} (hq : q < 2 ^ 31) : ¬ nI q ≤ (-1 : Int32) := by
  rw [Int32.le_iff_toInt_le, nI_toInt hq]
  have : ((-1 : Int32)).toInt = -1 := rfl
  omega
theorem born_e (h : WF S) (hF : RF φ S) (hi : i < s_c S) : f1_isBornWell (nI i) φ = some true := by
  have hc := h.c24
  have h2 : oI (s_sc S i) < nI i := by
    cases e : s_sc S i with
    | none => exact m1_lt (by omega)
    | some g =>
      have := h.sc hi e
      show nI g < nI i
      rw [nJ_lt (by omega) (by omega)]; omega
  unfold f1_isBornWell
  rw [f1_firstOf_e h hF hi, bnd]
  by_cases e : i = 0
  · subst e
    rw [h.1.2.2.2.2.2.1, if_neg (show ¬ nI 0 ≤ oI none from m1_nle (by omega)), f1_secondOf_e h hF hi, bnd, if_pos h2, if_pos (show oI none = -1 from rfl)]
  · obtain ⟨j, e1, e2, e3⟩ := (h.2.1 i hi).2.1 (by omega)
    have hkd := h.kd hi
    rw [e1, show oI (some j) = nI j from rfl, if_neg (by rw [nJ_le (by omega) (by omega)]; omega), f1_secondOf_e h hF hi, bnd, if_pos h2, if_neg (by rw [nJ_eqm (by omega)]; exact fun q => q), f1_kindOf_e h hF hi, bnd]
    by_cases e4 : s_kd S i = 0
    · rw [if_pos (by rw [e4]; rfl), f1_changedIn_e h hF hi e1, bnd, e3 e4, if_pos rfl]
    · rw [if_neg (by rw [nJ_eq0 (by omega)]; exact e4)]
theorem same_L (h : WF S) (hF : RF φ S) (hi : i < s_c S) : ∀ (d k n : Nat), k + d = i + 1 → d < n → f1_areBasesSame_L2 (nI i) φ n (nI k) = some true := by
  have hc := h.c24
  intro d
  induction d with
  | zero =>
    intro k n hk hn
    obtain ⟨n, rfl⟩ : ∃ n', n = n' + 1 := ⟨n - 1, by omega⟩
    rw [f1_areBasesSame_L2, if_pos (by rw [nJ_lt (by omega) (by omega)]; omega)]
  | succ d ih =>
    intro k n hk hn
    obtain ⟨n, rfl⟩ : ∃ n', n = n' + 1 := ⟨n - 1, by omega⟩
    have hk2 : k < s_c S := by omega
    rw [f1_areBasesSame_L2, if_neg (by rw [nJ_lt (by omega) (by omega)]; omega), f1_commonGround_e h hF hi hk2, bnd, f1_meetingPoint_e h hF hi hk2, bnd, if_pos rfl, f1_meetingPoint_e h hF hk2 hi, bnd, cmn_comm (i := k), if_pos rfl, nI_add]
    exact ih (k + 1) n (by omega) (by omega)
theorem well_L (h : WF S) (hF : RF φ S) : ∀ (d k n : Nat), k + d = s_c S → d < n → f8_isWell_L2 φ n (nI k) = some true := by
  have hc := h.c24
  intro d
  induction d with
  | zero =>
    intro k n hk hn
    obtain ⟨n, rfl⟩ : ∃ n', n = n' + 1 := ⟨n - 1, by omega⟩
    rw [f8_isWell_L2, show f1_commitCount φ = some (nI (s_c S)) from congrArg some hF.1.1, bnd, if_pos (by rw [nJ_le (by omega) (by omega)]; omega)]
  | succ d ih =>
    intro k n hk hn
    obtain ⟨n, rfl⟩ : ∃ n', n = n' + 1 := ⟨n - 1, by omega⟩
    have hs : f1_areBasesSame (nI k) φ = some true := same_L h hF (by omega) (k + 1) 0 fuel (by omega) (by unfold fuel; omega)
    rw [f8_isWell_L2, show f1_commitCount φ = some (nI (s_c S)) from congrArg some hF.1.1, bnd, if_neg (by rw [nJ_le (by omega) (by omega)]; omega), born_e h hF (by omega), bnd, if_neg b2iT, hs, bnd, if_neg b2iT, nI_add]
    exact ih (k + 1) n (by omega) (by omega)
theorem well_e (h : WF S) (hF : RF φ S) : f8_isWell φ = some true := by
  have hc := h.c24
  exact well_L h hF (s_c S) 0 fuel (by omega) (by unfold fuel; omega)
end MT

