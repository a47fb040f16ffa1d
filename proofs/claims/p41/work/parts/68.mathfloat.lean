/-! floats -/
def chkM (a : Fin 100) (k : Fin 6) : Bool := decide (FP.fmul (FP.i2f (nI a.1)) (FP.i2f (nI (k.1 + 1))) = FP.i2f (nI (a.1 * (k.1 + 1))))
theorem chkM_all : ∀ a k, chkM a k = true := by decide +kernel
def Wf (m : Nat) : UInt32 := FP.fdiv (FP.i2f (nI m)) (1090519040 : UInt32)
def chkW (m : Nat) : Bool := match FP.Core.val32 (Wf m) with
  | .fin false c q => decide (-149 ≤ q ∧ c * 2 ^ (q + 149).toNat = m * 2 ^ 146)
  | _ => false
theorem chkW_all : ∀ m : Fin 2100, chkW m.1 = true := by decide +kernel
def chkN (m : Nat) : Bool := match FP.Core.val32 (FP.i2f (nI m)) with
  | .fin false c q => decide (-149 ≤ q ∧ c * 2 ^ (q + 149).toNat = m * 2 ^ 149)
  | _ => false
theorem chkN_all : ∀ m : Fin 600, chkN m.1 = true := by decide +kernel
section MF
variable {S : SS} {N : AI} {φ : Fo} {x1 : Int32} {i j k n m p a b s c d : Nat} {x y r : UInt32}
theorem W_fin (hm : m < 2100) : ∃ c q, FP.Core.val32 (Wf m) = FP.Core.Datum.fin false c q ∧ -149 ≤ q ∧ c * 2 ^ (q + 149).toNat = m * 2 ^ 146 := by
  have h := chkW_all ⟨m, hm⟩
  unfold chkW at h
  revert h
  cases FP.Core.val32 (Wf m) with
  | nan => intro h; cases h
  | inf s => intro h; cases h
  | fin s c q =>
    cases s with
    | true => intro h; cases h
    | false => intro h; exact ⟨c, q, rfl, of_decide_eq_true h⟩
theorem N_fin (hm : m < 600) : ∃ c q, FP.Core.val32 (FP.i2f (nI m)) = FP.Core.Datum.fin false c q ∧ -149 ≤ q ∧ c * 2 ^ (q + 149).toNat = m * 2 ^ 149 := by
  have h := chkN_all ⟨m, hm⟩
  unfold chkN at h
  revert h
  cases FP.Core.val32 (FP.i2f (nI m)) with
  | nan => intro h; cases h
  | inf s => intro h; cases h
  | fin s c q =>
    cases s with
    | true => intro h; cases h
    | false => intro h; exact ⟨c, q, rfl, of_decide_eq_true h⟩
theorem ar2 {X Y u v : Nat} {z : Int} (hz : (u : Int) - v = z) (h : X * 2 ^ u = Y * 2 ^ v) : X * 2 ^ z.toNat = Y * 2 ^ (-z).toNat := by
  rcases Int.le_total 0 z with g | g
  · rw [show (-z).toNat = 0 by omega, Nat.pow_zero, Nat.mul_one]
    rw [show u = z.toNat + v by omega, Nat.pow_add, ← Nat.mul_assoc] at h
    exact Nat.eq_of_mul_eq_mul_right (Nat.two_pow_pos _) h
  · rw [show z.toNat = 0 by omega, Nat.pow_zero, Nat.mul_one]
    rw [show v = (-z).toNat + u by omega, Nat.pow_add, ← Nat.mul_assoc] at h
    exact Nat.eq_of_mul_eq_mul_right (Nat.two_pow_pos _) h
theorem W_add (h : m + p < 2100) : FP.fadd (Wf m) (Wf p) = Wf (m + p) := by
  obtain ⟨c, q, h1, h2, h3⟩ := W_fin (show m < 2100 by omega)
  obtain ⟨d, r, g1, g2, g3⟩ := W_fin (show p < 2100 by omega)
  obtain ⟨c3, q3, w1, w2, w3⟩ := W_fin h
  have hfit := FP.Core.val32_fits (Wf (m + p))
  rw [w1] at hfit
  have e : FP.Core.val32 (FP.Core.fadd (Wf m) (Wf p)) = FP.Core.Datum.fin false c3 q3 := by
    rw [FP.Core.val32_fadd, h1, g1]
    have hu : FP.Core.sumUnits false c q false d r (min q r) = ((c * 2 ^ (q - min q r).toNat + d * 2 ^ (r - min q r).toNat : Nat) : Int) := rfl
    have hs : FP.Core.sumSign false false ((c * 2 ^ (q - min q r).toNat + d * 2 ^ (r - min q r).toNat : Nat) : Int) = false := by
      unfold FP.Core.sumSign
      split
      · rfl
      · exact decide_eq_false (by omega)
    have hx : FP.Core.exactSum (FP.Core.Datum.fin false c q) (FP.Core.Datum.fin false d r) = FP.Core.Datum.fin false (c * 2 ^ (q - min q r).toNat + d * 2 ^ (r - min q r).toNat) (min q r) := by
      show FP.Core.Datum.fin (FP.Core.sumSign false false (FP.Core.sumUnits false c q false d r (min q r))) (FP.Core.sumUnits false c q false d r (min q r)).natAbs (min q r) = _
      rw [hu, hs, Int.natAbs_natCast]
    rw [hx]
    show FP.Core.roundRatio FP.Core.b32 false _ 1 _ = _
    refine FP.Core.roundRatio_exact FP.Core.good_b32 (by decide) hfit ?_
    rw [Nat.mul_one, show (q3 - min q r).toNat = (-(min q r - q3)).toNat by rw [Int.neg_sub]]
    refine ar2 (u := (min q r + 149).toNat) (v := (q3 + 149).toNat) (by omega) ?_
    rw [Nat.add_mul, Nat.mul_assoc, Nat.mul_assoc, ← Nat.pow_add, ← Nat.pow_add, show (q - min q r).toNat + (min q r + 149).toNat = (q + 149).toNat by omega, show (r - min q r).toNat + (min q r + 149).toNat = (r + 149).toNat by omega, h3, g3, w3, Nat.add_mul]
  exact FP.Core.val32_inj (by rw [e]; exact FP.Core.Datum.noConfusion) (by rw [w1]; exact e)
/-- a taste by its two numbers -/
def Tf (m n : Nat) : UInt32 := FP.fdiv (Wf m) (FP.i2f (nI n))
theorem T_val (h1 : 1 ≤ n) (hn : n < 600) (hm : m < 2100) : FP.Core.val32 (Tf m n) = FP.Core.roundRatio FP.Core.b32 false m n (-3) := by
  obtain ⟨c, q, w1, w2, w3⟩ := W_fin hm
  obtain ⟨d, r, g1, g2, g3⟩ := N_fin hn
  have hd : 0 < d := Nat.pos_of_ne_zero (fun e => by
    rw [e, Nat.zero_mul] at g3
    have := Nat.mul_pos h1 (Nat.two_pow_pos 149)
    omega)
  show FP.Core.val32 (FP.Core.fdiv (Wf m) (FP.Core.i2f (nI n))) = _
  rw [FP.Core.val32_fdiv, w1, show FP.Core.val32 (FP.Core.i2f (nI n)) = FP.Core.Datum.fin false d r from g1]
  show (if d = 0 then _ else FP.Core.roundRatio FP.Core.b32 false c d (q - r)) = _
  rw [if_neg (by omega)]
  refine FP.Core.roundRatio_congr hd h1 ?_
  rw [show (-3 - (q - r)).toNat = (-((q - r) - (-3))).toNat by rw [Int.neg_sub]]
  refine ar2 (u := (q + 149).toNat + 149) (v := 146 + (r + 149).toNat) (by omega) ?_
  rw [Nat.pow_add, Nat.pow_add]
  calc c * n * (2 ^ (q + 149).toNat * 2 ^ 149) = (c * 2 ^ (q + 149).toNat) * (n * 2 ^ 149) := by ac_rfl
    _ = (m * 2 ^ 146) * (d * 2 ^ (r + 149).toNat) := by rw [w3, g3]
    _ = m * d * (2 ^ 146 * 2 ^ (r + 149).toNat) := by ac_rfl
theorem T_zero (h1 : 1 ≤ n) (hn : n < 600) : Tf 0 n = FP.fconst0 := by
  refine FP.Core.val32_inj (a := Tf 0 n) (b := FP.fconst0) ?_ ?_
  · rw [T_val h1 hn (by omega)]; exact FP.Core.roundRatio_ne_nan _ _ _ _ _
  · rw [T_val h1 hn (by omega)]
    exact FP.Core.val32_fconst0.symm
theorem T_bits (h1 : 1 ≤ n) (hn : n < 600) (h0 : 0 < m) (hm : m < 2100) (hmn : m ≤ 6 * (n - 1)) : 2 ^ 23 ≤ (Tf m n).toNat ∧ (Tf m n).toNat < 127 * 2 ^ 23 := by
  have hv := T_val h1 hn hm
  have hnn : FP.Core.val32 (Tf m n) ≠ FP.Core.Datum.nan := by rw [hv]; exact FP.Core.roundRatio_ne_nan _ _ _ _ _
  have hs := FP.Core.sgn_bits32 hnn
  rw [hv, FP.Core.sgn_roundRatio] at hs
  have hlt : ¬ 2 ^ 31 ≤ (Tf m n).toNat := of_decide_eq_false hs.symm
  have hmag : FP.Core.mag FP.Core.b32 (Tf m n).toNat = (Tf m n).toNat := by rw [FP.Core.mag_toNat32, Nat.mod_eq_of_lt (by omega)]
  have hi : FP.Core.inUnits m (-3) (-149) = m * 2 ^ 146 := rfl
  have hq : (FP.Core.Fmt.qmin FP.Core.b32 - (-149)).toNat = 0 := by rw [FP.Core.qmin_b32]; rfl
  have u1 : FP.Core.unitsOf FP.Core.b32 (127 * 2 ^ 23 - 1) = (2 ^ 24 - 1) * 2 ^ 125 := by decide +kernel
  have u2 : FP.Core.unitsOf FP.Core.b32 (2 ^ 23) = 2 ^ 23 := by decide +kernel
  constructor
  · have := FP.Core.mag_ge FP.Core.good_b32 (n := (Tf m n).toNat) (m := 2 ^ 23) (e0 := -149) hv h1 (by rw [FP.Core.qmin_b32]; omega) (by omega) (by rw [FP.Core.infBits_b32]; decide) (by
      rw [u2, hi, hq, Nat.pow_zero, Nat.mul_one]
      have z1 : 1 * 2 ^ 146 ≤ m * 2 ^ 146 := Nat.mul_le_mul_right _ h0
      have z2 : 2 ^ 23 * n ≤ 2 ^ 23 * 600 := Nat.mul_le_mul_left _ (by omega)
      have z3 : 2 ^ 23 * 600 ≤ 1 * 2 ^ 146 := by decide
      exact Nat.le_trans z2 (Nat.le_trans z3 z1))
    rw [hmag] at this
    exact this
  · have := FP.Core.mag_le FP.Core.good_b32 (n := (Tf m n).toNat) (m := 127 * 2 ^ 23 - 1) (e0 := -149) hv h1 (by rw [FP.Core.qmin_b32]; omega) (by omega) (by
      rw [u1, hi, hq, Nat.pow_zero, Nat.mul_one]
      calc m * 2 ^ 146 = (m * 2 ^ 21) * 2 ^ 125 := by rw [Nat.mul_assoc, ← Nat.pow_add]
        _ ≤ ((2 ^ 24 - 1) * n) * 2 ^ 125 := Nat.mul_le_mul_right _ (by omega)
        _ = (2 ^ 24 - 1) * 2 ^ 125 * n := by ac_rfl)
    rw [hmag] at this
    omega
/-! no NaN -/
theorem nn32_of (h : r.toNat % 2 ^ 31 ≤ 2139095040) : nn32 r = true := by
  unfold nn32
  refine decide_eq_true (UInt32.le_iff_toNat_le.mpr ?_)
  have h1 : (r &&& 0x7fffffff).toNat = r.toNat % 2 ^ 31 := by
    rw [UInt32.toNat_and, show (0x7fffffff : UInt32).toNat = 2 ^ 31 - 1 from rfl, Nat.and_two_pow_sub_one_eq_mod]
  rw [h1]
  exact h
theorem nn32_val (h : FP.Core.val32 r ≠ FP.Core.Datum.nan) : nn32 r = true := nn32_of ((FP.Core.ne_nan32 r).mp h)
theorem nn64_val {r : UInt64} (h : FP.Core.val64 r ≠ FP.Core.Datum.nan) : nn64 r = true := by
  have h0 := (FP.Core.ne_nan r).mp h
  unfold nn64
  refine decide_eq_true (UInt64.le_iff_toNat_le.mpr ?_)
  have h1 : (r &&& 0x7fffffffffffffff).toNat = r.toNat % 2 ^ 63 := by
    rw [UInt64.toNat_and, show (0x7fffffffffffffff : UInt64).toNat = 2 ^ 63 - 1 from rfl, Nat.and_two_pow_sub_one_eq_mod]
  rw [h1]
  exact h0
theorem W_nn (hm : m < 2100) : nn32 (Wf m) = true := nn32_val (by
  obtain ⟨c, q, h, _⟩ := W_fin hm
  rw [h]; exact FP.Core.Datum.noConfusion)
theorem i2f_nn {v : Int32} : nn32 (FP.i2f v) = true := nn32_val (by
  obtain ⟨s, c, q, h⟩ := FP.Core.i2f_fin v
  have h : FP.Core.val32 (FP.i2f v) = _ := h
  rw [h]; exact FP.Core.Datum.noConfusion)
theorem T_nn (h1 : 1 ≤ n) (hn : n < 600) (hm : m < 2100) : nn32 (Tf m n) = true := nn32_val (by rw [T_val h1 hn hm]; exact FP.Core.roundRatio_ne_nan _ _ _ _ _)
theorem mul_i (ha : a ≤ 99) (hk : k < 6) : FP.fmul (FP.i2f (nI a)) (FP.i2f (nI (k + 1))) = FP.i2f (nI (a * (k + 1))) := of_decide_eq_true (chkM_all ⟨a, by omega⟩ ⟨k, hk⟩)
theorem pos_cmp (h1 : 1 ≤ n) (hn : n < 600) : FP.fcmp (FP.i2f (nI n)) FP.fconst0 = some .gt := by
  have e1 : (nI n).toInt = n := nI_toInt (by omega)
  have f1 := FP.Core.i2f_int (a := nI n) (by rw [e1]; omega)
  have f0 : FP.Core.FInt 0 FP.fconst0 := by
    show FP.Core.Whole 0 (FP.Core.val32 FP.Core.fconst0)
    rw [FP.Core.val32_fconst0]
    show FP.Core.signed false (0 * _) = _
    rw [Nat.zero_mul, Int.zero_mul]; rfl
  have h := FP.Core.fcmp_int f1 f0
  rw [e1] at h
  have h2 : compare (n : Int) 0 = .gt := by
    rw [compare, instOrdInt]
    simp only [compareOfLessAndEq]
    rw [if_neg (by omega), if_neg (by omega)]
  rw [h2] at h
  exact h
def Ms (f : Nat → Nat) : Nat := f 0 * 1 + f 1 * 2 + f 2 * 3 + f 3 * 4 + f 4 * 5 + f 5 * 6
def Ss (f : Nat → Nat) : Nat := f 0 + f 1 + f 2 + f 3 + f 4 + f 5
def tv (S : SS) (i : Nat) : UInt32 := Tf (Ms (s_am S i)) (1 + Ss (s_am S i))
theorem ta_step (h : WF S) (hF : RF φ S) (hi : i < s_c S) (hk : k < 6) (hm : m + s_am S i k * (k + 1) < 2100) : f1_tasteOf_L7 (nI i) φ (n + 1) (Wf m) (nI s) (nI k) = f1_tasteOf_L7 (nI i) φ n (Wf (m + s_am S i k * (k + 1))) (nI (s + s_am S i k)) (nI (k + 1)) := by
  have ha := h.am hi hk
  rw [f1_tasteOf_L7, if_neg (by rw [nJ_le (by omega) (by omega)]; omega), f1_amountIn_e h hF hi hk, bnd, nI_add, nI_add, mul_i ha hk, i2f_nn, if_pos rfl]
  have e : FP.fdiv (FP.i2f (nI (s_am S i k * (k + 1)))) 1090519040 = Wf (s_am S i k * (k + 1)) := rfl
  rw [e, W_nn (by omega), if_pos rfl, W_add hm, W_nn hm, if_pos rfl]
theorem t9_step (h : WF S) (hN : RN N S) (hi : i < s_c S) (hk : k < 6) (hm : m + s_am S i k * (k + 1) < 2100) : f9_tasteOf_L7 (nI i) N (n + 1) (Wf m) (nI s) (nI k) = f9_tasteOf_L7 (nI i) N n (Wf (m + s_am S i k * (k + 1))) (nI (s + s_am S i k)) (nI (k + 1)) := by
  have ha := h.am hi hk
  rw [f9_tasteOf_L7, if_neg (by rw [nJ_le (by omega) (by omega)]; omega), f9_has_e h hN hi hk, bnd, bnd, nI_add, nI_add, nJ_mul]
  have e : FP.fdiv (FP.i2f (nI (s_am S i k * (k + 1)))) 1090519040 = Wf (s_am S i k * (k + 1)) := rfl
  rw [e, W_nn (by omega), if_pos rfl, W_add hm, W_nn hm, if_pos rfl]
theorem MS_le (h : WF S) (hi : i < s_c S) : Ms (s_am S i) < 2100 ∧ 1 + Ss (s_am S i) < 600 ∧ Ms (s_am S i) ≤ 6 * (1 + Ss (s_am S i) - 1) := by
  have a0 := h.am hi (show 0 < 6 by omega); have a1 := h.am hi (show 1 < 6 by omega); have a2 := h.am hi (show 2 < 6 by omega)
  have a3 := h.am hi (show 3 < 6 by omega); have a4 := h.am hi (show 4 < 6 by omega); have a5 := h.am hi (show 5 < 6 by omega)
  unfold Ms Ss
  omega
theorem W_0 : FP.fconst0 = Wf 0 := by decide +kernel
theorem f1_tasteOf_e (h : WF S) (hF : RF φ S) (hi : i < s_c S) : f1_tasteOf (nI i) φ = some (tv S i) := by
  have a0 := h.am hi (show 0 < 6 by omega); have a1 := h.am hi (show 1 < 6 by omega); have a2 := h.am hi (show 2 < 6 by omega)
  have a3 := h.am hi (show 3 < 6 by omega); have a4 := h.am hi (show 4 < 6 by omega); have a5 := h.am hi (show 5 < 6 by omega)
  obtain ⟨m1, m2, m3⟩ := MS_le h hi
  unfold f1_tasteOf
  rw [W_0, show fuel = 1993 + 1 + 1 + 1 + 1 + 1 + 1 + 1 from rfl, ta_step h hF hi (k := 0) (by omega) (by omega), ta_step h hF hi (k := 1) (by omega) (by omega), ta_step h hF hi (k := 2) (by omega) (by omega), ta_step h hF hi (k := 3) (by omega) (by omega), ta_step h hF hi (k := 4) (by omega) (by omega), ta_step h hF hi (k := 5) (by omega) (by omega), f1_tasteOf_L7, if_pos (by decide), nI_add]
  have e1 : 0 + s_am S i 0 * (0 + 1) + s_am S i 1 * (1 + 1) + s_am S i 2 * (2 + 1) + s_am S i 3 * (3 + 1) + s_am S i 4 * (4 + 1) + s_am S i 5 * (5 + 1) = Ms (s_am S i) := by unfold Ms; omega
  have e2 : 1 + (0 + s_am S i 0 + s_am S i 1 + s_am S i 2 + s_am S i 3 + s_am S i 4 + s_am S i 5) = 1 + Ss (s_am S i) := by unfold Ss; omega
  rw [e1, e2, pos_cmp (by omega) m2, if_neg (by decide)]
  show (if nn32 (Tf _ _) = true then some (Tf _ _) else none) = _
  rw [T_nn (by omega) m2 m1, if_pos rfl]
  rfl
theorem f9_tasteOf_e (h : WF S) (hN : RN N S) (hi : i < s_c S) : f9_tasteOf (nI i) N = some (tv S i) := by
  have a0 := h.am hi (show 0 < 6 by omega); have a1 := h.am hi (show 1 < 6 by omega); have a2 := h.am hi (show 2 < 6 by omega)
  have a3 := h.am hi (show 3 < 6 by omega); have a4 := h.am hi (show 4 < 6 by omega); have a5 := h.am hi (show 5 < 6 by omega)
  obtain ⟨m1, m2, m3⟩ := MS_le h hi
  unfold f9_tasteOf
  rw [W_0, show fuel = 1993 + 1 + 1 + 1 + 1 + 1 + 1 + 1 from rfl, t9_step h hN hi (k := 0) (by omega) (by omega), t9_step h hN hi (k := 1) (by omega) (by omega), t9_step h hN hi (k := 2) (by omega) (by omega), t9_step h hN hi (k := 3) (by omega) (by omega), t9_step h hN hi (k := 4) (by omega) (by omega), t9_step h hN hi (k := 5) (by omega) (by omega), f9_tasteOf_L7, if_pos (by decide), nI_add]
  have e1 : 0 + s_am S i 0 * (0 + 1) + s_am S i 1 * (1 + 1) + s_am S i 2 * (2 + 1) + s_am S i 3 * (3 + 1) + s_am S i 4 * (4 + 1) + s_am S i 5 * (5 + 1) = Ms (s_am S i) := by unfold Ms; omega
  have e2 : 1 + (0 + s_am S i 0 + s_am S i 1 + s_am S i 2 + s_am S i 3 + s_am S i 4 + s_am S i 5) = 1 + Ss (s_am S i) := by unfold Ss; omega
  rw [e1, e2]
  show (if nn32 (Tf _ _) = true then some (Tf _ _) else none) = _
  rw [T_nn (by omega) m2 m1, if_pos rfl]
  rfl
theorem tv_bits (h : WF S) (hi : i < s_c S) : tv S i = FP.fconst0 ∨ (2 ^ 23 ≤ (tv S i).toNat ∧ (tv S i).toNat < 127 * 2 ^ 23) := by
  obtain ⟨m1, m2, m3⟩ := MS_le h hi
  unfold tv
  by_cases e : Ms (s_am S i) = 0
  · left; rw [e]; exact T_zero (by omega) m2
  · right; exact T_bits (by omega) m2 (by omega) m1 m3
theorem tv_lt (h : WF S) (hi : i < s_c S) : (tv S i).toNat < 127 * 2 ^ 23 := by
  rcases tv_bits h hi with e | ⟨_, e⟩
  · rw [e]; decide
  · exact e
theorem tv_nan (h : WF S) (hi : i < s_c S) : FP.Core.val32 (tv S i) ≠ FP.Core.Datum.nan := (FP.Core.ne_nan32 _).mpr (by have := tv_lt h hi; omega)
end MF
/-! comparing floats, their bits, means -/
section MFC
variable {S : SS} {N : AI} {φ : Fo} {x1 x2 th : Int32} {i j k n m p a b s c d E T L : Nat} {x y r : UInt32} {cm : AI}
theorem fcmp_nat (hx : x.toNat < 2139095040) (hy : y.toNat < 2139095040) : FP.fcmp x y = some (compare (x.toNat : Int) (y.toNat : Int)) := by
  have kx : ∀ z : UInt32, z.toNat < 2139095040 → FP.Core.key FP.Core.b32 z.toNat = (z.toNat : Int) := by
    intro z hz
    unfold FP.Core.key
    rw [FP.Core.half_b32, decide_eq_false (by omega), FP.Core.mag_toNat32, Nat.mod_eq_of_lt (by omega)]
    rfl
  have nn : ∀ z : UInt32, z.toNat < 2139095040 → FP.Core.decode FP.Core.b32 z.toNat ≠ FP.Core.Datum.nan := fun z hz => (FP.Core.ne_nan32 z).mpr (by omega)
  have h := FP.Core.cmp_key FP.Core.good_b32 (FP.Core.lt_full32 x) (FP.Core.lt_full32 y) (nn x hx) (nn y hy)
  rw [kx x hx, kx y hy] at h
  exact h
theorem cmp_c (a b : Nat) : (a < b ∧ compare (a : Int) (b : Int) = .lt) ∨ (a = b ∧ compare (a : Int) (b : Int) = .eq) ∨ (b < a ∧ compare (a : Int) (b : Int) = .gt) := by
  rcases Nat.lt_trichotomy a b with h | h | h
  · left; refine ⟨h, ?_⟩
    rw [compare, instOrdInt]; simp only [compareOfLessAndEq]; rw [if_pos (by omega)]
  · right; left; refine ⟨h, ?_⟩
    rw [compare, instOrdInt]; simp only [compareOfLessAndEq]; rw [if_neg (by omega), if_pos (by omega)]
  · right; right; refine ⟨h, ?_⟩
    rw [compare, instOrdInt]; simp only [compareOfLessAndEq]; rw [if_neg (by omega), if_neg (by omega)]
theorem cv_le {op : ClassFile.CmpOp} : (Op.cmpValue (some (compare (a : Int) (b : Int))) op ≤ 0) = (a ≤ b) := by
  rcases cmp_c a b with ⟨h, e⟩ | ⟨h, e⟩ | ⟨h, e⟩ <;> rw [e]
  · exact propext ⟨fun _ => by omega, fun _ => by cases op <;> decide⟩
  · exact propext ⟨fun _ => by omega, fun _ => by cases op <;> decide⟩
  · exact propext ⟨fun q => absurd q (by cases op <;> decide), fun _ => by omega⟩
theorem cv_lt {op : ClassFile.CmpOp} : (Op.cmpValue (some (compare (a : Int) (b : Int))) op < 0) = (a < b) := by
  rcases cmp_c a b with ⟨h, e⟩ | ⟨h, e⟩ | ⟨h, e⟩ <;> rw [e]
  · exact propext ⟨fun _ => by omega, fun _ => by cases op <;> decide⟩
  · exact propext ⟨fun q => absurd q (by cases op <;> decide), fun _ => by omega⟩
  · exact propext ⟨fun q => absurd q (by cases op <;> decide), fun _ => by omega⟩
theorem cv_ge {op : ClassFile.CmpOp} : (0 ≤ Op.cmpValue (some (compare (a : Int) (b : Int))) op) = (b ≤ a) := by
  rcases cmp_c a b with ⟨h, e⟩ | ⟨h, e⟩ | ⟨h, e⟩ <;> rw [e]
  · exact propext ⟨fun q => absurd q (by cases op <;> decide), fun _ => by omega⟩
  · exact propext ⟨fun _ => by omega, fun _ => by cases op <;> decide⟩
  · exact propext ⟨fun _ => by omega, fun _ => by cases op <;> decide⟩
theorem cv_gt {op : ClassFile.CmpOp} : (0 < Op.cmpValue (some (compare (a : Int) (b : Int))) op) = (b < a) := by
  rcases cmp_c a b with ⟨h, e⟩ | ⟨h, e⟩ | ⟨h, e⟩ <;> rw [e]
  · exact propext ⟨fun q => absurd q (by cases op <;> decide), fun _ => by omega⟩
  · exact propext ⟨fun q => absurd q (by cases op <;> decide), fun _ => by omega⟩
  · exact propext ⟨fun _ => by omega, fun _ => by cases op <;> decide⟩
/-! the tastiest -/
def kp (S : SS) (t q : Nat) : Nat := (tv S (lin S t q)).toNat
/-- b is the farthest place of the greatest taste among those from lo to hi -/
def BST (S : SS) (t lo hi b : Nat) : Prop := lo ≤ b ∧ b ≤ hi ∧ (∀ q, lo ≤ q → q ≤ hi → kp S t q ≤ kp S t b) ∧ ∀ q, b < q → q ≤ hi → kp S t q < kp S t b
theorem BST_one {b b' : Nat} (h : BST S c 0 L b) (h' : BST S c 0 L b') : b = b' := by
  obtain ⟨-, h1, h2, h3⟩ := h
  obtain ⟨-, g1, g2, g3⟩ := h'
  rcases Nat.lt_trichotomy b b' with e | e | e
  · have z1 := h3 b' e g1; have z2 := g2 b (by omega) h1; omega
  · exact e
  · have z1 := g3 b e h1; have z2 := h2 b' (by omega) g1; omega
theorem kp_lt (h : WF S) (ht : c < s_c S) {q : Nat} : (tv S (lin S c q)).toNat < 2139095040 := by
  have := tv_lt h (lin_lt h ht q); omega
theorem best_L (h : WF S) (hF : RF φ S) (hj : j < s_b S) (hL : LEN S (s_tp S j) L) (hL2 : L ≤ s_tp S j) (hcm : ∀ q, q ≤ L → cm q = nI (lin S (s_tp S j) q)) : ∀ (p n b : Nat), p ≤ L → p < n → BST S (s_tp S j) p L b → ∃ b', f7_farthestBest_L12 cm (nI (L + 1)) φ n (nI (lin S (s_tp S j) b)) (tv S (lin S (s_tp S j) b)) (nI p - nI 1) = some (nI (lin S (s_tp S j) b')) ∧ BST S (s_tp S j) 0 L b' := by
  have hc := h.c24; have ht := h.tp hj
  intro p
  induction p with
  | zero =>
    intro n b h1 h2 h3
    obtain ⟨n, rfl⟩ : ∃ n', n = n' + 1 := ⟨n - 1, by omega⟩
    exact ⟨b, by rw [f7_farthestBest_L12, if_pos (show nI 0 - nI 1 < 0 by decide)], h3⟩
  | succ p ih =>
    intro n b h1 h2 h3
    obtain ⟨n, rfl⟩ : ∃ n', n = n' + 1 := ⟨n - 1, by omega⟩
    have e0 : nI (p + 1) - nI 1 = nI p := by rw [nJ_sub (by omega) (by omega)]; rfl
    have e1 : nI p + (-1) = nI p - nI 1 := (Int32.sub_eq_add_neg (nI p) (nI 1)).symm
    rw [e0, f7_farthestBest_L12, if_neg (by rw [nJ_lt0 (by omega)]; exact fun q => q), f7_at_e hcm (by omega) (by omega), bnd, f1_tasteOf_e h hF (lin_lt h ht p), bnd, fcmp_nat (kp_lt h ht) (kp_lt h ht), bnd, e1]
    obtain ⟨g1, g2, g3, g4⟩ := h3
    by_cases e : kp S (s_tp S j) p ≤ kp S (s_tp S j) b
    · rw [if_pos (by rw [cv_le]; exact e)]
      refine ih n b (by omega) (by omega) ⟨by omega, g2, fun q q1 q2 => ?_, g4⟩
      by_cases w : q = p
      · rw [w]; exact e
      · exact g3 q (by omega) q2
    · rw [if_neg (by rw [cv_le]; exact e)]
      refine ih n p (by omega) (by omega) ⟨Nat.le_refl _, by omega, fun q q1 q2 => ?_, fun q q1 q2 => ?_⟩
      · by_cases w : q = p
        · rw [w]; exact Nat.le_refl _
        · have := g3 q (by omega) q2; omega
      · have := g3 q (by omega) q2; omega
theorem best9_L (h : WF S) (hN : RN N S) (ht : c < s_c S) (hL : LEN S c L) (hL2 : L ≤ c) : ∀ (d k n b : Nat), k + d = L → d < n → BST S c 0 k b → ∃ b', f9_tastiest_L27 x1 N n (nI (lin S c b)) (nI (lin S c k)) th = some (nI (lin S c b'), th) ∧ BST S c 0 L b' := by
  have hc := h.c24
  intro d
  induction d with
  | zero =>
    intro k n b hk hn hb
    obtain ⟨n, rfl⟩ : ∃ n', n = n' + 1 := ⟨n - 1, by omega⟩
    have : k = L := by omega
    subst this
    exact ⟨b, by rw [f9_tastiest_L27, hL.1, if_pos (show nI 0 ≤ 0 by decide)], hb⟩
  | succ d ih =>
    intro k n b hk hn hb
    obtain ⟨n, rfl⟩ : ∃ n', n = n' + 1 := ⟨n - 1, by omega⟩
    have l1 := lin_lt h ht k; have l2 := lin_lt h ht (k + 1); have l3 := lin_lt h ht b
    have h0 := hL.2 k (by omega)
    obtain ⟨g1, g2, g3, g4⟩ := hb
    rw [f9_tastiest_L27, if_neg (by rw [nJ_le0 (by omega)]; omega), f9_fs_e h hN l1, bnd, lin_fs h ht hL (by omega), show oI (some (lin S c (k + 1))) = nI (lin S c (k + 1)) from rfl, f9_tasteOf_e h hN l2, bnd, f9_tasteOf_e h hN l3, bnd, fcmp_nat (kp_lt h ht) (kp_lt h ht), bnd, bnd, bnd]
    by_cases e : kp S c (k + 1) < kp S c b
    · rw [if_pos (by rw [cv_lt]; exact e)]
      refine ih (k + 1) n b (by omega) (by omega) ⟨g1, by omega, fun q q1 q2 => ?_, fun q q1 q2 => ?_⟩
      · by_cases w : q = k + 1
        · rw [w]; omega
        · exact g3 q q1 (by omega)
      · by_cases w : q = k + 1
        · rw [w]; exact e
        · exact g4 q q1 (by omega)
    · rw [if_neg (by rw [cv_lt]; exact e)]
      refine ih (k + 1) n (k + 1) (by omega) (by omega) ⟨by omega, by omega, fun q q1 q2 => ?_, fun q q1 q2 => absurd q1 (by omega)⟩
      by_cases w : q = k + 1
      · rw [w]; exact Nat.le_refl _
      · have := g3 q q1 (by omega); omega
theorem u32_0 (h : x.toNat = 0) : x = FP.fconst0 := UInt32.toNat_inj.mp (h.trans rfl)
theorem tastiest_q (h : WF S) (hF : RF φ S) (hN : RN N S) {x len : Int32} : ∃ k v cm' len' th' v9, f8_tastiest x φ cm len = some (k, v, cm', len') ∧ f9_tastiest x N th = some (v9, th') ∧ QA k v th' v9 := by
  have hc := h.c24
  unfold f8_tastiest f9_tastiest
  rw [need_b h hF, f9_isBranch_e h hN, bnd, bnd]
  cases hK : inb x (s_b S)
  · exact ⟨_, _, _, _, _, _, rfl, rfl, Or.inr ⟨rfl, rfl⟩⟩
  obtain ⟨j, hj, -, rfl⟩ := inb_ex hK
  have ht := h.tp hj
  obtain ⟨L, hL2, hL⟩ := len_ex h _ ht
  obtain ⟨cm', q1, q2⟩ := f7_follow_e (cm := cm) (len := len) h hF ht hL hL2
  obtain ⟨b, q3, q4⟩ := best_L h hF hj hL hL2 q2 L 1999 L (Nat.le_refl _) (by omega) ⟨Nat.le_refl _, Nat.le_refl _, fun q a1 a2 => by rw [show q = L by omega]; exact Nat.le_refl _, fun q a1 a2 => absurd a1 (by omega)⟩
  obtain ⟨b9, q5, q6⟩ := best9_L (x1 := nI j) (th := nI 0) h hN ht hL hL2 L 0 fuel 0 (by omega) (by unfold fuel; omega) ⟨Nat.le_refl _, Nat.le_refl _, fun q a1 a2 => by rw [show q = 0 by omega]; exact Nat.le_refl _, fun q a1 a2 => absurd a1 (by omega)⟩
  have hb : b = b9 := BST_one q4 q6
  subst hb
  have q7 : f7_farthestBest cm' (nI (L + 1)) φ = some (nI (lin S (s_tp S j) b)) := by
    unfold f7_farthestBest
    have e1 : nI L + (-1) = nI L - nI 1 := (Int32.sub_eq_add_neg (nI L) (nI 1)).symm
    rw [nJ_sub (by omega) (by omega), show L + 1 - 1 = L from rfl, show fuel = 1999 + 1 from rfl, f7_farthestBest_L12, if_neg (by rw [nJ_lt0 (by omega)]; exact fun q => q), f7_at_e q2 (by omega) (Nat.le_refl _), bnd, f1_tasteOf_e h hF (lin_lt h ht L), bnd, fcmp_nat (kp_lt h ht) (show FP.fconst0.toNat < 2139095040 by decide), bnd, e1]
    by_cases e : (tv S (lin S (s_tp S j) L)).toNat ≤ FP.fconst0.toNat
    · have e0 := u32_0 (Nat.le_zero.mp e)
      rw [if_pos (by rw [cv_le]; exact e), ← q3, e0, hL.1]
    · rw [if_neg (by rw [cv_le]; exact e)]
      exact q3
  have q5 : f9_tastiest_L27 (nI j) N fuel (nI (s_tp S j)) (nI (s_tp S j)) (nI 0) = some (nI (lin S (s_tp S j) b), nI 0) := q5
  rw [if_pos (show (if true = true then 0 else 1) = 0 from rfl), if_neg b2iT, f1_tipOf_e h hF hj, bnd, q1, bnd, f9_top_e h hN hj, bnd, q5]
  dsimp only
  rw [q7]
  exact ⟨_, _, _, _, _, _, rfl, rfl, Or.inl ⟨rfl, rfl, rfl⟩⟩
/-! bits -/
theorem tails32 : FP.Core.b32.tails = 2 ^ 23 := by decide
theorem exps32 : FP.Core.b32.exps = 256 := by decide
theorem v_N (h1 : 1 ≤ E) (h2 : E < 255) (hT : T < 2 ^ 23) (hx : x.toNat = E * 2 ^ 23 + T) : FP.Core.val32 x = FP.Core.Datum.fin false (2 ^ 23 + T) ((E : Int) - 150) := by
  have ha : x.toNat = FP.Core.assemble FP.Core.b32 false E T := by
    unfold FP.Core.assemble
    rw [tails32, exps32, hx, show (false.toNat * 256 + E) = E by simp]
  show FP.Core.decode FP.Core.b32 x.toNat = _
  rw [ha, FP.Core.decode_assemble _ _ _ _ (by rw [exps32]; omega) (by rw [tails32]; exact hT), exps32, tails32, FP.Core.qmin_b32, if_neg (by omega), if_neg (by omega)]
  rw [show (-149 + ((E : Int) - 1)) = (E : Int) - 150 by omega]
theorem v_two : FP.Core.val32 FP.Core.fconst2 = FP.Core.Datum.fin false (2 ^ 23) (-22) := by decide +kernel
theorem v_big : FP.Core.val32 (1258291200 : UInt32) = FP.Core.Datum.fin false (2 ^ 23) 0 := by decide +kernel
theorem dbl (h1 : 1 ≤ E) (h2 : E < 200) (hT : T < 2 ^ 23) (hx : x.toNat = E * 2 ^ 23 + T) : FP.fmul x FP.fconst2 = UInt32.ofNat ((E + 1) * 2 ^ 23 + T) := by
  have hv := v_N h1 (by omega) hT hx
  have hy : (UInt32.ofNat ((E + 1) * 2 ^ 23 + T)).toNat = (E + 1) * 2 ^ 23 + T := UInt32.toNat_ofNat_of_lt' (by show _ < 2 ^ 32; omega)
  have hv2 := v_N (E := E + 1) (T := T) (by omega) (by omega) hT hy
  have hfit := FP.Core.val32_fits (UInt32.ofNat ((E + 1) * 2 ^ 23 + T))
  rw [hv2] at hfit
  have e : FP.Core.val32 (FP.Core.fmul x FP.Core.fconst2) = FP.Core.Datum.fin false (2 ^ 23 + T) (((E + 1 : Nat) : Int) - 150) := by
    rw [FP.Core.val32_fmul, hv, v_two]
    show FP.Core.roundRatio FP.Core.b32 false ((2 ^ 23 + T) * 2 ^ 23) 1 ((E : Int) - 150 + -22) = _
    refine FP.Core.roundRatio_exact FP.Core.good_b32 (by decide) hfit ?_
    rw [show ((E : Int) - 150 + -22 - (((E + 1 : Nat) : Int) - 150)).toNat = 0 by omega, show ((((E + 1 : Nat) : Int) - 150) - ((E : Int) - 150 + -22)).toNat = 23 by omega]
    simp
  exact FP.Core.val32_inj (a := FP.fmul x FP.fconst2) (by show FP.Core.val32 (FP.Core.fmul x FP.Core.fconst2) ≠ _; rw [e]; exact FP.Core.Datum.noConfusion) (e.trans hv2.symm)
theorem frac (hT : T < 2 ^ 23) (hx : x.toNat = 127 * 2 ^ 23 + T) : nn32 (FP.fsub x FP.fconst1) = true ∧ nn32 (FP.fmul (FP.fsub x FP.fconst1) 1258291200) = true ∧ FP.f2i (FP.fmul (FP.fsub x FP.fconst1) 1258291200) = nI T := by
  have hv := v_N (E := 127) (by omega) (by omega) hT hx
  have hq : ((127 : Nat) : Int) - 150 = -23 := by omega
  rw [hq] at hv
  obtain ⟨c', q', w1, w2⟩ := FP.Core.round_exact FP.Core.good_b32 false (c := T) (q := -23) (Nat.lt_trans hT (by decide)) (by rw [FP.Core.qmin_b32]; omega) (by decide)
  have hfit := FP.Core.round_fits FP.Core.good_b32 (FP.Core.Datum.fin false T (-23))
  rw [w1] at hfit
  have hq' : -149 ≤ q' := by have := hfit.2.1; rw [FP.Core.qmin_b32] at this; exact this
  have e1 : FP.Core.val32 (FP.Core.fsub x FP.Core.fconst1) = FP.Core.Datum.fin false c' q' := by
    rw [FP.Core.val32_fsub, hv, FP.Core.val32_fconst1, ← w1]
    congr 1
    show FP.Core.Datum.fin (FP.Core.sumSign false (!false) (FP.Core.sumUnits false (2 ^ 23 + T) (-23) (!false) (2 ^ 23) (-23) (min (-23) (-23)))) (FP.Core.sumUnits false (2 ^ 23 + T) (-23) (!false) (2 ^ 23) (-23) (min (-23) (-23))).natAbs (min (-23) (-23)) = _
    have hu : FP.Core.sumUnits false (2 ^ 23 + T) (-23) (!false) (2 ^ 23) (-23) (min (-23) (-23)) = (T : Int) := by
      show (((2 ^ 23 + T) * 1 : Nat) : Int) + -(((2 ^ 23) * 1 : Nat) : Int) = T
      omega
    rw [hu, Int.natAbs_natCast]
    have hs : FP.Core.sumSign false (!false) (T : Int) = false := by
      unfold FP.Core.sumSign
      split
      · rfl
      · exact decide_eq_false (by omega)
    rw [hs]
    rfl
  have hW : FP.Core.Whole ((T : Nat) : Int) (FP.Core.Datum.fin false (c' * 2 ^ 23) (q' + 0)) := by
    show ((c' * 2 ^ 23 * 2 ^ (q' + 0).toNat : Nat) : Int) = (T : Int) * ((2 ^ (-(q' + 0)).toNat : Nat) : Int)
    have w3 : c' * 2 ^ (q' + 149).toNat = T * 2 ^ 126 := by
      unfold FP.Core.inUnits at w2
      rw [FP.Core.qmin_b32] at w2
      rw [show (q' + 149).toNat = (q' - -149).toNat by rw [Int.sub_neg]]
      exact w2
    have w4 : (c' * 2 ^ 23) * 2 ^ (q' + 149).toNat = T * 2 ^ 149 := by
      calc (c' * 2 ^ 23) * 2 ^ (q' + 149).toNat = (c' * 2 ^ (q' + 149).toNat) * 2 ^ 23 := by ac_rfl
        _ = (T * 2 ^ 126) * 2 ^ 23 := by rw [w3]
        _ = T * 2 ^ 149 := by rw [Nat.mul_assoc, ← Nat.pow_add]
    have w5 := ar2 (z := q' + 0) (by omega) w4
    rw [w5]
    exact Int.natCast_mul _ _
  have e2 : FP.Core.val32 (FP.Core.fmul (FP.Core.fsub x FP.Core.fconst1) (1258291200 : UInt32)) = FP.Core.round FP.Core.b32 (FP.Core.Datum.fin false (c' * 2 ^ 23) (q' + 0)) := by
    rw [FP.Core.val32_fmul, e1, v_big]
    rfl
  have hF : FP.Core.FInt (nI T).toInt (FP.Core.fmul (FP.Core.fsub x FP.Core.fconst1) (1258291200 : UInt32)) := by
    show FP.Core.Whole (nI T).toInt (FP.Core.val32 _)
    rw [e2, nI_toInt (by omega)]
    exact FP.Core.whole_round FP.Core.good_b32 FP.Core.wide_b32 (by rw [Int.natAbs_natCast]; exact Nat.le_of_lt (Nat.lt_trans hT (by decide))) hW
  refine ⟨nn32_val (by show FP.Core.val32 (FP.Core.fsub x FP.Core.fconst1) ≠ _; rw [e1]; exact FP.Core.Datum.noConfusion), nn32_val ?_, FP.Core.f2i_int hF⟩
  show FP.Core.val32 (FP.Core.fmul (FP.Core.fsub x FP.Core.fconst1) (1258291200 : UInt32)) ≠ _
  rw [e2]
  exact FP.Core.roundRatio_ne_nan _ _ _ _ _
theorem shl_all : ∀ e : Fin 127, nI e.1 <<< (nI 23 &&& 31) = nI (e.1 * 2 ^ 23) := by decide +kernel
theorem or_add (hT : T < 2 ^ 23) : (E * 2 ^ 23) ||| T = E * 2 ^ 23 + T := by
  rw [← Nat.shiftLeft_eq, Nat.shiftLeft_add_eq_or_of_lt hT]
theorem bits_L (h1 : 1 ≤ E) (h2 : E < 127) (hT : T < 2 ^ 23) {x0 : UInt32} : ∀ (d k n : Nat) (x : UInt32), E + k + d = 127 → d < n → x.toNat = (E + k) * 2 ^ 23 + T → f8_bitsOf_L15 x0 n x (nI (127 - k)) (nI k) = some (nI (E * 2 ^ 23 + T)) := by
  intro d
  induction d with
  | zero =>
    intro k n x hk hn hx
    obtain ⟨n, rfl⟩ : ∃ n', n = n' + 1 := ⟨n - 1, by omega⟩
    have hx2 : x.toNat = 127 * 2 ^ 23 + T := by rw [hx, show E + k = 127 by omega]
    obtain ⟨w1, w2, w3⟩ := frac hT hx2
    have hs := shl_all ⟨E, h2⟩
    have ex : (if nn32 (FP.fsub x FP.fconst1) = true then if nn32 (FP.fmul (FP.fsub x FP.fconst1) (1258291200 : UInt32)) = true then some (nI (127 - k) <<< (nI 23 &&& 31) ||| FP.f2i (FP.fmul (FP.fsub x FP.fconst1) (1258291200 : UInt32))) else none else none) = some (nI (E * 2 ^ 23 + T)) := by
      rw [w1, if_pos rfl, w2, if_pos rfl, w3, show 127 - k = E by omega, hs, nJ_or, or_add hT]
    rw [f8_bitsOf_L15, ex]
    by_cases e : 126 ≤ k
    · rw [if_pos (by rw [nJ_le (by omega) (by omega)]; exact e)]
    · rw [if_neg (by rw [nJ_le (by omega) (by omega)]; exact e), fcmp_nat (by omega) (show FP.fconst1.toNat < 2139095040 by decide), if_pos (by rw [cv_ge, hx2]; show 127 * 2 ^ 23 ≤ _; omega)]
  | succ d ih =>
    intro k n x hk hn hx
    obtain ⟨n, rfl⟩ : ∃ n', n = n' + 1 := ⟨n - 1, by omega⟩
    have hd := dbl (E := E + k) (T := T) (by omega) (by omega) hT hx
    have hy : (UInt32.ofNat ((E + k + 1) * 2 ^ 23 + T)).toNat = (E + k + 1) * 2 ^ 23 + T := UInt32.toNat_ofNat_of_lt' (by show _ < 2 ^ 32; omega)
    rw [f8_bitsOf_L15, if_neg (by rw [nJ_le (by omega) (by omega)]; omega), fcmp_nat (by omega) (show FP.fconst1.toNat < 2139095040 by decide), if_neg (by rw [cv_ge, hx]; show ¬ 127 * 2 ^ 23 ≤ _; omega), hd, nn32_of (by rw [hy]; omega), if_pos rfl, nJ_m1 (by omega) (by omega), nI_add, show 127 - k - 1 = 127 - (k + 1) by omega]
    exact ih (k + 1) n _ (by omega) (by omega) hy
theorem f8_bitsOf_e (h : WF S) (hi : i < s_c S) : f8_bitsOf (tv S i) = some (nI (tv S i).toNat) := by
  unfold f8_bitsOf
  rcases tv_bits h hi with e | ⟨e1, e2⟩
  · rw [e, if_neg (by decide +kernel)]; rfl
  · rw [fcmp_nat (by omega) (show FP.fconst0.toNat < 2139095040 by decide), if_pos (by rw [cv_gt]; show 0 < _; omega)]
    have hdm := Nat.div_add_mod (tv S i).toNat (2 ^ 23)
    have hE : 1 ≤ (tv S i).toNat / 2 ^ 23 := by omega
    have hE2 : (tv S i).toNat / 2 ^ 23 < 127 := by omega
    have hT : (tv S i).toNat % 2 ^ 23 < 2 ^ 23 := Nat.mod_lt _ (by decide)
    have := bits_L (x0 := tv S i) hE hE2 hT (127 - (tv S i).toNat / 2 ^ 23) 0 fuel (tv S i) (by omega) (by unfold fuel; omega) (by rw [Nat.add_zero, Nat.mul_comm]; exact hdm.symm)
    rw [show (tv S i).toNat / 2 ^ 23 * 2 ^ 23 + (tv S i).toNat % 2 ^ 23 = (tv S i).toNat by rw [Nat.mul_comm]; exact hdm] at this
    exact this
theorem toI32 : x.toInt32 = nI x.toNat := Int32.toBitVec_inj.mp (by
  show x.toBitVec = BitVec.ofNat 32 x.toNat
  exact BitVec.eq_of_toNat_eq (by rw [BitVec.toNat_ofNat, Nat.mod_eq_of_lt (show x.toNat < 2 ^ 32 from x.toNat_lt)]; rfl))
theorem f9_bits_e (h : WF S) (hi : i < s_c S) : fJxf58ca_floatToIntBits_5c35a (tv S i) = some (nI (tv S i).toNat) := by
  unfold fJxf58ca_floatToIntBits_5c35a fJxf58ca_isNaN_12338
  rw [show FP.fcmp (tv S i) (tv S i) = some .eq from FP.Core.fcmp_self (tv_nan h hi), if_pos (by decide), bnd, if_pos b2iF, toI32]
/-! doubles -/
def PN (z : UInt64) : Prop := FP.Core.val64 z ≠ FP.Core.Datum.nan ∧ FP.Core.sgn (FP.Core.val64 z) = false
theorem f2d_c (hn : FP.Core.val32 x ≠ FP.Core.Datum.nan) : FP.f2d x = FP.Core.f2d x := by
  unfold FP.f2d
  rw [(FP.Core.notNaN_iff32 x).mpr hn]
  rfl
theorem f2d_nn (hn : FP.Core.val32 x ≠ FP.Core.Datum.nan) : FP.Core.val64 (FP.f2d x) ≠ FP.Core.Datum.nan := by
  rw [f2d_c hn, FP.Core.val64_f2d]
  exact fun q => hn (FP.Core.round_nan.mp q)
theorem f2d_pn (h : WF S) (hi : i < s_c S) : PN (FP.f2d (tv S i)) := by
  have hn := tv_nan h hi
  refine ⟨f2d_nn hn, ?_⟩
  have hs := FP.Core.sgn_bits32 hn
  rw [decide_eq_false (by have := tv_lt h hi; omega)] at hs
  rw [f2d_c hn, FP.Core.val64_f2d]
  revert hs
  cases FP.Core.val32 (tv S i) with
  | nan => intro _; rfl
  | inf s => intro hs; exact hs
  | fin s c q => intro hs; exact (FP.Core.sgn_roundRatio _ _ _ _ _).trans hs
theorem dadd_pn {a b : UInt64} (ha : PN a) (hb : PN b) : PN (FP.dadd a b) := by
  unfold PN at *
  rw [show FP.Core.val64 (FP.dadd a b) = _ from FP.Core.val64_dadd a b]
  obtain ⟨a1, a2⟩ := ha
  obtain ⟨b1, b2⟩ := hb
  revert a1 a2 b1 b2
  cases FP.Core.val64 a with
  | nan => intro a1; exact absurd rfl a1
  | inf s =>
    cases FP.Core.val64 b with
    | nan => intro _ _ b1; exact absurd rfl b1
    | inf t =>
      intro _ a2 _ b2
      have a2 : s = false := a2
      have b2 : t = false := b2
      subst a2; subst b2
      exact ⟨FP.Core.Datum.noConfusion, rfl⟩
    | fin t d r => intro _ a2 _ _; exact ⟨FP.Core.Datum.noConfusion, a2⟩
  | fin s c q =>
    cases FP.Core.val64 b with
    | nan => intro _ _ b1; exact absurd rfl b1
    | inf t => intro _ _ _ b2; exact ⟨FP.Core.Datum.noConfusion, b2⟩
    | fin t d r =>
      intro _ a2 _ b2
      have a2 : s = false := a2
      have b2 : t = false := b2
      subst a2; subst b2
      have hs : FP.Core.sumSign false false (FP.Core.sumUnits false c q false d r (min q r)) = false := by
        unfold FP.Core.sumSign
        split
        · rfl
        · refine decide_eq_false ?_
          show ¬ ((FP.Core.inUnits c q (min q r) : Nat) : Int) + ((FP.Core.inUnits d r (min q r) : Nat) : Int) < 0
          omega
      refine ⟨FP.Core.roundRatio_ne_nan _ _ _ _ _, ?_⟩
      exact (FP.Core.sgn_roundRatio _ _ _ _ _).trans hs
theorem ddiv_nn {a : UInt64} (ha : PN a) (h1 : 1 ≤ n) (hn : n < 600) : FP.Core.val64 (FP.ddiv a (FP.i2d (nI n))) ≠ FP.Core.Datum.nan := by
  rw [show FP.Core.val64 (FP.ddiv a (FP.i2d (nI n))) = _ from FP.Core.val64_ddiv a (FP.Core.i2d (nI n))]
  have hne : nI n ≠ 0 := by rw [Ne, nJ_eq0 (by omega)]; omega
  obtain ⟨s, c, q, hd⟩ := FP.Core.i2d_fin (nI n)
  have hc : c ≠ 0 := fun e => FP.Core.i2d_ne_zero hne ((FP.Core.zero_bits2 _).mp ⟨s, q, by rw [hd, e]⟩)
  rw [hd]
  obtain ⟨a1, a2⟩ := ha
  revert a1
  cases FP.Core.val64 a with
  | nan => intro a1; exact absurd rfl a1
  | inf t => intro _; exact FP.Core.Datum.noConfusion
  | fin t d r =>
    intro _
    show (if c = 0 then _ else FP.Core.roundRatio _ _ _ _ _) ≠ _
    rw [if_neg hc]
    exact FP.Core.roundRatio_ne_nan _ _ _ _ _
theorem fdiv_nn {v : Int32} (h1 : 1 ≤ n) (hn : n < 600) : FP.Core.val32 (FP.fdiv (FP.i2f v) (FP.i2f (nI n))) ≠ FP.Core.Datum.nan := by
  rw [show FP.Core.val32 (FP.fdiv (FP.i2f v) (FP.i2f (nI n))) = _ from FP.Core.val32_fdiv (FP.Core.i2f v) (FP.Core.i2f (nI n))]
  have hne : nI n ≠ 0 := by rw [Ne, nJ_eq0 (by omega)]; omega
  obtain ⟨s, c, q, hd⟩ := FP.Core.i2f_fin (nI n)
  have hc : c ≠ 0 := fun e => FP.Core.i2f_ne_zero hne ((FP.Core.zero_bits232 _).mp ⟨s, q, by rw [hd, e]⟩)
  obtain ⟨t, d, r, hv⟩ := FP.Core.i2f_fin v
  rw [hd, hv]
  show (if c = 0 then _ else FP.Core.roundRatio _ _ _ _ _) ≠ _
  rw [if_neg hc]
  exact FP.Core.roundRatio_ne_nan _ _ _ _ _
theorem mean_L (h : WF S) (hF : RF φ S) (hN : RN N S) : ∀ (d k n n9 : Nat) (X : UInt64), k + d = s_b S → d < n → d < n9 → PN X → ∃ v, f8_meanTaste_L20 φ n (nI (s_b S)) X (nI k) = some v ∧ f9_meanTaste_L9 N n9 X (nI k) th = some (v, th) ∧ FP.Core.val64 v ≠ FP.Core.Datum.nan := by
  have h5 := h.b5; have hb1 := h.b1
  intro d
  induction d with
  | zero =>
    intro k n n9 X hk hn hn9 hX
    obtain ⟨n, rfl⟩ : ∃ n', n = n' + 1 := ⟨n - 1, by omega⟩
    obtain ⟨n9, rfl⟩ : ∃ n', n9 = n' + 1 := ⟨n9 - 1, by omega⟩
    have : k = s_b S := by omega
    subst this
    have hle : nI (s_b S) ≤ nI (s_b S) := by rw [nJ_le (by omega) (by omega)]; omega
    have hnn := ddiv_nn hX hb1 (by omega)
    rw [f8_meanTaste_L20, f9_meanTaste_L9, show (nI 1).toNatClampNeg = 1 from rfl, hN.1.2.1, if_pos hle, if_pos hle, nn64_val hnn, if_pos rfl, if_pos rfl]
    exact ⟨_, rfl, rfl, hnn⟩
  | succ d ih =>
    intro k n n9 X hk hn hn9 hX
    obtain ⟨n, rfl⟩ : ∃ n', n = n' + 1 := ⟨n - 1, by omega⟩
    obtain ⟨n9, rfl⟩ : ∃ n', n9 = n' + 1 := ⟨n9 - 1, by omega⟩
    have hle : ¬ nI (s_b S) ≤ nI k := by rw [nJ_le (by omega) (by omega)]; omega
    have hk2 : k < s_b S := by omega
    have ht := h.tp hk2
    have p1 := f2d_pn h ht
    have p2 := dadd_pn hX p1
    rw [f8_meanTaste_L20, f9_meanTaste_L9, show (nI 1).toNatClampNeg = 1 from rfl, hN.1.2.1, if_neg hle, if_neg hle, f1_tipOf_e h hF hk2, f9_top_e h hN hk2, bnd, bnd, f1_tasteOf_e h hF ht, f9_tasteOf_e h hN ht, bnd, bnd, nn64_val p1.1, if_pos rfl, if_pos rfl, nn64_val p2.1, if_pos rfl, if_pos rfl, nI_add]
    exact ih (k + 1) n n9 _ (by omega) (by omega) (by omega) p2
theorem dc_self {v : UInt64} (h : FP.Core.val64 v ≠ FP.Core.Datum.nan) : Op.cmpValue (FP.dcmp v v) ClassFile.CmpOp.l = 0 := by
  rw [show FP.dcmp v v = some .eq from FP.Core.dcmp_self h]; rfl
theorem vf_s (f : Nat → UInt64) (k : Nat) (x : UInt64) : vf_upd f k x k = x := if_pos rfl
theorem taste_q (h : WF S) (hF : RF φ S) (hN : RN N S) {x : Int32} : (∃ v, f8_taste x φ = some (0, v) ∧ f9_taste x N th = some (v, nI 0) ∧ FP.Core.val32 v ≠ FP.Core.Datum.nan) ∨ (∃ v v9, f8_taste x φ = some (1, v) ∧ f9_taste x N th = some (v9, nI 1)) := by
  unfold f8_taste f9_taste
  rw [need_c h hF, f9_isCommit_e h hN, bnd, bnd]
  cases hK : inb x (s_c S)
  · exact Or.inr ⟨_, _, rfl, rfl⟩
  obtain ⟨i, hi, -, rfl⟩ := inb_ex hK
  rw [if_pos (show (if true = true then 0 else 1) = 0 from rfl), if_neg b2iT, f1_tasteOf_e h hF hi, f9_tasteOf_e h hN hi]
  exact Or.inl ⟨_, rfl, rfl, tv_nan h hi⟩
theorem bits_q (h : WF S) (hF : RF φ S) (hN : RN N S) {x : Int32} : ∃ k v th' v9, f8_tasteBits x φ = some (k, v) ∧ f9_tasteBits x N th = some (v9, th') ∧ QA k v th' v9 := by
  unfold f8_tasteBits f9_tasteBits
  rw [need_c h hF, f9_isCommit_e h hN, bnd, bnd]
  cases hK : inb x (s_c S)
  · exact ⟨_, _, _, _, rfl, rfl, Or.inr ⟨rfl, rfl⟩⟩
  obtain ⟨i, hi, -, rfl⟩ := inb_ex hK
  rw [if_pos (show (if true = true then 0 else 1) = 0 from rfl), if_neg b2iT, f1_tasteOf_e h hF hi, f9_tasteOf_e h hN hi, bnd, bnd, f8_bitsOf_e h hi, f9_bits_e h hi]
  exact ⟨_, _, _, _, rfl, rfl, Or.inl ⟨rfl, rfl, rfl⟩⟩
end MFC
