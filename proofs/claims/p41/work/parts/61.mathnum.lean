/-! numbers -/
theorem nJ_sub {a b : Nat} (h : b ≤ a) (ha : a < 2 ^ 31) : nI a - nI b = nI (a - b) := by
  apply Int32.toInt_inj.mp
  rw [Int32.toInt_sub, nI_toInt ha, nI_toInt (by omega), nI_toInt (by omega), Int.bmod_eq_of_le] <;> omega
theorem nJ_m1 {a : Nat} (h : 1 ≤ a) (ha : a < 2 ^ 31) : nI a + (-1) = nI (a - 1) := by
  have h2 : nI a + (-1) = nI a - nI 1 := by rw [Int32.sub_eq_add_neg]; rfl
  rw [h2, nJ_sub h ha]
theorem nJ_mul (a b : Nat) : nI a * nI b = nI (a * b) := (Int32.ofNat_mul a b).symm
theorem nJ_div {a b : Nat} (ha : a < 2 ^ 31) (hb : b < 2 ^ 31) : nI a / nI b = nI (a / b) := by
  have hd : a / b ≤ a := Nat.div_le_self a b
  have h : (a : Int).tdiv b = ((a / b : Nat) : Int) := by rw [Int.tdiv_eq_ediv_of_nonneg (by omega)]; rfl
  apply Int32.toInt_inj.mp
  rw [Int32.toInt_div, nI_toInt ha, nI_toInt hb, nI_toInt (by omega), h]
  generalize a / b = q at hd ⊢
  rw [Int.bmod_eq_of_le] <;> omega
theorem nJ_le {a b : Nat} (ha : a < 2 ^ 31) (hb : b < 2 ^ 31) : (nI a ≤ nI b) = (a ≤ b) := propext (nI_leI ha hb)
theorem nJ_lt {a b : Nat} (ha : a < 2 ^ 31) (hb : b < 2 ^ 31) : (nI a < nI b) = (a < b) := propext (nI_ltI ha hb)
theorem nJ_eq {a b : Nat} (ha : a < 2 ^ 31) (hb : b < 2 ^ 31) : (nI a = nI b) = (a = b) := propext (nI_eq ha hb)
theorem nJ_lt0 {a : Nat} (ha : a < 2 ^ 31) : (nI a < 0) = False := eq_false (fun h => absurd ((nI_ltI (b := 0) ha (by decide)).mp h) (by omega))
theorem nJ_le0 {a : Nat} (ha : a < 2 ^ 31) : (nI a ≤ 0) = (a = 0) := propext ⟨fun h => by have := (nI_leI (b := 0) ha (by decide)).mp h; omega, fun h => (nI_leI (b := 0) ha (by decide)).mpr (by omega)⟩
theorem nJ_0le {a : Nat} (ha : a < 2 ^ 31) : (0 ≤ nI a) = True := eq_true ((nI_leI (a := 0) (by decide) ha).mpr (by omega))
theorem nJ_eq0 {a : Nat} (ha : a < 2 ^ 31) : (nI a = 0) = (a = 0) := propext (nI_eq (b := 0) ha (by decide))
theorem nJ_eqm {a : Nat} (ha : a < 2 ^ 31) : (nI a = (-1 : Int32)) = False := eq_false (fun h => by
  have h2 := congrArg Int32.toInt h
  rw [nI_toInt ha] at h2
  have h3 : ((-1 : Int32)).toInt = -1 := rfl
  omega)
theorem nJ_meq {a : Nat} (ha : a < 2 ^ 31) : ((-1 : Int32) = nI a) = False := eq_false (fun h => by rw [← nJ_eqm ha]; exact h.symm)
theorem nJ_nat {a : Nat} (ha : a < 2 ^ 31) : (nI a).toNatClampNeg = a := by
  have h := nI_toInt ha
  have h2 : (nI a).toNatClampNeg = (nI a).toInt.toNat := rfl
  rw [h2, h]; omega
theorem nJ_inb {k n : Nat} (hk : k < 2 ^ 31) : inb (nI k) n = decide (k < n) := by
  unfold inb; rw [nI_toInt hk]; exact decide_eq_decide.mpr ⟨fun h => by omega, fun h => by omega⟩
theorem inb_ex {x : Int32} {n : Nat} (h : inb x n = true) : ∃ j, j < n ∧ j < 2 ^ 31 ∧ x = nI j := by
  have h := of_decide_eq_true h
  have h2 := Int32.toInt_lt x
  refine ⟨x.toInt.toNat, by omega, by omega, ?_⟩
  apply Int32.toInt_inj.mp
  rw [nI_toInt (by omega)]; omega
theorem inb_lo {x : Int32} {n : Nat} (h : x < 0) : inb x n = false := by
  have := Int32.lt_iff_toInt_lt.mp h
  have h0 : (0 : Int32).toInt = 0 := rfl
  exact decide_eq_false (by omega)
theorem inb_hi {x : Int32} {n m : Nat} (hm : m < 2 ^ 31) (h : nI m ≤ x) (hn : n ≤ m) : inb x n = false := by
  have := Int32.le_iff_toInt_le.mp h
  rw [nI_toInt hm] at this
  exact decide_eq_false (by omega)
theorem inb_no {x : Int32} {n : Nat} (h : ¬ x < 0) (h2 : ¬ nI n ≤ x) (hn : n < 2 ^ 31) : inb x n = true := by
  have a : ¬ x.toInt < 0 := fun q => h (Int32.lt_iff_toInt_lt.mpr q)
  have b : ¬ (n : Int) ≤ x.toInt := fun q => h2 (Int32.le_iff_toInt_le.mpr (by rw [nI_toInt hn]; exact q))
  exact decide_eq_true (by omega)
theorem b2i_0 (b : Bool) : (b2i b = 0) = (b = false) := by cases b <;> simp [b2i]
theorem nJ_or (a b : Nat) : nI a ||| nI b = nI (a ||| b) := Int32.toBitVec_inj.mp (by simp [nI, BitVec.ofNat_or])
theorem nJ_and (a b : Nat) : nI a &&& nI b = nI (a &&& b) := Int32.toBitVec_inj.mp (by simp [nI, BitVec.ofNat_and])
theorem nJ_and31 {i : Nat} (h : i < 32) : nI i &&& 31 = nI i := by
  have h2 : nI i &&& 31 = nI (i &&& 31) := nJ_and i 31
  rw [h2, Nat.and_two_pow_sub_one_eq_mod i 5, Nat.mod_eq_of_lt h]
theorem nJ_shl {i : Nat} (h : i < 24) : nI 1 <<< (nI i &&& 31) = nI (2 ^ i) := by
  have : ∀ i : Fin 24, nI 1 <<< (nI i.1 &&& 31) = nI (2 ^ i.1) := by decide +kernel
  exact this ⟨i, h⟩
theorem nJ_shr {a i : Nat} (ha : a < 2 ^ 31) (h : i < 24) : nI a >>> (nI i &&& 31) = nI (a >>> i) := by
  rw [nJ_and31 (by omega)]
  apply Int32.toInt_inj.mp
  have hi : i < 2 ^ 31 := by omega
  have hs : a >>> i ≤ a := Nat.shiftRight_le a i
  rw [nI_toInt (by omega)]
  have h1 : (nI a >>> nI i).toBitVec = (nI a).toBitVec.sshiftRight' ((nI i).toBitVec.smod 32) := rfl
  have h2 : ((nI i).toBitVec.smod 32) = BitVec.ofNat 32 i := by
    have : ∀ i : Fin 24, ((nI i.1).toBitVec.smod 32) = BitVec.ofNat 32 i.1 := by decide +kernel
    exact this ⟨i, h⟩
  have h3 : (nI a >>> nI i).toInt = (nI a >>> nI i).toBitVec.toInt := rfl
  rw [h3, h1, h2]
  have h4 : (nI a).toBitVec.toInt = a := nI_toInt ha
  simp only [BitVec.sshiftRight', BitVec.sshiftRight, h4, BitVec.toNat_ofNat, Nat.mod_eq_of_lt (show i < 2 ^ 32 by omega)]
  rw [BitVec.toInt_ofInt, show (a : Int) >>> i = ((a >>> i : Nat) : Int) from rfl]
  generalize a >>> i = q at hs ⊢
  rw [Int.bmod_eq_of_le] <;> omega
theorem nJ_bit {a i : Nat} (ha : a < 2 ^ 31) (h : i < 24) : (nI a >>> (nI i &&& 31)) &&& nI 1 = nI (if a.testBit i then 1 else 0) := by
  rw [nJ_shr ha h, nJ_and]
  congr 1
  rw [Nat.and_one_is_mod, Nat.testBit_eq_decide_div_mod_eq, Nat.shiftRight_eq_div_pow]
  have := Nat.mod_two_eq_zero_or_one (a / 2 ^ i)
  by_cases q : a / 2 ^ i % 2 = 1
  · simp [q]
  · simp [q]; omega
/-! the forest in numbers: c commits, b branches, purpose; kinds, firsts, seconds, families as bits, depths, amounts, tips, bundle -/
abbrev SS : Type := (Nat × Nat × Int32) × (Nat → Nat) × (Nat → Option Nat) × (Nat → Option Nat) × (Nat → Nat) × (Nat → Nat) × (Nat → Nat → Nat) × (Nat → Nat) × (Nat → Option Nat)
def s_c (S : SS) : Nat := S.1.1
def s_b (S : SS) : Nat := S.1.2.1
def s_pu (S : SS) : Int32 := S.1.2.2
def s_kd (S : SS) : Nat → Nat := S.2.1
def s_fs (S : SS) : Nat → Option Nat := S.2.2.1
def s_sc (S : SS) : Nat → Option Nat := S.2.2.2.1
def s_fa (S : SS) : Nat → Nat := S.2.2.2.2.1
def s_dp (S : SS) : Nat → Nat := S.2.2.2.2.2.1
def s_am (S : SS) : Nat → Nat → Nat := S.2.2.2.2.2.2.1
def s_tp (S : SS) : Nat → Nat := S.2.2.2.2.2.2.2.1
def s_bu (S : SS) : Nat → Option Nat := S.2.2.2.2.2.2.2.2
def oI : Option Nat → Int32
  | none => -1
  | some j => nI j
def oP : Option Nat → Int32
  | none => nI 0
  | some j => nI (j + 1)
def oF (f : Nat → Nat) : Option Nat → Nat
  | none => 0
  | some j => f j
def oD (f : Nat → Nat) : Option Nat → Nat
  | none => 0
  | some j => f j + 1
def df1 (a b : Nat) : Nat := if a = b then 0 else 1
def unl (f g : Nat → Nat) : Nat := df1 (f 0) (g 0) + df1 (f 1) (g 1) + df1 (f 2) (g 2) + df1 (f 3) (g 3) + df1 (f 4) (g 4) + df1 (f 5) (g 5)
def WF1 (S : SS) : Prop := 1 ≤ s_c S ∧ s_c S ≤ 24 ∧ 1 ≤ s_b S ∧ s_b S ≤ 5 ∧ (s_pu S = -1 ∨ ∃ k, k < 3 ∧ s_pu S = nI k) ∧ s_fs S 0 = none ∧ s_sc S 0 = none ∧ s_kd S 0 = 0
def WF2 (S : SS) : Prop := ∀ i, i < s_c S → s_kd S i < 3 ∧ (0 < i → ∃ j, s_fs S i = some j ∧ j < i ∧ (s_kd S i = 0 → unl (s_am S i) (s_am S j) = 1)) ∧ (∀ j, s_sc S i = some j → j < i) ∧ s_fa S i = 2 ^ i ||| (oF (s_fa S) (s_fs S i) ||| oF (s_fa S) (s_sc S i)) ∧ s_dp S i = max (oD (s_dp S) (s_fs S i)) (oD (s_dp S) (s_sc S i)) ∧ ∀ k, k < 6 → s_am S i k ≤ 99
def WF3 (S : SS) : Prop := (∀ j, j < s_b S → s_tp S j < s_c S) ∧ ∀ p i, p < 4 → s_bu S p = some i → i < s_c S
def WF (S : SS) : Prop := WF1 S ∧ WF2 S ∧ WF3 S
def RN (N : AI) (S : SS) : Prop := (N 0 = nI (s_c S) ∧ N 1 = nI (s_b S) ∧ N 2 = s_pu S) ∧ (∀ p, p < 4 → N (3 + p) = oP (s_bu S p)) ∧ (∀ j, j < s_b S → N (7 + j) = nI (s_tp S j)) ∧ ∀ i, i < s_c S → N (12 + 9 * i) = nI (s_kd S i) ∧ N (12 + 9 * i + 1) = oI (s_fs S i) ∧ N (12 + 9 * i + 2) = oI (s_sc S i) ∧ ∀ k, k < 6 → N (12 + 9 * i + 3 + k) = nI (s_am S i k)
def RF (φ : Fo) (S : SS) : Prop := (fo_commits φ = nI (s_c S) ∧ fo_branches φ = nI (s_b S) ∧ fo_purpose φ = s_pu S) ∧ (∀ p, p < 4 → fo_bundled φ p = oI (s_bu S p)) ∧ (∀ j, j < s_b S → fo_tips φ j = nI (s_tp S j)) ∧ ∀ i, i < s_c S → fo_kinds φ i = nI (s_kd S i) ∧ fo_firsts φ i = oI (s_fs S i) ∧ fo_seconds φ i = oI (s_sc S i) ∧ fo_families φ i = nI (s_fa S i) ∧ fo_depths φ i = nI (s_dp S i) ∧ ∀ k, k < 6 → fo_amounts φ (i * 6 + k) = nI (s_am S i k)
section MA
variable {S : SS} {N : AI} {φ : Fo} {x : Int32} {i j k : Nat}
theorem WF.c1 (h : WF S) : 1 ≤ s_c S := h.1.1
theorem WF.c24 (h : WF S) : s_c S ≤ 24 := h.1.2.1
theorem WF.b1 (h : WF S) : 1 ≤ s_b S := h.1.2.2.1
theorem WF.b5 (h : WF S) : s_b S ≤ 5 := h.1.2.2.2.1
theorem WF.am (h : WF S) (hi : i < s_c S) (hk : k < 6) : s_am S i k ≤ 99 := (h.2.1 i hi).2.2.2.2.2 k hk
theorem WF.tp (h : WF S) (hj : j < s_b S) : s_tp S j < s_c S := h.2.2.1 j hj
theorem WF.kd (h : WF S) (hi : i < s_c S) : s_kd S i < 3 := (h.2.1 i hi).1
theorem WF.fs (h : WF S) (hi : i < s_c S) (h0 : 0 < i) : ∃ j, s_fs S i = some j ∧ j < i := by obtain ⟨j, a, b, -⟩ := (h.2.1 i hi).2.1 h0; exact ⟨j, a, b⟩
theorem WF.sc (h : WF S) (hi : i < s_c S) (hj : s_sc S i = some j) : j < i := (h.2.1 i hi).2.2.1 j hj
theorem WF.fa (h : WF S) (hi : i < s_c S) : s_fa S i = 2 ^ i ||| (oF (s_fa S) (s_fs S i) ||| oF (s_fa S) (s_sc S i)) := (h.2.1 i hi).2.2.2.1
theorem WF.falt (h : WF S) : ∀ i, i < s_c S → s_fa S i < 2 ^ (i + 1) := by
  intro i
  induction i using Nat.strongRecOn with
  | _ i ih =>
    intro hi
    rw [h.fa hi]
    have hp : ∀ j, j < i → s_fa S j < 2 ^ (i + 1) := fun j hj => Nat.lt_of_lt_of_le (ih j hj (by omega)) (Nat.pow_le_pow_right (by omega) (by omega))
    refine Nat.or_lt_two_pow (Nat.pow_lt_pow_right (by omega) (by omega)) (Nat.or_lt_two_pow ?_ ?_)
    · cases e : s_fs S i with
      | none => exact Nat.two_pow_pos _
      | some j =>
        by_cases h0 : 0 < i
        · obtain ⟨j', a, b⟩ := h.fs hi h0
          rw [e] at a; cases a
          exact hp j b
        · have : i = 0 := by omega
          subst this
          rw [h.1.2.2.2.2.2.1] at e; cases e
    · cases e : s_sc S i with
      | none => exact Nat.two_pow_pos _
      | some j => exact hp j (h.sc hi e)
theorem WF.fa31 (h : WF S) (hi : i < s_c S) : s_fa S i < 2 ^ 24 := Nat.lt_of_lt_of_le (h.falt i hi) (Nat.pow_le_pow_right (by omega) (by have := h.c24; omega))
theorem WF.self (h : WF S) (hi : i < s_c S) : (s_fa S i).testBit i = true := by rw [h.fa hi]; simp [Nat.testBit_or, Nat.testBit_two_pow]
theorem WF.dp (h : WF S) : ∀ i, i < s_c S → s_dp S i ≤ i := by
  intro i
  induction i using Nat.strongRecOn with
  | _ i ih =>
    intro hi
    rw [(h.2.1 i hi).2.2.2.2.1]
    refine Nat.max_le.mpr ⟨?_, ?_⟩
    · cases e : s_fs S i with
      | none => exact Nat.zero_le _
      | some j =>
        by_cases h0 : 0 < i
        · obtain ⟨j', a, b⟩ := h.fs hi h0
          rw [e] at a; cases a
          have := ih j b (by omega)
          show s_dp S j + 1 ≤ i
          omega
        · have : i = 0 := by omega
          subst this
          rw [h.1.2.2.2.2.2.1] at e; cases e
    · cases e : s_sc S i with
      | none => exact Nat.zero_le _
      | some j =>
        have hj := h.sc hi e
        have := ih j hj (by omega)
        show s_dp S j + 1 ≤ i
        omega
/-! words of both sides -/
theorem f9_in_0 {n : Nat} (hn : n < 2 ^ 30) : f9_in x (nI 0) (nI n) = some (inb x (n + 1)) := by
  unfold f9_in
  by_cases h1 : x < nI 0
  · rw [if_pos h1, inb_lo (show x < 0 from h1)]
  · rw [if_neg h1]
    by_cases h2 : nI n < x
    · rw [if_pos h2]
      have : inb x (n + 1) = false := by
        have h3 := Int32.lt_iff_toInt_lt.mp h2
        rw [nI_toInt (by omega)] at h3
        exact decide_eq_false (by omega)
      rw [this]
    · rw [if_neg h2]
      have : inb x (n + 1) = true := by
        have h3 : ¬ (n : Int) < x.toInt := fun q => h2 (Int32.lt_iff_toInt_lt.mpr (by rw [nI_toInt (by omega)]; exact q))
        have h4 : ¬ x.toInt < 0 := fun q => h1 (Int32.lt_iff_toInt_lt.mpr q)
        exact decide_eq_true (by omega)
      rw [this]
theorem f9_isBranch_e (h : WF S) (hN : RN N S) : f9_isBranch x N = some (inb x (s_b S)) := by
  have h1 := h.b1; have h5 := h.b5
  unfold f9_isBranch
  rw [show (nI 1).toNatClampNeg = 1 from rfl, hN.1.2.1, nJ_sub h1 (by omega), f9_in_0 (by omega), show s_b S - 1 + 1 = s_b S by omega]; rfl
theorem f9_isCommit_e (h : WF S) (hN : RN N S) : f9_isCommit x N = some (inb x (s_c S)) := by
  have h1 := h.c1; have h5 := h.c24
  unfold f9_isCommit
  rw [show (nI 0).toNatClampNeg = 0 from rfl, hN.1.1, nJ_sub h1 (by omega), f9_in_0 (by omega), show s_c S - 1 + 1 = s_c S by omega]; rfl
theorem f9_isKind_e : f9_isKind x = some (inb x 6) := by unfold f9_isKind; rw [f9_in_0 (by omega)]; rfl
theorem f9_of_e {w : Nat} (hi : i < 24) (hw : w < 9) : f9_of (nI i) (nI w) N = some (N (12 + 9 * i + w)) := by
  unfold f9_of
  rw [nJ_mul, nI_add, nI_add, nJ_inb (by omega), nJ_nat (by omega), if_pos (by simp; omega)]
theorem f9_has_e (h : WF S) (hN : RN N S) (hi : i < s_c S) (hk : k < 6) : f9_has (nI i) (nI k) N = some (nI (s_am S i k)) := by
  have h5 := h.c24
  unfold f9_has
  rw [nI_add, f9_of_e (by omega) (by omega), show 12 + 9 * i + (3 + k) = 12 + 9 * i + 3 + k by omega, (hN.2.2.2 i hi).2.2.2 k hk]; rfl
theorem f9_top_e (h : WF S) (hN : RN N S) (hj : j < s_b S) : f9_top (nI j) N = some (nI (s_tp S j)) := by
  have h5 := h.b5
  unfold f9_top
  rw [nI_add, nJ_inb (by omega), nJ_nat (by omega), if_pos (by simp; omega), hN.2.2.1 j hj]
theorem f9_kd_e (h : WF S) (hN : RN N S) (hi : i < s_c S) : f9_of (nI i) (nI 0) N = some (nI (s_kd S i)) := by
  have h5 := h.c24
  rw [f9_of_e (by omega) (by omega), show 12 + 9 * i + 0 = 12 + 9 * i by omega, (hN.2.2.2 i hi).1]
theorem f9_fs_e (h : WF S) (hN : RN N S) (hi : i < s_c S) : f9_of (nI i) (nI 1) N = some (oI (s_fs S i)) := by
  have h5 := h.c24
  rw [f9_of_e (by omega) (by omega), (hN.2.2.2 i hi).2.1]
theorem f9_sc_e (h : WF S) (hN : RN N S) (hi : i < s_c S) : f9_of (nI i) (nI 2) N = some (oI (s_sc S i)) := by
  have h5 := h.c24
  rw [f9_of_e (by omega) (by omega), (hN.2.2.2 i hi).2.2.1]
theorem f1_isCommit_e (h : WF S) (hF : RF φ S) : f1_isCommit x φ = some (inb x (s_c S)) := by
  have h1 := h.c1; have h5 := h.c24
  unfold f1_isCommit
  rw [hF.1.1]
  by_cases a : x < 0
  · rw [if_pos a, inb_lo a]
  · rw [if_neg a]
    by_cases b : nI (s_c S) ≤ x
    · rw [if_pos b, inb_hi (by omega) b (Nat.le_refl _)]
    · have hb := inb_no a b (by omega)
      rw [if_neg b, hb]
      obtain ⟨j, h1, h2, rfl⟩ := inb_ex hb
      rw [if_neg (by rw [nJ_le (by omega) h2]; omega)]
theorem f1_isBranch_e (h : WF S) (hF : RF φ S) : f1_isBranch x φ = some (inb x (s_b S)) := by
  have h1 := h.b1; have h5 := h.b5
  unfold f1_isBranch
  rw [hF.1.2.1]
  by_cases a : x < 0
  · rw [if_pos a, inb_lo a]
  · rw [if_neg a]
    by_cases b : nI (s_b S) ≤ x
    · rw [if_pos b, inb_hi (by omega) b (Nat.le_refl _)]
    · have hb := inb_no a b (by omega)
      rw [if_neg b, hb]
      obtain ⟨j, h1, h2, rfl⟩ := inb_ex hb
      rw [if_neg (by rw [nJ_le (by omega) h2]; omega)]
theorem f1_isFull_e (h : WF S) (hF : RF φ S) : f1_isFull φ = some (decide (s_c S = 24)) := by
  have h5 := h.c24
  unfold f1_isFull
  rw [hF.1.1]
  by_cases a : s_c S < 24
  · rw [if_pos (by rw [nJ_lt (by omega) (by omega)]; exact a), decide_eq_false (by omega)]
  · rw [if_neg (by rw [nJ_lt (by omega) (by omega)]; exact a), decide_eq_true (by omega)]
theorem f8_isIngredient_e : f8_isIngredient x = some (inb x 6) := by
  unfold f8_isIngredient
  by_cases a : x < 0
  · rw [if_pos a, inb_lo a]
  · rw [if_neg a]
    by_cases b : nI 6 ≤ x
    · rw [if_pos b, inb_hi (by omega) b (Nat.le_refl _)]
    · rw [if_neg b, inb_no a b (by omega)]
theorem f8_isPlace_e : f8_isPlace x = some (inb x 4) := by
  unfold f8_isPlace
  by_cases a : x < 0
  · rw [if_pos a, inb_lo a]
  · rw [if_neg a]
    by_cases b : nI 4 ≤ x
    · rw [if_pos b, inb_hi (by omega) b (Nat.le_refl _)]
    · rw [if_neg b, inb_no a b (by omega)]
theorem inb_lt {n : Nat} (hn : n + 1 < 2 ^ 31) : (¬ nI (n + 1) ≤ x) = (¬ nI n < x) := propext <| not_congr <| by
  rw [Int32.lt_iff_toInt_lt, Int32.le_iff_toInt_le, nI_toInt (by omega), nI_toInt (by omega)]; omega
theorem f8_isAmount_e : f8_isAmount x = some (inb x 100) := by
  unfold f8_isAmount
  by_cases a : x < 0
  · rw [if_pos a, inb_lo a]
  · rw [if_neg a]
    by_cases b : nI 99 < x
    · rw [if_pos b]
      have : nI (99 + 1) ≤ x := Classical.not_not.mp (by rw [inb_lt (by omega)]; exact fun h => h b)
      rw [inb_hi (by omega) this (Nat.le_refl _)]
    · rw [if_neg b, inb_no a (by rw [show (100 : Nat) = 99 + 1 from rfl, inb_lt (by omega)]; exact b) (by omega)]
theorem f8_isRule_e : f8_isRule x = some (inb x 4) := by
  unfold f8_isRule
  by_cases a : x < 0
  · rw [if_pos a, inb_lo a]
  · rw [if_neg a]
    by_cases b : nI 3 < x
    · rw [if_pos b]
      have : nI (3 + 1) ≤ x := Classical.not_not.mp (by rw [inb_lt (by omega)]; exact fun h => h b)
      rw [inb_hi (by omega) this (Nat.le_refl _)]
    · rw [if_neg b, inb_no a (by rw [show (4 : Nat) = 3 + 1 from rfl, inb_lt (by omega)]; exact b) (by omega)]
theorem f1_tipOf_e (h : WF S) (hF : RF φ S) (hj : j < s_b S) : f1_tipOf (nI j) φ = some (nI (s_tp S j)) := by
  have h5 := h.b5
  unfold f1_tipOf
  rw [if_neg (by rw [nJ_lt0 (by omega)]; exact fun h => h), if_neg (by rw [nJ_le (by omega) (by omega)]; omega), nJ_inb (by omega), if_pos (by simp; omega), nJ_nat (by omega), hF.2.2.1 j hj]
theorem f1_kindOf_e (h : WF S) (hF : RF φ S) (hi : i < s_c S) : f1_kindOf (nI i) φ = some (nI (s_kd S i)) := by
  have h5 := h.c24
  unfold f1_kindOf
  rw [if_neg (by rw [nJ_lt0 (by omega)]; exact fun h => h), if_neg (by rw [nJ_le (by omega) (by omega)]; omega), nJ_inb (by omega), if_pos (by simp; omega), nJ_nat (by omega), (hF.2.2.2 i hi).1]
theorem f1_firstOf_e (h : WF S) (hF : RF φ S) (hi : i < s_c S) : f1_firstOf (nI i) φ = some (oI (s_fs S i)) := by
  have h5 := h.c24
  unfold f1_firstOf
  rw [if_neg (by rw [nJ_lt0 (by omega)]; exact fun h => h), if_neg (by rw [nJ_le (by omega) (by omega)]; omega), nJ_inb (by omega), if_pos (by simp; omega), nJ_nat (by omega), (hF.2.2.2 i hi).2.1]
theorem f1_secondOf_e (h : WF S) (hF : RF φ S) (hi : i < s_c S) : f1_secondOf (nI i) φ = some (oI (s_sc S i)) := by
  have h5 := h.c24
  unfold f1_secondOf
  rw [if_neg (by rw [nJ_lt0 (by omega)]; exact fun h => h), if_neg (by rw [nJ_le (by omega) (by omega)]; omega), nJ_inb (by omega), if_pos (by simp; omega), nJ_nat (by omega), (hF.2.2.2 i hi).2.2.1]
theorem f1_familyOf_e (h : WF S) (hF : RF φ S) (hi : i < s_c S) : f1_familyOf (nI i) φ = some (nI (s_fa S i)) := by
  have h5 := h.c24
  unfold f1_familyOf
  rw [if_neg (by rw [nJ_lt0 (by omega)]; exact fun h => h), if_neg (by rw [nJ_le (by omega) (by omega)]; omega), nJ_inb (by omega), if_pos (by simp; omega), nJ_nat (by omega), (hF.2.2.2 i hi).2.2.2.1]
theorem f1_depthOf_e (h : WF S) (hF : RF φ S) (hi : i < s_c S) : f1_depthOf (nI i) φ = some (nI (s_dp S i)) := by
  have h5 := h.c24
  unfold f1_depthOf
  rw [if_neg (by rw [nJ_lt0 (by omega)]; exact fun h => h), if_neg (by rw [nJ_le (by omega) (by omega)]; omega), nJ_inb (by omega), if_pos (by simp; omega), nJ_nat (by omega), (hF.2.2.2 i hi).2.2.2.2.1]
theorem f1_amountIn_e (h : WF S) (hF : RF φ S) (hi : i < s_c S) (hk : k < 6) : f1_amountIn (nI i) (nI k) φ = some (nI (s_am S i k)) := by
  have h5 := h.c24
  unfold f1_amountIn
  rw [if_neg (by rw [nJ_lt0 (by omega)]; exact fun h => h), if_neg (by rw [nJ_le (by omega) (by omega)]; omega), if_neg (by rw [nJ_lt0 (by omega)]; exact fun h => h), if_pos (by rw [nJ_lt (by omega) (by omega)]; omega), nJ_mul, nI_add, nJ_inb (by omega), if_pos (by simp; omega), nJ_nat (by omega), (hF.2.2.2 i hi).2.2.2.2.2 k hk]
theorem f1_bundledAt_e (hF : RF φ S) {p : Nat} (hp : p < 4) : f1_bundledAt (nI p) φ = some (oI (s_bu S p)) := by
  unfold f1_bundledAt
  rw [if_neg (by rw [nJ_lt0 (by omega)]; exact fun h => h), if_neg (by rw [nJ_le (by omega) (by omega)]; omega), nJ_inb (by omega), if_pos (by simp; omega), nJ_nat (by omega), hF.2.1 p hp]
theorem f8_isInSet_e {a : Nat} (ha : a < 2 ^ 31) (hi : i < 24) : f8_isInSet (nI a) (nI i) = some (a.testBit i) := by
  unfold f8_isInSet
  rw [if_neg (by rw [nJ_lt0 (by omega)]; exact fun h => h), if_neg (by rw [nJ_le (by omega) (by omega)]; omega), nJ_bit ha hi]
  cases a.testBit i
  · exact if_neg (by decide)
  · exact if_pos rfl
theorem f8_setOf_e (hi : i < 24) : f8_setOf (nI i) = some (nI (2 ^ i)) := by
  unfold f8_setOf
  rw [if_neg (by rw [nJ_lt0 (by omega)]; exact fun h => h), if_neg (by rw [nJ_le (by omega) (by omega)]; omega), nJ_shl hi]
theorem f8_setOf_m : f8_setOf (-1) = some (nI 0) := by decide +kernel
theorem f1_familyOf_m : f1_familyOf (-1) φ = some (nI 0) := by unfold f1_familyOf; rw [if_pos (by decide)]
theorem f1_depthOf_m : f1_depthOf (-1) φ = some (-1) := by unfold f1_depthOf; rw [if_pos (by decide)]
end MA
section MB
variable {S : SS} {N : AI} {φ : Fo} {x : Int32} {i j k : Nat}
theorem WF.bit (h : WF S) (hi : i < s_c S) {t : Nat} : (s_fa S i).testBit t = true ↔ t = i ∨ (∃ j, s_fs S i = some j ∧ (s_fa S j).testBit t = true) ∨ (∃ j, s_sc S i = some j ∧ (s_fa S j).testBit t = true) := by
  rw [h.fa hi, Nat.testBit_or, Nat.testBit_or, Bool.or_eq_true, Bool.or_eq_true, Nat.testBit_two_pow]
  refine or_congr ⟨fun q => (of_decide_eq_true q).symm, fun q => decide_eq_true q.symm⟩ (or_congr ?_ ?_)
  · cases e : s_fs S i with
    | none => exact ⟨fun q => by simp [oF] at q, fun ⟨j, q, _⟩ => by cases q⟩
    | some j => exact ⟨fun q => ⟨j, rfl, q⟩, fun ⟨j', q, r⟩ => by cases q; exact r⟩
  · cases e : s_sc S i with
    | none => exact ⟨fun q => by simp [oF] at q, fun ⟨j, q, _⟩ => by cases q⟩
    | some j => exact ⟨fun q => ⟨j, rfl, q⟩, fun ⟨j', q, r⟩ => by cases q; exact r⟩
theorem WF.le (h : WF S) (hi : i < s_c S) {t : Nat} (ht : (s_fa S i).testBit t = true) : t ≤ i := by
  have h1 := Nat.ge_two_pow_of_testBit ht
  have h2 := h.falt i hi
  have := (Nat.pow_lt_pow_iff_right (a := 2) (by omega)).mp (Nat.lt_of_le_of_lt h1 h2)
  omega
theorem WF.fslt (h : WF S) (hi : i < s_c S) (hj : s_fs S i = some j) : j < i := by
  by_cases h0 : 0 < i
  · obtain ⟨j', a, b⟩ := h.fs hi h0
    rw [hj] at a; cases a; exact b
  · have : i = 0 := by omega
    subst this
    rw [h.1.2.2.2.2.2.1] at hj; cases hj
theorem WF.trans (h : WF S) (hi : i < s_c S) (hj : (s_fa S i).testBit j = true) {t : Nat} (ht : (s_fa S j).testBit t = true) : (s_fa S i).testBit t = true := by
  revert hi j
  induction i using Nat.strongRecOn with
  | _ i ih =>
    intro j hi hj ht
    rcases (h.bit hi).mp hj with q | ⟨u, a, b⟩ | ⟨u, a, b⟩
    · subst q; exact ht
    · have hu := h.fslt hi a
      exact (h.bit hi).mpr (Or.inr (Or.inl ⟨u, a, ih u hu (by omega) b ht⟩))
    · have hu := h.sc hi a
      exact (h.bit hi).mpr (Or.inr (Or.inr ⟨u, a, ih u hu (by omega) b ht⟩))
theorem WF.root (h : WF S) : ∀ i, i < s_c S → (s_fa S i).testBit 0 = true := by
  intro i
  induction i using Nat.strongRecOn with
  | _ i ih =>
    intro hi
    by_cases h0 : 0 < i
    · obtain ⟨j, a, b⟩ := h.fs hi h0
      exact (h.bit hi).mpr (Or.inr (Or.inl ⟨j, a, ih j b (by omega)⟩))
    · have : i = 0 := by omega
      subst this; exact h.self hi
theorem tb_or {a b t : Nat} : (a ||| b).testBit t = true ↔ a.testBit t = true ∨ b.testBit t = true := by rw [Nat.testBit_or, Bool.or_eq_true]
theorem tb_2 {j t : Nat} : (2 ^ j).testBit t = true ↔ t = j := by rw [Nat.testBit_two_pow]; exact ⟨fun q => (of_decide_eq_true q).symm, fun q => decide_eq_true q.symm⟩
theorem f9_family_L6_e (h : WF S) (hN : RN N S) (hi : i < s_c S) : ∀ (k n bits : Nat), k < n → k < s_c S → bits < 2 ^ 24 → (∀ t, (s_fa S i).testBit t = true ↔ (bits.testBit t = true ∨ ∃ j, j ≤ k ∧ bits.testBit j = true ∧ (s_fa S j).testBit t = true)) → f9_family_L6 x N n (nI bits) (nI k) = some (nI (s_fa S i)) := by
  have hc := h.c24
  intro k
  induction k with
  | zero =>
    intro n bits hn hk hb hinv
    obtain ⟨n, rfl⟩ : ∃ n', n = n' + 1 := ⟨n - 1, by omega⟩
    unfold f9_family_L6
    rw [if_pos (by rw [nJ_le0 (by omega)])]
    congr 2
    apply Nat.eq_of_testBit_eq
    intro t
    rw [Bool.eq_iff_iff]
    rw [hinv t]
    refine ⟨Or.inl, fun q => q.elim id ?_⟩
    rintro ⟨j, hj, hb1, hb2⟩
    have : j = 0 := by omega
    subst this
    have := h.le (by omega) hb2
    have : t = 0 := by omega
    subst this; exact hb1
  | succ k ih =>
    intro n bits hn hk hb hinv
    obtain ⟨n, rfl⟩ : ∃ n', n = n' + 1 := ⟨n - 1, by omega⟩
    unfold f9_family_L6
    rw [if_neg (by rw [nJ_le0 (by omega)]; omega), nJ_bit (by omega) (by omega), nJ_m1 (by omega) (by omega), show k + 1 - 1 = k by omega]
    by_cases hbit : bits.testBit (k + 1) = true
    · rw [if_neg (by rw [hbit]; decide), f9_fs_e h hN hk]
      obtain ⟨j, hj, hjk⟩ := h.fs hk (by omega)
      have hp : ∀ j, j < 24 → 2 ^ j < 2 ^ 24 := fun j hj => Nat.pow_lt_pow_right (by omega) hj
      rw [hj]
      dsimp only [Option.bind_some, oI]
      rw [f9_sc_e h hN hk]
      cases hs : s_sc S (k + 1) with
      | none =>
        dsimp only [Option.bind_some, oI]
        rw [if_pos (by decide), nJ_shl (by omega), nJ_or]
        refine ih n _ (by omega) (by omega) (Nat.or_lt_two_pow hb (hp j (by omega))) (fun t => ?_)
        rw [hinv t, tb_or, tb_2]
        constructor
        · rintro (q | ⟨u, hu, q1, q2⟩)
          · exact Or.inl (Or.inl q)
          · by_cases hu2 : u = k + 1
            · subst hu2
              rcases (h.bit hk).mp q2 with q | ⟨v, a, b⟩ | ⟨v, a, b⟩
              · subst q; exact Or.inl (Or.inl hbit)
              · rw [hj] at a; cases a
                exact Or.inr ⟨j, by omega, tb_or.mpr (Or.inr (tb_2.mpr rfl)), b⟩
              · rw [hs] at a; cases a
            · exact Or.inr ⟨u, by omega, tb_or.mpr (Or.inl q1), q2⟩
        · rintro ((q | q) | ⟨u, hu, q1, q2⟩)
          · exact Or.inl q
          · subst q
            exact Or.inr ⟨k + 1, Nat.le_refl _, hbit, (h.bit hk).mpr (Or.inr (Or.inl ⟨_, hj, h.self (by omega)⟩))⟩
          · rcases tb_or.mp q1 with q | q
            · exact Or.inr ⟨u, by omega, q, q2⟩
            · rw [tb_2] at q; subst q
              exact Or.inr ⟨k + 1, Nat.le_refl _, hbit, (h.bit hk).mpr (Or.inr (Or.inl ⟨_, hj, q2⟩))⟩
      | some g =>
        have hg := h.sc hk hs
        dsimp only [Option.bind_some, oI]
        rw [if_neg (by rw [nJ_lt0 (by omega)]; exact fun h => h), nJ_shl (by omega), nJ_shl (by omega), nJ_or, nJ_or]
        refine ih n _ (by omega) (by omega) (Nat.or_lt_two_pow (Nat.or_lt_two_pow hb (hp j (by omega))) (hp g (by omega))) (fun t => ?_)
        rw [hinv t, tb_or, tb_or, tb_2, tb_2]
        constructor
        · rintro (q | ⟨u, hu, q1, q2⟩)
          · exact Or.inl (Or.inl (Or.inl q))
          · by_cases hu2 : u = k + 1
            · subst hu2
              rcases (h.bit hk).mp q2 with q | ⟨v, a, b⟩ | ⟨v, a, b⟩
              · subst q; exact Or.inl (Or.inl (Or.inl hbit))
              · rw [hj] at a; cases a
                exact Or.inr ⟨j, by omega, tb_or.mpr (Or.inl (tb_or.mpr (Or.inr (tb_2.mpr rfl)))), b⟩
              · rw [hs] at a; cases a
                exact Or.inr ⟨g, by omega, tb_or.mpr (Or.inr (tb_2.mpr rfl)), b⟩
            · exact Or.inr ⟨u, by omega, tb_or.mpr (Or.inl (tb_or.mpr (Or.inl q1))), q2⟩
        · rintro (((q | q) | q) | ⟨u, hu, q1, q2⟩)
          · exact Or.inl q
          · subst q
            exact Or.inr ⟨k + 1, Nat.le_refl _, hbit, (h.bit hk).mpr (Or.inr (Or.inl ⟨_, hj, h.self (by omega)⟩))⟩
          · subst q
            exact Or.inr ⟨k + 1, Nat.le_refl _, hbit, (h.bit hk).mpr (Or.inr (Or.inr ⟨_, hs, h.self (by omega)⟩))⟩
          · rcases tb_or.mp q1 with q | q
            · rcases tb_or.mp q with q | q
              · exact Or.inr ⟨u, by omega, q, q2⟩
              · rw [tb_2] at q; subst q
                exact Or.inr ⟨k + 1, Nat.le_refl _, hbit, (h.bit hk).mpr (Or.inr (Or.inl ⟨_, hj, q2⟩))⟩
            · rw [tb_2] at q; subst q
              exact Or.inr ⟨k + 1, Nat.le_refl _, hbit, (h.bit hk).mpr (Or.inr (Or.inr ⟨_, hs, q2⟩))⟩
    · rw [if_pos (by rw [Bool.not_eq_true] at hbit; rw [hbit]; rfl)]
      refine ih n bits (by omega) (by omega) hb (fun t => ?_)
      rw [hinv t]
      refine or_congr Iff.rfl ⟨fun ⟨u, a, b, c⟩ => ⟨u, ?_, b, c⟩, fun ⟨u, a, b, c⟩ => ⟨u, by omega, b, c⟩⟩
      have : u ≠ k + 1 := fun q => hbit (q ▸ b)
      omega
theorem f9_family_e (h : WF S) (hN : RN N S) (hi : i < s_c S) : f9_family (nI i) N = some (nI (s_fa S i)) := by
  have hc := h.c24
  unfold f9_family
  rw [nJ_shl (by omega)]
  refine f9_family_L6_e h hN hi i fuel (2 ^ i) (by unfold fuel; omega) hi (Nat.pow_lt_pow_right (by omega) (by omega)) (fun t => ?_)
  constructor
  · intro q
    by_cases ht : t = i
    · exact Or.inl (tb_2.mpr ht)
    · exact Or.inr ⟨i, Nat.le_refl _, tb_2.mpr rfl, q⟩
  · rintro (q | ⟨u, _, q1, q2⟩)
    · rw [tb_2] at q; subst q; exact h.self hi
    · rw [tb_2] at q1; subst q1; exact q2
theorem f9_isWithin_e (h : WF S) (hN : RN N S) (hi : i < s_c S) (hj : j < s_c S) : f9_isWithin (nI j) (nI i) N = some ((s_fa S i).testBit j) := by
  have hc := h.c24
  have := h.fa31 hi
  unfold f9_isWithin
  rw [f9_family_e h hN hi, Option.bind_some, nJ_bit (by omega) (by omega)]
  cases (s_fa S i).testBit j
  · exact if_neg (by decide)
  · exact if_pos rfl
theorem f1_hasInFamily_e (h : WF S) (hF : RF φ S) (hi : i < s_c S) (hj : j < s_c S) : f1_hasInFamily (nI i) (nI j) φ = some ((s_fa S i).testBit j) := by
  have hc := h.c24
  have := h.fa31 hi
  unfold f1_hasInFamily
  rw [f1_familyOf_e h hF hi, Option.bind_some, f8_isInSet_e (by omega) (by omega)]; rfl
/-- the highest common bit -/
def hib (m : Nat) : Nat → Nat
  | 0 => 0
  | k + 1 => if m.testBit (k + 1) then k + 1 else hib m k
theorem hib_le (m k : Nat) : hib m k ≤ k := by
  induction k with
  | zero => exact Nat.le_refl _
  | succ k ih => unfold hib; split <;> omega
theorem hib_down {m k k' : Nat} (hk : k ≤ k') (hno : ∀ t, k < t → m.testBit t = false) : hib m k' = hib m k := by
  induction k' with
  | zero => have : k = 0 := by omega
            rw [this]
  | succ k' ih =>
    by_cases e : k = k' + 1
    · rw [e]
    · rw [show hib m (k' + 1) = hib m k' by unfold hib; rw [hno (k' + 1) (by omega)]; cases k' <;> rfl]
      exact ih (by omega)
theorem f9_common_L16_e {a : Nat} (ha : a < 2 ^ 31) (h0 : a.testBit 0 = true) {x1 x2 : Int32} : ∀ (k n : Nat), k < n → k < 24 → f9_common_L16 x1 x2 N n (nI a) (nI k) = some (nI (hib a k)) := by
  intro k
  induction k with
  | zero =>
    intro n hn hk
    obtain ⟨n, rfl⟩ : ∃ n', n = n' + 1 := ⟨n - 1, by omega⟩
    unfold f9_common_L16
    rw [nJ_bit ha hk, h0, if_neg (by decide)]; rfl
  | succ k ih =>
    intro n hn hk
    obtain ⟨n, rfl⟩ : ∃ n', n = n' + 1 := ⟨n - 1, by omega⟩
    unfold f9_common_L16
    rw [nJ_bit ha hk]
    unfold hib
    cases hb : a.testBit (k + 1)
    · rw [if_pos (by rfl), nJ_m1 (by omega) (by omega), show k + 1 - 1 = k by omega, ih n (by omega) (by omega)]; rfl
    · rw [if_neg (by decide)]; rfl
theorem f1_commonGround_L19_e {a : Nat} (ha : a < 2 ^ 31) {x1 x2 : Int32} : ∀ (k n : Nat), k < n → k < 24 → f1_commonGround_L19 x1 x2 φ n (nI a) (nI k) = some (nI (hib a k)) := by
  intro k
  induction k with
  | zero =>
    intro n hn hk
    obtain ⟨n, rfl⟩ : ∃ n', n = n' + 1 := ⟨n - 1, by omega⟩
    unfold f1_commonGround_L19
    rw [if_pos (by rw [nJ_le0 (by omega)])]; rfl
  | succ k ih =>
    intro n hn hk
    obtain ⟨n, rfl⟩ : ∃ n', n = n' + 1 := ⟨n - 1, by omega⟩
    unfold f1_commonGround_L19
    rw [if_neg (by rw [nJ_le0 (by omega)]; omega), f8_isInSet_e ha hk, Option.bind_some]
    unfold hib
    cases hb : a.testBit (k + 1)
    · rw [if_pos (by rfl), nJ_m1 (by omega) (by omega), show k + 1 - 1 = k by omega, ih n (by omega) (by omega)]; rfl
    · rw [if_neg (by decide)]; rfl
def cmn (S : SS) (i j : Nat) : Nat := hib (s_fa S i &&& s_fa S j) 23
theorem cmn_lt (h : WF S) (hi : i < s_c S) (hj : j < s_c S) : cmn S i j < s_c S := by
  have : cmn S i j = hib (s_fa S i &&& s_fa S j) i := by
    refine hib_down (by have := h.c24; omega) (fun t ht => ?_)
    rw [Nat.testBit_and]
    have : (s_fa S i).testBit t = false := by
      rw [← Bool.not_eq_true]; intro q; have := h.le hi q; omega
    rw [this]; rfl
  rw [this]
  exact Nat.lt_of_le_of_lt (hib_le _ _) hi
theorem f9_common_e (h : WF S) (hN : RN N S) (hi : i < s_c S) (hj : j < s_c S) : f9_common (nI i) (nI j) N = some (nI (cmn S i j)) := by
  have := h.fa31 hi; have h2 := h.fa31 hj
  have hle : s_fa S i &&& s_fa S j ≤ s_fa S i := Nat.and_le_left
  unfold f9_common
  rw [f9_family_e h hN hi, Option.bind_some, f9_family_e h hN hj, Option.bind_some, nJ_and]
  exact f9_common_L16_e (by omega) (by rw [Nat.testBit_and, h.root i hi, h.root j hj]; rfl) 23 fuel (by unfold fuel; omega) (by omega)
theorem f1_commonGround_e (h : WF S) (hF : RF φ S) (hi : i < s_c S) (hj : j < s_c S) : f1_commonGround (nI i) (nI j) φ = some (nI (cmn S i j)) := by
  have hc := h.c24
  have := h.fa31 hi; have h2 := h.fa31 hj
  have hle : s_fa S i &&& s_fa S j ≤ s_fa S i := Nat.and_le_left
  unfold f1_commonGround
  rw [f1_familyOf_e h hF hi, Option.bind_some, f1_familyOf_e h hF hj, Option.bind_some, nJ_and]
  have hm : (if nI j < nI i then nI j else nI i) = nI (min i j) := by
    by_cases q : j < i
    · rw [if_pos (by rw [nJ_lt (by omega) (by omega)]; exact q), Nat.min_eq_right (by omega)]
    · rw [if_neg (by rw [nJ_lt (by omega) (by omega)]; exact q), Nat.min_eq_left (by omega)]
  rw [hm, f1_commonGround_L19_e (by omega) (min i j) fuel (by unfold fuel; omega) (by omega)]
  congr 2
  refine (hib_down (by omega) (fun t ht => ?_)).symm
  rw [Nat.testBit_and, Bool.and_eq_false_iff]
  by_cases q : i ≤ j
  · left; rw [← Bool.not_eq_true]; intro w; have := h.le hi w; omega
  · right; rw [← Bool.not_eq_true]; intro w; have := h.le hj w; omega
end MB
