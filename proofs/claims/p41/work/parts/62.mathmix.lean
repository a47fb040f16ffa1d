/-! putting together -/
def rul (r : Nat) (x y : Nat) : Nat := if r = 2 then y else if r = 3 then (x + y) / 2 else x
def mixv (r x y z : Nat) : Nat := if x = z then y else if y = z then x else if x = y then x else rul r x y
def cfB (x y z : Nat) : Bool := decide (x ≠ z ∧ y ≠ z ∧ x ≠ y)
def b2n (b : Bool) : Nat := if b then 1 else 0
def lowI (c0 c1 c2 c3 c4 c5 : Bool) : Int32 := if c0 then nI 0 else if c1 then nI 1 else if c2 then nI 2 else if c3 then nI 3 else if c4 then nI 4 else if c5 then nI 5 else -1
def fcS (c : Bool) (fc : Int32) (k : Nat) : Int32 := if c then (if 0 ≤ fc then fc else nI k) else fc
section MC4
variable {S : SS} {N : AI} {φ : Fo} {a b o k n r : Nat} {row : AI}
theorem f5_byRule_e {x y : Nat} (hx : x ≤ 99) (hy : y ≤ 99) (hr : r < 4) : f5_byRule (nI x) (nI y) (nI r) = some (nI (rul r x y)) := by
  unfold f5_byRule rul
  by_cases h2 : r = 2
  · subst h2; rfl
  · rw [if_neg (by rw [nJ_eq (by omega) (by omega)]; exact h2), if_neg h2]
    by_cases h3 : r = 3
    · subst h3
      rw [if_pos rfl, if_pos rfl, nI_add, nJ_div (by omega) (by omega)]
    · rw [if_neg (by rw [nJ_eq (by omega) (by omega)]; exact h3), if_neg h3]
theorem f5_pt_step (h : WF S) (hF : RF φ S) (ha : a < s_c S) (hb : b < s_c S) (ho : o < s_c S) (hr : r < 4) (hk : k < 6) {cc lo : Int32} :
    f5_putTogether_L13 (nI a) (nI b) (nI o) (nI r) φ (n + 1) (nI k) row cc lo = f5_putTogether_L13 (nI a) (nI b) (nI o) (nI r) φ n (nI k + (-1)) (upd row k (nI (mixv r (s_am S a k) (s_am S b k) (s_am S o k)))) (if cfB (s_am S a k) (s_am S b k) (s_am S o k) then cc + nI 1 else cc) (if cfB (s_am S a k) (s_am S b k) (s_am S o k) then nI k else lo) := by
  have x1 := h.am ha hk; have x2 := h.am hb hk; have x3 := h.am ho hk
  rw [f5_putTogether_L13, if_neg (by rw [nJ_lt0 (by omega)]; exact fun h => h), f1_amountIn_e h hF ha hk, Option.bind_some, f1_amountIn_e h hF hb hk, Option.bind_some, f1_amountIn_e h hF ho hk, Option.bind_some]
  generalize s_am S a k = x at *
  generalize s_am S b k = y at *
  generalize s_am S o k = z at *
  have hin : inb (nI k) 6 = true := by rw [nJ_inb (by omega)]; exact decide_eq_true hk
  have hnat : (nI k).toNatClampNeg = k := nJ_nat (by omega)
  rw [hin, hnat, f5_byRule_e x1 x2 hr]
  by_cases e1 : x = z
  · have hc : cfB x y z = false := decide_eq_false (fun q => q.1 e1)
    rw [hc, if_pos (by rw [nJ_eq (by omega) (by omega)]; exact e1), if_pos rfl]
    unfold mixv; rw [if_pos e1]; rfl
  · rw [if_neg (by rw [nJ_eq (by omega) (by omega)]; exact e1)]
    by_cases e2 : y = z
    · have hc : cfB x y z = false := decide_eq_false (fun q => q.2.1 e2)
      rw [hc, if_pos (by rw [nJ_eq (by omega) (by omega)]; exact e2), if_pos rfl]
      unfold mixv; rw [if_neg e1, if_pos e2]; rfl
    · rw [if_neg (by rw [nJ_eq (by omega) (by omega)]; exact e2)]
      by_cases e3 : x = y
      · have hc : cfB x y z = false := decide_eq_false (fun q => q.2.2 e3)
        rw [hc, if_pos (by rw [nJ_eq (by omega) (by omega)]; exact e3), if_pos rfl]
        unfold mixv; rw [if_neg e1, if_neg e2, if_pos e3]; rfl
      · have hc : cfB x y z = true := decide_eq_true ⟨e1, e2, e3⟩
        rw [hc, if_neg (by rw [nJ_eq (by omega) (by omega)]; exact e3), Option.bind_some, if_pos rfl]
        unfold mixv; rw [if_neg e1, if_neg e2, if_neg e3]; rfl
theorem f9_mx_step (h : WF S) (hN : RN N S) (ha : a < s_c S) (hb : b < s_c S) (ho : o < s_c S) (hr : r < 4) (hk : k < 6) {cc fc : Int32} :
    f9_mixes_L13 (nI a) (nI b) (nI o) (nI r) N (n + 1) (nI k) row cc fc = f9_mixes_L13 (nI a) (nI b) (nI o) (nI r) N n (nI (k + 1)) (upd (upd row k (nI (s_am S a k))) k (nI (mixv r (s_am S a k) (s_am S b k) (s_am S o k)))) (if cfB (s_am S a k) (s_am S b k) (s_am S o k) then cc + nI 1 else cc) (fcS (cfB (s_am S a k) (s_am S b k) (s_am S o k)) fc k) := by
  have x1 := h.am ha hk; have x2 := h.am hb hk; have x3 := h.am ho hk
  have hu : ∀ (v : Int32), upd (upd row k v) k v = upd row k v := fun v => by funext j; unfold upd; by_cases q : j = k <;> simp [q]
  rw [f9_mixes_L13, if_neg (by rw [nJ_le (by omega) (by omega)]; omega), f9_has_e h hN ha hk, Option.bind_some, f9_has_e h hN hb hk, Option.bind_some, f9_has_e h hN ho hk, Option.bind_some]
  generalize s_am S a k = x at *
  generalize s_am S b k = y at *
  generalize s_am S o k = z at *
  have hin : inb (nI k) 6 = true := by rw [nJ_inb (by omega)]; exact decide_eq_true hk
  have hnat : (nI k).toNatClampNeg = k := nJ_nat (by omega)
  rw [hin, hnat, if_pos rfl, nI_add]
  unfold lt
  dsimp only
  by_cases e1 : x = z
  · have hc : cfB x y z = false := decide_eq_false (fun q => q.1 e1)
    rw [if_pos (by rw [nJ_eq (by omega) (by omega)]; exact e1), if_pos rfl, hc]
    unfold mixv; rw [if_pos e1]; rfl
  · rw [if_neg (by rw [nJ_eq (by omega) (by omega)]; exact e1)]
    by_cases e2 : y = z
    · have hc : cfB x y z = false := decide_eq_false (fun q => q.2.1 e2)
      rw [hc, if_pos (by rw [nJ_eq (by omega) (by omega)]; exact e2)]
      unfold mixv; rw [if_neg e1, if_pos e2, hu]; rfl
    · rw [if_neg (by rw [nJ_eq (by omega) (by omega)]; exact e2)]
      by_cases e3 : x = y
      · have hc : cfB x y z = false := decide_eq_false (fun q => q.2.2 e3)
        rw [hc, if_pos (by rw [nJ_eq (by omega) (by omega)]; exact e3)]
        unfold mixv; rw [if_neg e1, if_neg e2, if_pos e3, hu]; rfl
      · have hc : cfB x y z = true := decide_eq_true ⟨e1, e2, e3⟩
        rw [hc, if_neg (by rw [nJ_eq (by omega) (by omega)]; exact e3)]
        show _ = f9_mixes_L13 (nI a) (nI b) (nI o) (nI r) N n (nI (k + 1)) _ (cc + nI 1) (if 0 ≤ fc then fc else nI k)
        unfold mixv; rw [if_neg e1, if_neg e2, if_neg e3]
        have hr1 : (nI r ≤ nI 1) = (r ≤ 1) := nJ_le (by omega) (by omega)
        have hr2 : (nI r = nI 2) = (r = 2) := nJ_eq (by omega) (by omega)
        have hd : (nI x + nI y) / nI 2 = nI ((x + y) / 2) := by rw [nI_add, nJ_div (by omega) (by omega)]
        rw [hd]
        unfold rul
        by_cases f : 0 ≤ fc
        · rw [if_pos f, if_pos f]
          by_cases q1 : r ≤ 1
          · rw [if_pos (by rw [hr1]; exact q1), if_neg (by omega), if_neg (by omega), hu]
          · rw [if_neg (by rw [hr1]; exact q1)]
            by_cases q2 : r = 2
            · rw [if_pos (by rw [hr2]; exact q2), if_pos q2, if_pos rfl]
            · rw [if_neg (by rw [hr2]; exact q2), if_neg q2, if_pos (show r = 3 by omega), if_pos rfl]
        · rw [if_neg f, if_neg f]
          by_cases q1 : r ≤ 1
          · rw [if_pos (by rw [hr1]; exact q1), if_neg (by omega), if_neg (by omega), hu]
          · rw [if_neg (by rw [hr1]; exact q1)]
            by_cases q2 : r = 2
            · rw [if_pos (by rw [hr2]; exact q2), if_pos q2, if_pos rfl]
            · rw [if_neg (by rw [hr2]; exact q2), if_neg q2, if_pos (show r = 3 by omega), if_pos rfl]
theorem iteI {c : Bool} {n : Nat} : (if c = true then nI n + nI 1 else nI n) = nI (n + b2n c) := by cases c <;> simp [b2n, nI_add]
def cfs (S : SS) (a b o k : Nat) : Bool := cfB (s_am S a k) (s_am S b k) (s_am S o k)
def cfn (S : SS) (a b o : Nat) : Nat := b2n (cfs S a b o 0) + b2n (cfs S a b o 1) + b2n (cfs S a b o 2) + b2n (cfs S a b o 3) + b2n (cfs S a b o 4) + b2n (cfs S a b o 5)
def cfl (S : SS) (a b o : Nat) : Int32 := lowI (cfs S a b o 0) (cfs S a b o 1) (cfs S a b o 2) (cfs S a b o 3) (cfs S a b o 4) (cfs S a b o 5)
def mixr (S : SS) (a b o r : Nat) (k : Nat) : Nat := mixv r (s_am S a k) (s_am S b k) (s_am S o k)
theorem up6 {v0 v1 v2 v3 v4 v5 : Int32} {f : Nat → Int32} (e0 : v0 = f 0) (e1 : v1 = f 1) (e2 : v2 = f 2) (e3 : v3 = f 3) (e4 : v4 = f 4) (e5 : v5 = f 5) {k : Nat} (hk : k < 6) : upd (upd (upd (upd (upd (upd row 5 v5) 4 v4) 3 v3) 2 v2) 1 v1) 0 v0 k = f k := by
  rcases (show k = 0 ∨ k = 1 ∨ k = 2 ∨ k = 3 ∨ k = 4 ∨ k = 5 by omega) with rfl | rfl | rfl | rfl | rfl | rfl <;> simp [upd, *]
theorem f5_putTogether_e (h : WF S) (hF : RF φ S) (ha : a < s_c S) (hb : b < s_c S) (ho : o < s_c S) (hr : r < 4) {x y : Int32} : ∃ row', f5_putTogether (nI a) (nI b) (nI o) (nI r) row x y φ = some (row', nI (cfn S a b o), cfl S a b o) ∧ ∀ k, k < 6 → row' k = nI (mixr S a b o r k) := by
  have m (k : Nat) (h1 : 1 ≤ k) (h2 : k < 6) : nI k + (-1) = nI (k - 1) := nJ_m1 h1 (by omega)
  have m0 : nI 0 + (-1) = (-1 : Int32) := by decide +kernel
  refine ⟨upd (upd (upd (upd (upd (upd row 5 (nI (mixr S a b o r 5))) 4 (nI (mixr S a b o r 4))) 3 (nI (mixr S a b o r 3))) 2 (nI (mixr S a b o r 2))) 1 (nI (mixr S a b o r 1))) 0 (nI (mixr S a b o r 0)), ?_, fun k hk => ?_⟩
  · unfold f5_putTogether
    rw [show fuel = 1993 + 1 + 1 + 1 + 1 + 1 + 1 + 1 from rfl]
    rw [f5_pt_step h hF ha hb ho hr (by omega), m 5 (by omega) (by omega), f5_pt_step h hF ha hb ho hr (by omega), m 4 (by omega) (by omega), f5_pt_step h hF ha hb ho hr (by omega), m 3 (by omega) (by omega), f5_pt_step h hF ha hb ho hr (by omega), m 2 (by omega) (by omega), f5_pt_step h hF ha hb ho hr (by omega), m 1 (by omega) (by omega), f5_pt_step h hF ha hb ho hr (by omega), m0]
    rw [f5_putTogether_L13, if_pos (by decide)]
    simp only [iteI]
    refine congrArg some (Prod.ext rfl (Prod.ext ?_ ?_))
    · show nI _ = nI _
      congr 1
      unfold cfn cfs
      simp only [Nat.reduceSub, Nat.reduceAdd]
      omega
    · rfl
  · exact up6 (f := fun k => nI (mixr S a b o r k)) rfl rfl rfl rfl rfl rfl hk
theorem low_up : ∀ c0 c1 c2 c3 c4 c5 : Bool, fcS c5 (fcS c4 (fcS c3 (fcS c2 (fcS c1 (fcS c0 (-1) 0) 1) 2) 3) 4) 5 = lowI c0 c1 c2 c3 c4 c5 := by decide +kernel
theorem up6' {v0 v1 v2 v3 v4 v5 w0 w1 w2 w3 w4 w5 : Int32} {f : Nat → Int32} (e0 : v0 = f 0) (e1 : v1 = f 1) (e2 : v2 = f 2) (e3 : v3 = f 3) (e4 : v4 = f 4) (e5 : v5 = f 5) {k : Nat} (hk : k < 6) : upd (upd (upd (upd (upd (upd (upd (upd (upd (upd (upd (upd row 0 w0) 0 v0) 1 w1) 1 v1) 2 w2) 2 v2) 3 w3) 3 v3) 4 w4) 4 v4) 5 w5) 5 v5 k = f k := by
  rcases (show k = 0 ∨ k = 1 ∨ k = 2 ∨ k = 3 ∨ k = 4 ∨ k = 5 by omega) with rfl | rfl | rfl | rfl | rfl | rfl <;> simp [upd, *]
theorem f9_mixes_e (h : WF S) (hN : RN N S) (ha : a < s_c S) (hb : b < s_c S) (ho : o < s_c S) (hr : r < 4) {x y : Int32} : ∃ row', f9_mixes (nI a) (nI b) (nI o) (nI r) N row x y = some (row', nI (cfn S a b o), cfl S a b o) ∧ ∀ k, k < 6 → row' k = nI (mixr S a b o r k) := by
  refine ⟨upd (upd (upd (upd (upd (upd (upd (upd (upd (upd (upd (upd row 0 (nI (s_am S a 0))) 0 (nI (mixr S a b o r 0))) 1 (nI (s_am S a 1))) 1 (nI (mixr S a b o r 1))) 2 (nI (s_am S a 2))) 2 (nI (mixr S a b o r 2))) 3 (nI (s_am S a 3))) 3 (nI (mixr S a b o r 3))) 4 (nI (s_am S a 4))) 4 (nI (mixr S a b o r 4))) 5 (nI (s_am S a 5))) 5 (nI (mixr S a b o r 5)), ?_, fun k hk => ?_⟩
  · unfold f9_mixes
    rw [show fuel = 1993 + 1 + 1 + 1 + 1 + 1 + 1 + 1 from rfl]
    rw [f9_mx_step h hN ha hb ho hr (by omega), f9_mx_step h hN ha hb ho hr (by omega), f9_mx_step h hN ha hb ho hr (by omega), f9_mx_step h hN ha hb ho hr (by omega), f9_mx_step h hN ha hb ho hr (by omega), f9_mx_step h hN ha hb ho hr (by omega)]
    rw [f9_mixes_L13, if_pos (by decide)]
    simp only [iteI]
    refine congrArg some (Prod.ext rfl (Prod.ext ?_ ?_))
    · show nI _ = nI _
      congr 1
      unfold cfn cfs
      simp only [Nat.reduceSub, Nat.reduceAdd]
      omega
    · exact low_up _ _ _ _ _ _
  · exact up6' (f := fun k => nI (mixr S a b o r k)) rfl rfl rfl rfl rfl rfl hk
end MC4
/-! a commit comes -/
def upN {α : Type} (f : Nat → α) (k : Nat) (x : α) : Nat → α := fun j => if j = k then x else f j
theorem upN_s {α : Type} (f : Nat → α) (k : Nat) (x : α) : upN f k x k = x := if_pos rfl
theorem upN_n {α : Type} (f : Nat → α) {k j : Nat} (x : α) (h : j ≠ k) : upN f k x j = f j := if_neg h
def addS (S : SS) (j kd : Nat) (sc : Option Nat) (f : Nat → Nat) : SS := ((s_c S + 1, s_b S, s_pu S), upN (s_kd S) (s_c S) kd, upN (s_fs S) (s_c S) (some (s_tp S j)), upN (s_sc S) (s_c S) sc, upN (s_fa S) (s_c S) (2 ^ s_c S ||| (s_fa S (s_tp S j) ||| oF (s_fa S) sc)), upN (s_dp S) (s_c S) (max (s_dp S (s_tp S j) + 1) (oD (s_dp S) sc)), upN (s_am S) (s_c S) f, upN (s_tp S) j (s_c S), s_bu S)
def am6 (A : AI) (c : Nat) (row : AI) : AI := upd (upd (upd (upd (upd (upd A (c * 6 + 0) (row 0)) (c * 6 + 1) (row 1)) (c * 6 + 2) (row 2)) (c * 6 + 3) (row 3)) (c * 6 + 4) (row 4)) (c * 6 + 5) (row 5)
theorem gs_commits_commits (φ : Fo) (v : Int32) : fo_commits (fo_s_commits φ v) = v := Eq.trans rfl rfl
theorem gs_commits_branches (φ : Fo) (v : Int32) : fo_commits (fo_s_branches φ v) = fo_commits φ := Eq.trans rfl rfl
theorem gs_commits_purpose (φ : Fo) (v : Int32) : fo_commits (fo_s_purpose φ v) = fo_commits φ := Eq.trans rfl rfl
theorem gs_commits_kinds (φ : Fo) (v : AI) : fo_commits (fo_s_kinds φ v) = fo_commits φ := Eq.trans rfl rfl
theorem gs_commits_firsts (φ : Fo) (v : AI) : fo_commits (fo_s_firsts φ v) = fo_commits φ := Eq.trans rfl rfl
theorem gs_commits_seconds (φ : Fo) (v : AI) : fo_commits (fo_s_seconds φ v) = fo_commits φ := Eq.trans rfl rfl
theorem gs_commits_families (φ : Fo) (v : AI) : fo_commits (fo_s_families φ v) = fo_commits φ := Eq.trans rfl rfl
theorem gs_commits_depths (φ : Fo) (v : AI) : fo_commits (fo_s_depths φ v) = fo_commits φ := Eq.trans rfl rfl
theorem gs_commits_amounts (φ : Fo) (v : AI) : fo_commits (fo_s_amounts φ v) = fo_commits φ := Eq.trans rfl rfl
theorem gs_commits_tips (φ : Fo) (v : AI) : fo_commits (fo_s_tips φ v) = fo_commits φ := Eq.trans rfl rfl
theorem gs_commits_bundled (φ : Fo) (v : AI) : fo_commits (fo_s_bundled φ v) = fo_commits φ := Eq.trans rfl rfl
theorem gs_branches_commits (φ : Fo) (v : Int32) : fo_branches (fo_s_commits φ v) = fo_branches φ := Eq.trans rfl rfl
theorem gs_branches_branches (φ : Fo) (v : Int32) : fo_branches (fo_s_branches φ v) = v := Eq.trans rfl rfl
theorem gs_branches_purpose (φ : Fo) (v : Int32) : fo_branches (fo_s_purpose φ v) = fo_branches φ := Eq.trans rfl rfl
theorem gs_branches_kinds (φ : Fo) (v : AI) : fo_branches (fo_s_kinds φ v) = fo_branches φ := Eq.trans rfl rfl
theorem gs_branches_firsts (φ : Fo) (v : AI) : fo_branches (fo_s_firsts φ v) = fo_branches φ := Eq.trans rfl rfl
theorem gs_branches_seconds (φ : Fo) (v : AI) : fo_branches (fo_s_seconds φ v) = fo_branches φ := Eq.trans rfl rfl
theorem gs_branches_families (φ : Fo) (v : AI) : fo_branches (fo_s_families φ v) = fo_branches φ := Eq.trans rfl rfl
theorem gs_branches_depths (φ : Fo) (v : AI) : fo_branches (fo_s_depths φ v) = fo_branches φ := Eq.trans rfl rfl
theorem gs_branches_amounts (φ : Fo) (v : AI) : fo_branches (fo_s_amounts φ v) = fo_branches φ := Eq.trans rfl rfl
theorem gs_branches_tips (φ : Fo) (v : AI) : fo_branches (fo_s_tips φ v) = fo_branches φ := Eq.trans rfl rfl
theorem gs_branches_bundled (φ : Fo) (v : AI) : fo_branches (fo_s_bundled φ v) = fo_branches φ := Eq.trans rfl rfl
theorem gs_purpose_commits (φ : Fo) (v : Int32) : fo_purpose (fo_s_commits φ v) = fo_purpose φ := Eq.trans rfl rfl
theorem gs_purpose_branches (φ : Fo) (v : Int32) : fo_purpose (fo_s_branches φ v) = fo_purpose φ := Eq.trans rfl rfl
theorem gs_purpose_purpose (φ : Fo) (v : Int32) : fo_purpose (fo_s_purpose φ v) = v := Eq.trans rfl rfl
theorem gs_purpose_kinds (φ : Fo) (v : AI) : fo_purpose (fo_s_kinds φ v) = fo_purpose φ := Eq.trans rfl rfl
theorem gs_purpose_firsts (φ : Fo) (v : AI) : fo_purpose (fo_s_firsts φ v) = fo_purpose φ := Eq.trans rfl rfl
theorem gs_purpose_seconds (φ : Fo) (v : AI) : fo_purpose (fo_s_seconds φ v) = fo_purpose φ := Eq.trans rfl rfl
theorem gs_purpose_families (φ : Fo) (v : AI) : fo_purpose (fo_s_families φ v) = fo_purpose φ := Eq.trans rfl rfl
theorem gs_purpose_depths (φ : Fo) (v : AI) : fo_purpose (fo_s_depths φ v) = fo_purpose φ := Eq.trans rfl rfl
theorem gs_purpose_amounts (φ : Fo) (v : AI) : fo_purpose (fo_s_amounts φ v) = fo_purpose φ := Eq.trans rfl rfl
theorem gs_purpose_tips (φ : Fo) (v : AI) : fo_purpose (fo_s_tips φ v) = fo_purpose φ := Eq.trans rfl rfl
theorem gs_purpose_bundled (φ : Fo) (v : AI) : fo_purpose (fo_s_bundled φ v) = fo_purpose φ := Eq.trans rfl rfl
theorem gs_kinds_commits (φ : Fo) (v : Int32) : fo_kinds (fo_s_commits φ v) = fo_kinds φ := Eq.trans rfl rfl
theorem gs_kinds_branches (φ : Fo) (v : Int32) : fo_kinds (fo_s_branches φ v) = fo_kinds φ := Eq.trans rfl rfl
theorem gs_kinds_purpose (φ : Fo) (v : Int32) : fo_kinds (fo_s_purpose φ v) = fo_kinds φ := Eq.trans rfl rfl
theorem gs_kinds_kinds (φ : Fo) (v : AI) : fo_kinds (fo_s_kinds φ v) = v := Eq.trans rfl rfl
theorem gs_kinds_firsts (φ : Fo) (v : AI) : fo_kinds (fo_s_firsts φ v) = fo_kinds φ := Eq.trans rfl rfl
theorem gs_kinds_seconds (φ : Fo) (v : AI) : fo_kinds (fo_s_seconds φ v) = fo_kinds φ := Eq.trans rfl rfl
theorem gs_kinds_families (φ : Fo) (v : AI) : fo_kinds (fo_s_families φ v) = fo_kinds φ := Eq.trans rfl rfl
theorem gs_kinds_depths (φ : Fo) (v : AI) : fo_kinds (fo_s_depths φ v) = fo_kinds φ := Eq.trans rfl rfl
theorem gs_kinds_amounts (φ : Fo) (v : AI) : fo_kinds (fo_s_amounts φ v) = fo_kinds φ := Eq.trans rfl rfl
theorem gs_kinds_tips (φ : Fo) (v : AI) : fo_kinds (fo_s_tips φ v) = fo_kinds φ := Eq.trans rfl rfl
theorem gs_kinds_bundled (φ : Fo) (v : AI) : fo_kinds (fo_s_bundled φ v) = fo_kinds φ := Eq.trans rfl rfl
theorem gs_firsts_commits (φ : Fo) (v : Int32) : fo_firsts (fo_s_commits φ v) = fo_firsts φ := Eq.trans rfl rfl
theorem gs_firsts_branches (φ : Fo) (v : Int32) : fo_firsts (fo_s_branches φ v) = fo_firsts φ := Eq.trans rfl rfl
theorem gs_firsts_purpose (φ : Fo) (v : Int32) : fo_firsts (fo_s_purpose φ v) = fo_firsts φ := Eq.trans rfl rfl
theorem gs_firsts_kinds (φ : Fo) (v : AI) : fo_firsts (fo_s_kinds φ v) = fo_firsts φ := Eq.trans rfl rfl
theorem gs_firsts_firsts (φ : Fo) (v : AI) : fo_firsts (fo_s_firsts φ v) = v := Eq.trans rfl rfl
theorem gs_firsts_seconds (φ : Fo) (v : AI) : fo_firsts (fo_s_seconds φ v) = fo_firsts φ := Eq.trans rfl rfl
theorem gs_firsts_families (φ : Fo) (v : AI) : fo_firsts (fo_s_families φ v) = fo_firsts φ := Eq.trans rfl rfl
theorem gs_firsts_depths (φ : Fo) (v : AI) : fo_firsts (fo_s_depths φ v) = fo_firsts φ := Eq.trans rfl rfl
theorem gs_firsts_amounts (φ : Fo) (v : AI) : fo_firsts (fo_s_amounts φ v) = fo_firsts φ := Eq.trans rfl rfl
theorem gs_firsts_tips (φ : Fo) (v : AI) : fo_firsts (fo_s_tips φ v) = fo_firsts φ := Eq.trans rfl rfl
theorem gs_firsts_bundled (φ : Fo) (v : AI) : fo_firsts (fo_s_bundled φ v) = fo_firsts φ := Eq.trans rfl rfl
theorem gs_seconds_commits (φ : Fo) (v : Int32) : fo_seconds (fo_s_commits φ v) = fo_seconds φ := Eq.trans rfl rfl
theorem gs_seconds_branches (φ : Fo) (v : Int32) : fo_seconds (fo_s_branches φ v) = fo_seconds φ := Eq.trans rfl rfl
theorem gs_seconds_purpose (φ : Fo) (v : Int32) : fo_seconds (fo_s_purpose φ v) = fo_seconds φ := Eq.trans rfl rfl
theorem gs_seconds_kinds (φ : Fo) (v : AI) : fo_seconds (fo_s_kinds φ v) = fo_seconds φ := Eq.trans rfl rfl
theorem gs_seconds_firsts (φ : Fo) (v : AI) : fo_seconds (fo_s_firsts φ v) = fo_seconds φ := Eq.trans rfl rfl
theorem gs_seconds_seconds (φ : Fo) (v : AI) : fo_seconds (fo_s_seconds φ v) = v := Eq.trans rfl rfl
theorem gs_seconds_families (φ : Fo) (v : AI) : fo_seconds (fo_s_families φ v) = fo_seconds φ := Eq.trans rfl rfl
theorem gs_seconds_depths (φ : Fo) (v : AI) : fo_seconds (fo_s_depths φ v) = fo_seconds φ := Eq.trans rfl rfl
theorem gs_seconds_amounts (φ : Fo) (v : AI) : fo_seconds (fo_s_amounts φ v) = fo_seconds φ := Eq.trans rfl rfl
theorem gs_seconds_tips (φ : Fo) (v : AI) : fo_seconds (fo_s_tips φ v) = fo_seconds φ := Eq.trans rfl rfl
theorem gs_seconds_bundled (φ : Fo) (v : AI) : fo_seconds (fo_s_bundled φ v) = fo_seconds φ := Eq.trans rfl rfl
theorem gs_families_commits (φ : Fo) (v : Int32) : fo_families (fo_s_commits φ v) = fo_families φ := Eq.trans rfl rfl
theorem gs_families_branches (φ : Fo) (v : Int32) : fo_families (fo_s_branches φ v) = fo_families φ := Eq.trans rfl rfl
theorem gs_families_purpose (φ : Fo) (v : Int32) : fo_families (fo_s_purpose φ v) = fo_families φ := Eq.trans rfl rfl
theorem gs_families_kinds (φ : Fo) (v : AI) : fo_families (fo_s_kinds φ v) = fo_families φ := Eq.trans rfl rfl
theorem gs_families_firsts (φ : Fo) (v : AI) : fo_families (fo_s_firsts φ v) = fo_families φ := Eq.trans rfl rfl
theorem gs_families_seconds (φ : Fo) (v : AI) : fo_families (fo_s_seconds φ v) = fo_families φ := Eq.trans rfl rfl
theorem gs_families_families (φ : Fo) (v : AI) : fo_families (fo_s_families φ v) = v := Eq.trans rfl rfl
theorem gs_families_depths (φ : Fo) (v : AI) : fo_families (fo_s_depths φ v) = fo_families φ := Eq.trans rfl rfl
theorem gs_families_amounts (φ : Fo) (v : AI) : fo_families (fo_s_amounts φ v) = fo_families φ := Eq.trans rfl rfl
theorem gs_families_tips (φ : Fo) (v : AI) : fo_families (fo_s_tips φ v) = fo_families φ := Eq.trans rfl rfl
theorem gs_families_bundled (φ : Fo) (v : AI) : fo_families (fo_s_bundled φ v) = fo_families φ := Eq.trans rfl rfl
theorem gs_depths_commits (φ : Fo) (v : Int32) : fo_depths (fo_s_commits φ v) = fo_depths φ := Eq.trans rfl rfl
theorem gs_depths_branches (φ : Fo) (v : Int32) : fo_depths (fo_s_branches φ v) = fo_depths φ := Eq.trans rfl rfl
theorem gs_depths_purpose (φ : Fo) (v : Int32) : fo_depths (fo_s_purpose φ v) = fo_depths φ := Eq.trans rfl rfl
theorem gs_depths_kinds (φ : Fo) (v : AI) : fo_depths (fo_s_kinds φ v) = fo_depths φ := Eq.trans rfl rfl
theorem gs_depths_firsts (φ : Fo) (v : AI) : fo_depths (fo_s_firsts φ v) = fo_depths φ := Eq.trans rfl rfl
theorem gs_depths_seconds (φ : Fo) (v : AI) : fo_depths (fo_s_seconds φ v) = fo_depths φ := Eq.trans rfl rfl
theorem gs_depths_families (φ : Fo) (v : AI) : fo_depths (fo_s_families φ v) = fo_depths φ := Eq.trans rfl rfl
theorem gs_depths_depths (φ : Fo) (v : AI) : fo_depths (fo_s_depths φ v) = v := Eq.trans rfl rfl
theorem gs_depths_amounts (φ : Fo) (v : AI) : fo_depths (fo_s_amounts φ v) = fo_depths φ := Eq.trans rfl rfl
theorem gs_depths_tips (φ : Fo) (v : AI) : fo_depths (fo_s_tips φ v) = fo_depths φ := Eq.trans rfl rfl
theorem gs_depths_bundled (φ : Fo) (v : AI) : fo_depths (fo_s_bundled φ v) = fo_depths φ := Eq.trans rfl rfl
theorem gs_amounts_commits (φ : Fo) (v : Int32) : fo_amounts (fo_s_commits φ v) = fo_amounts φ := Eq.trans rfl rfl
theorem gs_amounts_branches (φ : Fo) (v : Int32) : fo_amounts (fo_s_branches φ v) = fo_amounts φ := Eq.trans rfl rfl
theorem gs_amounts_purpose (φ : Fo) (v : Int32) : fo_amounts (fo_s_purpose φ v) = fo_amounts φ := Eq.trans rfl rfl
theorem gs_amounts_kinds (φ : Fo) (v : AI) : fo_amounts (fo_s_kinds φ v) = fo_amounts φ := Eq.trans rfl rfl
theorem gs_amounts_firsts (φ : Fo) (v : AI) : fo_amounts (fo_s_firsts φ v) = fo_amounts φ := Eq.trans rfl rfl
theorem gs_amounts_seconds (φ : Fo) (v : AI) : fo_amounts (fo_s_seconds φ v) = fo_amounts φ := Eq.trans rfl rfl
theorem gs_amounts_families (φ : Fo) (v : AI) : fo_amounts (fo_s_families φ v) = fo_amounts φ := Eq.trans rfl rfl
theorem gs_amounts_depths (φ : Fo) (v : AI) : fo_amounts (fo_s_depths φ v) = fo_amounts φ := Eq.trans rfl rfl
theorem gs_amounts_amounts (φ : Fo) (v : AI) : fo_amounts (fo_s_amounts φ v) = v := Eq.trans rfl rfl
theorem gs_amounts_tips (φ : Fo) (v : AI) : fo_amounts (fo_s_tips φ v) = fo_amounts φ := Eq.trans rfl rfl
theorem gs_amounts_bundled (φ : Fo) (v : AI) : fo_amounts (fo_s_bundled φ v) = fo_amounts φ := Eq.trans rfl rfl
theorem gs_tips_commits (φ : Fo) (v : Int32) : fo_tips (fo_s_commits φ v) = fo_tips φ := Eq.trans rfl rfl
theorem gs_tips_branches (φ : Fo) (v : Int32) : fo_tips (fo_s_branches φ v) = fo_tips φ := Eq.trans rfl rfl
theorem gs_tips_purpose (φ : Fo) (v : Int32) : fo_tips (fo_s_purpose φ v) = fo_tips φ := Eq.trans rfl rfl
theorem gs_tips_kinds (φ : Fo) (v : AI) : fo_tips (fo_s_kinds φ v) = fo_tips φ := Eq.trans rfl rfl
theorem gs_tips_firsts (φ : Fo) (v : AI) : fo_tips (fo_s_firsts φ v) = fo_tips φ := Eq.trans rfl rfl
theorem gs_tips_seconds (φ : Fo) (v : AI) : fo_tips (fo_s_seconds φ v) = fo_tips φ := Eq.trans rfl rfl
theorem gs_tips_families (φ : Fo) (v : AI) : fo_tips (fo_s_families φ v) = fo_tips φ := Eq.trans rfl rfl
theorem gs_tips_depths (φ : Fo) (v : AI) : fo_tips (fo_s_depths φ v) = fo_tips φ := Eq.trans rfl rfl
theorem gs_tips_amounts (φ : Fo) (v : AI) : fo_tips (fo_s_amounts φ v) = fo_tips φ := Eq.trans rfl rfl
theorem gs_tips_tips (φ : Fo) (v : AI) : fo_tips (fo_s_tips φ v) = v := Eq.trans rfl rfl
theorem gs_tips_bundled (φ : Fo) (v : AI) : fo_tips (fo_s_bundled φ v) = fo_tips φ := Eq.trans rfl rfl
theorem gs_bundled_commits (φ : Fo) (v : Int32) : fo_bundled (fo_s_commits φ v) = fo_bundled φ := Eq.trans rfl rfl
theorem gs_bundled_branches (φ : Fo) (v : Int32) : fo_bundled (fo_s_branches φ v) = fo_bundled φ := Eq.trans rfl rfl
theorem gs_bundled_purpose (φ : Fo) (v : Int32) : fo_bundled (fo_s_purpose φ v) = fo_bundled φ := Eq.trans rfl rfl
theorem gs_bundled_kinds (φ : Fo) (v : AI) : fo_bundled (fo_s_kinds φ v) = fo_bundled φ := Eq.trans rfl rfl
theorem gs_bundled_firsts (φ : Fo) (v : AI) : fo_bundled (fo_s_firsts φ v) = fo_bundled φ := Eq.trans rfl rfl
theorem gs_bundled_seconds (φ : Fo) (v : AI) : fo_bundled (fo_s_seconds φ v) = fo_bundled φ := Eq.trans rfl rfl
theorem gs_bundled_families (φ : Fo) (v : AI) : fo_bundled (fo_s_families φ v) = fo_bundled φ := Eq.trans rfl rfl
theorem gs_bundled_depths (φ : Fo) (v : AI) : fo_bundled (fo_s_depths φ v) = fo_bundled φ := Eq.trans rfl rfl
theorem gs_bundled_amounts (φ : Fo) (v : AI) : fo_bundled (fo_s_amounts φ v) = fo_bundled φ := Eq.trans rfl rfl
theorem gs_bundled_tips (φ : Fo) (v : AI) : fo_bundled (fo_s_tips φ v) = fo_bundled φ := Eq.trans rfl rfl
theorem gs_bundled_bundled (φ : Fo) (v : AI) : fo_bundled (fo_s_bundled φ v) = v := Eq.trans rfl rfl
theorem gss_amounts (φ : Fo) (v w : AI) : fo_s_amounts (fo_s_amounts φ v) w = fo_s_amounts φ w := Eq.trans rfl rfl
section MD5
variable {S : SS} {N : AI} {φ : Fo} {i j k n kd : Nat} {sc : Option Nat} {f : Nat → Nat} {row : AI}
theorem oF_up {g : Nat → Nat} {c v : Nat} {o : Option Nat} (h : ∀ i, o = some i → i ≠ c) : oF (upN g c v) o = oF g o := by
  cases o with
  | none => rfl
  | some i => exact upN_n g v (h i rfl)
theorem oD_up {g : Nat → Nat} {c v : Nat} {o : Option Nat} (h : ∀ i, o = some i → i ≠ c) : oD (upN g c v) o = oD g o := by
  cases o with
  | none => rfl
  | some i => show upN g c v i + 1 = g i + 1; rw [upN_n g v (h i rfl)]
theorem addS_wf (h : WF S) (hj : j < s_b S) (hc : s_c S < 24) (hk : kd < 3) (hsc : ∀ i, sc = some i → i < s_c S) (hf : ∀ k, k < 6 → f k ≤ 99) (hu : kd = 0 → unl f (s_am S (s_tp S j)) = 1) : WF (addS S j kd sc f) := by
  have h1 := h.c1
  have ht := h.tp hj
  refine ⟨⟨by show 1 ≤ s_c S + 1; omega, by show s_c S + 1 ≤ 24; omega, h.1.2.2.1, h.1.2.2.2.1, h.1.2.2.2.2.1, ?_, ?_, ?_⟩, fun i hi => ?_, fun i hi => ?_, fun p i hp hi => ?_⟩
  · exact (upN_n _ _ (by omega)).trans h.1.2.2.2.2.2.1
  · exact (upN_n _ _ (by omega)).trans h.1.2.2.2.2.2.2.1
  · exact (upN_n _ _ (by omega)).trans h.1.2.2.2.2.2.2.2
  · have hi : i < s_c S + 1 := hi
    by_cases e : i = s_c S
    · subst e
      refine ⟨?_, fun _ => ⟨s_tp S j, upN_s _ _ _, ht, fun q => ?_⟩, fun u hu => ?_, ?_, ?_, fun k hk => ?_⟩
      · show upN (s_kd S) (s_c S) kd (s_c S) < 3
        rw [upN_s]; exact hk
      · show unl (upN (s_am S) (s_c S) f (s_c S)) (upN (s_am S) (s_c S) f (s_tp S j)) = 1
        rw [upN_s, upN_n _ _ (by omega)]
        exact hu ((upN_s (s_kd S) (s_c S) kd).symm.trans q)
      · exact hsc u ((upN_s (s_sc S) (s_c S) sc).symm.trans hu)
      · show upN (s_fa S) (s_c S) _ (s_c S) = 2 ^ s_c S ||| (oF (upN (s_fa S) (s_c S) _) (upN (s_fs S) (s_c S) _ (s_c S)) ||| oF (upN (s_fa S) (s_c S) _) (upN (s_sc S) (s_c S) sc (s_c S)))
        rw [upN_s, upN_s, upN_s, oF_up (fun i q => by cases q; omega), oF_up (fun i q => by have := hsc i q; omega)]; rfl
      · show upN (s_dp S) (s_c S) _ (s_c S) = max (oD (upN (s_dp S) (s_c S) _) (upN (s_fs S) (s_c S) _ (s_c S))) (oD (upN (s_dp S) (s_c S) _) (upN (s_sc S) (s_c S) sc (s_c S)))
        rw [upN_s, upN_s, upN_s, oD_up (fun i q => by cases q; omega), oD_up (fun i q => by have := hsc i q; omega)]; rfl
      · show upN (s_am S) (s_c S) f (s_c S) k ≤ 99
        rw [upN_s]; exact hf k hk
    · have hi2 : i < s_c S := by omega
      obtain ⟨a1, a2, a3, a4, a5, a6⟩ := h.2.1 i hi2
      refine ⟨?_, fun h0 => ?_, fun u hu => ?_, ?_, ?_, fun k hk => ?_⟩
      · show upN (s_kd S) (s_c S) kd i < 3
        rw [upN_n _ _ e]; exact a1
      · obtain ⟨u, b1, b2, b3⟩ := a2 h0
        refine ⟨u, (upN_n _ _ e).trans b1, b2, fun q => ?_⟩
        show unl (upN (s_am S) (s_c S) f i) (upN (s_am S) (s_c S) f u) = 1
        rw [upN_n _ _ e, upN_n _ _ (by omega)]
        exact b3 ((upN_n (s_kd S) kd e).symm.trans q)
      · exact a3 u ((upN_n (s_sc S) sc e).symm.trans hu)
      · show upN (s_fa S) (s_c S) _ i = 2 ^ i ||| (oF (upN (s_fa S) (s_c S) _) (upN (s_fs S) (s_c S) _ i) ||| oF (upN (s_fa S) (s_c S) _) (upN (s_sc S) (s_c S) sc i))
        rw [upN_n _ _ e, upN_n _ _ e, upN_n _ _ e, oF_up (fun u q => by have := h.fslt hi2 q; omega), oF_up (fun u q => by have := a3 u q; omega)]; exact a4
      · show upN (s_dp S) (s_c S) _ i = max (oD (upN (s_dp S) (s_c S) _) (upN (s_fs S) (s_c S) _ i)) (oD (upN (s_dp S) (s_c S) _) (upN (s_sc S) (s_c S) sc i))
        rw [upN_n _ _ e, upN_n _ _ e, upN_n _ _ e, oD_up (fun u q => by have := h.fslt hi2 q; omega), oD_up (fun u q => by have := a3 u q; omega)]; exact a5
      · show upN (s_am S) (s_c S) f i k ≤ 99
        rw [upN_n _ _ e]; exact a6 k hk
  · show upN (s_tp S) j (s_c S) i < s_c S + 1
    by_cases e : i = j
    · rw [e, upN_s]; omega
    · rw [upN_n _ _ e]; have := h.tp (show i < s_b S from hi); omega
  · have := h.2.2.2 p i hp hi
    show i < s_c S + 1
    omega
theorem L124_step {x1 x2 x3 : Int32} {c : Nat} (hc : c < 24) (hk : k < 6) : f1_addCommit_L124 x1 x2 x3 row (n + 1) (nI c) (nI k) φ = f1_addCommit_L124 x1 x2 x3 row n (nI c) (nI (k + 1)) (fo_s_amounts φ (upd (fo_amounts φ) (c * 6 + k) (row k))) := by
  rw [f1_addCommit_L124, if_neg (by rw [nJ_le (by omega) (by omega)]; omega), nJ_inb (by omega), if_pos (by simp; omega), nJ_mul, nI_add, nJ_inb (by omega), if_pos (by simp; omega), nJ_nat (by omega), nJ_nat (by omega), nI_add]
  rfl
theorem f1_familyOf_c {x : Int32} {φ' : Fo} (h : fo_families φ' = fo_families φ) : f1_familyOf x φ' = f1_familyOf x φ := by unfold f1_familyOf; rw [h]
theorem f1_depthOf_c {x : Int32} {φ' : Fo} (h : fo_depths φ' = fo_depths φ) : f1_depthOf x φ' = f1_depthOf x φ := by unfold f1_depthOf; rw [h]
theorem f1_familyOf_o (h : WF S) (hF : RF φ S) (hsc : ∀ i, sc = some i → i < s_c S) : f1_familyOf (oI sc) φ = some (nI (oF (s_fa S) sc)) := by
  cases sc with
  | none => exact f1_familyOf_m
  | some i => exact f1_familyOf_e h hF (hsc i rfl)
theorem upd_s (f : AI) (k : Nat) (x : Int32) : upd f k x k = x := if_pos rfl
theorem upd_n (f : AI) {k j : Nat} (x : Int32) (h : j ≠ k) : upd f k x j = f j := if_neg h
theorem dep_max (h : WF S) (hF : RF φ S) (hi : i < s_c S) (hsc : ∀ i, sc = some i → i < s_c S) : ∃ d, f1_depthOf (oI sc) φ = some d ∧ nI 1 + (if nI (s_dp S i) < d then d else nI (s_dp S i)) = nI (max (s_dp S i + 1) (oD (s_dp S) sc)) := by
  have hc := h.c24
  have h1 := h.dp i hi
  cases sc with
  | none =>
    refine ⟨-1, f1_depthOf_m, ?_⟩
    rw [if_neg (fun q => by
      have h2 := Int32.lt_iff_toInt_lt.mp q
      rw [nI_toInt (by omega)] at h2
      have h3 : ((-1 : Int32)).toInt = -1 := rfl
      omega), nI_add]
    congr 1
    show 1 + s_dp S i = max (s_dp S i + 1) 0
    omega
  | some u =>
    have h2 := h.dp u (hsc u rfl)
    have hu := hsc u rfl
    refine ⟨nI (s_dp S u), f1_depthOf_e h hF (hsc u rfl), ?_⟩
    have e : (if nI (s_dp S i) < nI (s_dp S u) then nI (s_dp S u) else nI (s_dp S i)) = nI (max (s_dp S i) (s_dp S u)) := by
      by_cases q : s_dp S i < s_dp S u
      · rw [if_pos (by rw [nJ_lt (by omega) (by omega)]; exact q), Nat.max_eq_right (by omega)]
      · rw [if_neg (by rw [nJ_lt (by omega) (by omega)]; exact q), Nat.max_eq_left (by omega)]
    rw [e, nI_add]
    congr 1
    show 1 + max (s_dp S i) (s_dp S u) = max (s_dp S i + 1) (s_dp S u + 1)
    omega
theorem am6_s {A : AI} {c : Nat} (hk : k < 6) : am6 A c row (c * 6 + k) = row k := by
  rcases (show k = 0 ∨ k = 1 ∨ k = 2 ∨ k = 3 ∨ k = 4 ∨ k = 5 by omega) with rfl | rfl | rfl | rfl | rfl | rfl <;> simp [am6, upd]
theorem am6_n {A : AI} {c i : Nat} (hk : k < 6) (hi : i < c) : am6 A c row (i * 6 + k) = A (i * 6 + k) := by
  unfold am6
  rw [upd_n _ _ (by omega), upd_n _ _ (by omega), upd_n _ _ (by omega), upd_n _ _ (by omega), upd_n _ _ (by omega), upd_n _ _ (by omega)]
theorem L124_all {c j : Nat} {x2 x3 : Int32} (hc : c < 24) (hj : j < 5) : f1_addCommit_L124 (nI j) x2 x3 row fuel (nI c) (nI 0) φ = some (nI c, fo_s_commits (fo_s_tips (fo_s_amounts φ (am6 (fo_amounts φ) c row)) (upd (fo_tips φ) j (nI c))) (fo_commits φ + nI 1)) := by
  rw [show fuel = 1993 + 1 + 1 + 1 + 1 + 1 + 1 + 1 from rfl]
  rw [L124_step hc (by omega), L124_step hc (by omega), L124_step hc (by omega), L124_step hc (by omega), L124_step hc (by omega), L124_step hc (by omega)]
  simp only [gss_amounts, gs_amounts_amounts]
  rw [f1_addCommit_L124, if_pos (by decide), nJ_inb (by omega), if_pos (by simp; omega), nJ_nat (by omega)]
  simp only [lt, gs_tips_amounts, gs_commits_tips, gs_commits_amounts, Nat.reduceAdd, am6]
end MD5
section MD5b
variable {S : SS} {N : AI} {φ : Fo} {i j k n kd : Nat} {sc : Option Nat} {f : Nat → Nat} {row : AI}
theorem lt_eq {α β : Type} (a : α) (f : α → β) : lt a f = f a := Eq.trans rfl rfl
theorem some_pair {a : Int32} {ψ : Fo} {res : Option (Int32 × Fo)} (h : some (a, ψ) = res) : ∃ φ', res = some (a, φ') ∧ φ' = ψ := ⟨ψ, h.symm, rfl⟩
theorem f1_addCommit_e (h : WF S) (hF : RF φ S) (hj : j < s_b S) (hc : s_c S < 24) (hsc : ∀ i, sc = some i → i < s_c S) (hrow : ∀ k, k < 6 → row k = nI (f k)) : ∃ φ', f1_addCommit (nI j) (nI kd) (oI sc) φ row = some (nI (s_c S), φ') ∧ RF φ' (addS S j kd sc f) := by
  have hb := h.b5
  have ht := h.tp hj
  obtain ⟨d, hd1, hd2⟩ := dep_max h hF ht hsc
  have hin : inb (nI (s_c S)) 24 = true := by rw [nJ_inb (by omega)]; exact decide_eq_true hc
  have hinj : inb (nI j) 5 = true := by rw [nJ_inb (by omega)]; exact decide_eq_true (by omega)
  have hib : inb (nI j) (s_b S) = true := by rw [nJ_inb (by omega)]; exact decide_eq_true hj
  have hnc : (nI (s_c S)).toNatClampNeg = s_c S := nJ_nat (by omega)
  have hnj : (nI j).toNatClampNeg = j := nJ_nat (by omega)
  have hor : nI (2 ^ s_c S) ||| nI (s_fa S (s_tp S j)) ||| nI (oF (s_fa S) sc) = nI (2 ^ s_c S ||| (s_fa S (s_tp S j) ||| oF (s_fa S) sc)) := by rw [nJ_or, nJ_or, Nat.or_assoc]
  generalize hres : f1_addCommit (nI j) (nI kd) (oI sc) φ row = res
  unfold f1_addCommit at hres
  rw [hF.1.1, if_neg (by rw [nJ_lt0 (by omega)]; exact fun h => h), if_neg (by rw [nJ_le (by omega) (by omega)]; omega), f1_isBranch_e h hF, Option.bind_some, hib, if_neg (by decide), hinj, if_pos rfl, hin] at hres
  simp only [lt_eq, if_true, eq_self, f8_setOf_e hc, Option.bind_some, hnc, hnj, hF.2.2.1 j hj] at hres
  rw [f1_familyOf_c (φ := φ) (x := nI (s_tp S j)) (by simp only [gs_families_seconds, gs_families_firsts, gs_families_kinds])] at hres
  rw [f1_familyOf_e h hF ht, Option.bind_some, f1_familyOf_c (φ := φ) (x := oI sc) (by simp only [gs_families_seconds, gs_families_firsts, gs_families_kinds]), f1_familyOf_o h hF hsc, Option.bind_some] at hres
  rw [f1_depthOf_c (φ := φ) (x := nI (s_tp S j)) (by simp only [gs_depths_families, gs_depths_seconds, gs_depths_firsts, gs_depths_kinds]), f1_depthOf_e h hF ht, Option.bind_some, f1_depthOf_c (φ := φ) (x := oI sc) (by simp only [gs_depths_families, gs_depths_seconds, gs_depths_firsts, gs_depths_kinds]), hd1, Option.bind_some, hd2, hor, L124_all hc (by omega)] at hres
  simp only [gs_commits_commits, gs_commits_branches, gs_commits_purpose, gs_commits_kinds, gs_commits_firsts, gs_commits_seconds, gs_commits_families, gs_commits_depths, gs_commits_amounts, gs_commits_tips, gs_commits_bundled, gs_branches_commits, gs_branches_branches, gs_branches_purpose, gs_branches_kinds, gs_branches_firsts, gs_branches_seconds, gs_branches_families, gs_branches_depths, gs_branches_amounts, gs_branches_tips, gs_branches_bundled, gs_purpose_commits, gs_purpose_branches, gs_purpose_purpose, gs_purpose_kinds, gs_purpose_firsts, gs_purpose_seconds, gs_purpose_families, gs_purpose_depths, gs_purpose_amounts, gs_purpose_tips, gs_purpose_bundled, gs_kinds_commits, gs_kinds_branches, gs_kinds_purpose, gs_kinds_kinds, gs_kinds_firsts, gs_kinds_seconds, gs_kinds_families, gs_kinds_depths, gs_kinds_amounts, gs_kinds_tips, gs_kinds_bundled, gs_firsts_commits, gs_firsts_branches, gs_firsts_purpose, gs_firsts_kinds, gs_firsts_firsts, gs_firsts_seconds, gs_firsts_families, gs_firsts_depths, gs_firsts_amounts, gs_firsts_tips, gs_firsts_bundled, gs_seconds_commits, gs_seconds_branches, gs_seconds_purpose, gs_seconds_kinds, gs_seconds_firsts, gs_seconds_seconds, gs_seconds_families, gs_seconds_depths, gs_seconds_amounts, gs_seconds_tips, gs_seconds_bundled, gs_families_commits, gs_families_branches, gs_families_purpose, gs_families_kinds, gs_families_firsts, gs_families_seconds, gs_families_families, gs_families_depths, gs_families_amounts, gs_families_tips, gs_families_bundled, gs_depths_commits, gs_depths_branches, gs_depths_purpose, gs_depths_kinds, gs_depths_firsts, gs_depths_seconds, gs_depths_families, gs_depths_depths, gs_depths_amounts, gs_depths_tips, gs_depths_bundled, gs_amounts_commits, gs_amounts_branches, gs_amounts_purpose, gs_amounts_kinds, gs_amounts_firsts, gs_amounts_seconds, gs_amounts_families, gs_amounts_depths, gs_amounts_amounts, gs_amounts_tips, gs_amounts_bundled, gs_tips_commits, gs_tips_branches, gs_tips_purpose, gs_tips_kinds, gs_tips_firsts, gs_tips_seconds, gs_tips_families, gs_tips_depths, gs_tips_amounts, gs_tips_tips, gs_tips_bundled, gs_bundled_commits, gs_bundled_branches, gs_bundled_purpose, gs_bundled_kinds, gs_bundled_firsts, gs_bundled_seconds, gs_bundled_families, gs_bundled_depths, gs_bundled_amounts, gs_bundled_tips, gs_bundled_bundled] at hres
  obtain ⟨φ', h3, h4⟩ := some_pair hres
  refine ⟨φ', h3, ?_⟩
  clear h3 hres
  unfold RF
  rw [h4]
  clear h4
  simp only [gs_commits_commits, gs_commits_branches, gs_commits_purpose, gs_commits_kinds, gs_commits_firsts, gs_commits_seconds, gs_commits_families, gs_commits_depths, gs_commits_amounts, gs_commits_tips, gs_commits_bundled, gs_branches_commits, gs_branches_branches, gs_branches_purpose, gs_branches_kinds, gs_branches_firsts, gs_branches_seconds, gs_branches_families, gs_branches_depths, gs_branches_amounts, gs_branches_tips, gs_branches_bundled, gs_purpose_commits, gs_purpose_branches, gs_purpose_purpose, gs_purpose_kinds, gs_purpose_firsts, gs_purpose_seconds, gs_purpose_families, gs_purpose_depths, gs_purpose_amounts, gs_purpose_tips, gs_purpose_bundled, gs_kinds_commits, gs_kinds_branches, gs_kinds_purpose, gs_kinds_kinds, gs_kinds_firsts, gs_kinds_seconds, gs_kinds_families, gs_kinds_depths, gs_kinds_amounts, gs_kinds_tips, gs_kinds_bundled, gs_firsts_commits, gs_firsts_branches, gs_firsts_purpose, gs_firsts_kinds, gs_firsts_firsts, gs_firsts_seconds, gs_firsts_families, gs_firsts_depths, gs_firsts_amounts, gs_firsts_tips, gs_firsts_bundled, gs_seconds_commits, gs_seconds_branches, gs_seconds_purpose, gs_seconds_kinds, gs_seconds_firsts, gs_seconds_seconds, gs_seconds_families, gs_seconds_depths, gs_seconds_amounts, gs_seconds_tips, gs_seconds_bundled, gs_families_commits, gs_families_branches, gs_families_purpose, gs_families_kinds, gs_families_firsts, gs_families_seconds, gs_families_families, gs_families_depths, gs_families_amounts, gs_families_tips, gs_families_bundled, gs_depths_commits, gs_depths_branches, gs_depths_purpose, gs_depths_kinds, gs_depths_firsts, gs_depths_seconds, gs_depths_families, gs_depths_depths, gs_depths_amounts, gs_depths_tips, gs_depths_bundled, gs_amounts_commits, gs_amounts_branches, gs_amounts_purpose, gs_amounts_kinds, gs_amounts_firsts, gs_amounts_seconds, gs_amounts_families, gs_amounts_depths, gs_amounts_amounts, gs_amounts_tips, gs_amounts_bundled, gs_tips_commits, gs_tips_branches, gs_tips_purpose, gs_tips_kinds, gs_tips_firsts, gs_tips_seconds, gs_tips_families, gs_tips_depths, gs_tips_amounts, gs_tips_tips, gs_tips_bundled, gs_bundled_commits, gs_bundled_branches, gs_bundled_purpose, gs_bundled_kinds, gs_bundled_firsts, gs_bundled_seconds, gs_bundled_families, gs_bundled_depths, gs_bundled_amounts, gs_bundled_tips, gs_bundled_bundled]
  refine ⟨⟨?_, hF.1.2.1, hF.1.2.2⟩, hF.2.1, fun i hi => ?_, fun i hi => ?_⟩
  · show fo_commits φ + nI 1 = nI (s_c S + 1)
    rw [hF.1.1, nI_add]
  · show upd (fo_tips φ) j (nI (s_c S)) i = nI (upN (s_tp S) j (s_c S) i)
    by_cases e : i = j
    · rw [e, upd_s, upN_s]
    · rw [upd_n _ _ e, upN_n _ _ e]; exact hF.2.2.1 i hi
  · have hi : i < s_c S + 1 := hi
    by_cases e : i = s_c S
    · subst e
      refine ⟨?_, ?_, ?_, ?_, ?_, fun k hk => ?_⟩
      · exact (upd_s _ _ _).trans (congrArg nI (upN_s (s_kd S) _ _).symm)
      · exact (upd_s _ _ _).trans (congrArg oI (upN_s (s_fs S) (s_c S) (some (s_tp S j))).symm)
      · exact (upd_s _ _ _).trans (congrArg oI (upN_s (s_sc S) _ _).symm)
      · exact (upd_s _ _ _).trans (congrArg nI (upN_s (s_fa S) _ _).symm)
      · exact (upd_s _ _ _).trans (congrArg nI (upN_s (s_dp S) _ _).symm)
      · exact (am6_s hk).trans ((hrow k hk).trans (congrArg nI (congrFun (upN_s (s_am S) (s_c S) f).symm k)))
    · obtain ⟨a1, a2, a3, a4, a5, a6⟩ := hF.2.2.2 i (by omega)
      refine ⟨?_, ?_, ?_, ?_, ?_, fun k hk => ?_⟩
      · exact (upd_n _ _ e).trans (a1.trans (congrArg nI (upN_n (s_kd S) _ e).symm))
      · exact (upd_n _ _ e).trans (a2.trans (congrArg oI (upN_n (s_fs S) _ e).symm))
      · exact (upd_n _ _ e).trans (a3.trans (congrArg oI (upN_n (s_sc S) _ e).symm))
      · exact (upd_n _ _ e).trans (a4.trans (congrArg nI (upN_n (s_fa S) _ e).symm))
      · exact (upd_n _ _ e).trans (a5.trans (congrArg nI (upN_n (s_dp S) _ e).symm))
      · exact (am6_n hk (by omega)).trans ((a6 k hk).trans (congrArg nI (congrFun (upN_n (s_am S) f e).symm k)))
end MD5b
/-! the reference's small changes -/
section MG
variable {S : SS} {N : AI} {φ : Fo} {i j k n kd : Nat} {sc : Option Nat} {f g : Nat → Nat} {row : AI}
theorem bnd {α β : Type} (a : α) (f : α → Option β) : (some a).bind f = f a := Eq.trans rfl rfl
theorem inb_t {a n : Nat} (h : a < n) (hn : n < 2 ^ 31) : inb (nI a) n = true := by rw [nJ_inb (by omega)]; exact decide_eq_true h
theorem addS_c : s_c (addS S j kd sc f) = s_c S + 1 := Eq.trans rfl rfl
theorem addS_b : s_b (addS S j kd sc f) = s_b S := Eq.trans rfl rfl
/-- what the reference holds of the new commit, up to its first m amounts -/
def CM (N M : AI) (c tp m : Nat) (kd sc : Int32) (f : Nat → Nat) : Prop := (∀ i, 1 ≤ i → i < 12 + 9 * c → M i = N i) ∧ M 0 = nI (c + 1) ∧ M (12 + 9 * c) = kd ∧ M (12 + 9 * c + 1) = nI tp ∧ M (12 + 9 * c + 2) = sc ∧ ∀ k, k < m → M (12 + 9 * c + 3 + k) = nI (f k)
theorem CM_step {M : AI} {c tp m : Nat} {a b : Int32} (h : CM N M c tp m a b f) (hm : m < 6) : CM N (upd M (12 + 9 * c + 3 + m) (nI (f m))) c tp (m + 1) a b f := by
  obtain ⟨h1, h2, h3, h4, h5, h6⟩ := h
  refine ⟨fun i a b => ?_, ?_, ?_, ?_, ?_, fun k hk => ?_⟩
  · rw [upd_n _ _ (by omega)]; exact h1 i a b
  · rw [upd_n _ _ (by omega)]; exact h2
  · rw [upd_n _ _ (by omega)]; exact h3
  · rw [upd_n _ _ (by omega)]; exact h4
  · rw [upd_n _ _ (by omega)]; exact h5
  · by_cases e : k = m
    · rw [e, upd_s]
    · rw [upd_n _ _ (by omega)]; exact h6 k (by omega)
theorem comes_L66 (h : WF S) (hN : RN N S) (hj : j < s_b S) (hc : s_c S < 24) {x2 x3 a b : Int32} : ∀ (d k n : Nat) (M : AI), k + d = 6 → d < n → CM N M (s_c S) (s_tp S j) k a b (s_am S (s_tp S j)) → ∃ M', f9_comes_L66 (nI j) x2 x3 n (nI (s_c S)) (nI k) M = some (nI (s_c S), upd M' (7 + j) (nI (s_c S))) ∧ CM N M' (s_c S) (s_tp S j) 6 a b (s_am S (s_tp S j)) := by
  have hb := h.b5
  have ht := h.tp hj
  intro d
  induction d with
  | zero =>
    intro k n M hk hn hM
    obtain ⟨n, rfl⟩ : ∃ n', n = n' + 1 := ⟨n - 1, by omega⟩
    have : k = 6 := by omega
    subst this
    refine ⟨M, ?_, hM⟩
    rw [f9_comes_L66, if_pos (by rw [nJ_le (by omega) (by omega)]; omega), nI_add, inb_t (by omega) (by omega), if_pos rfl, lt_eq, nJ_nat (by omega)]
  | succ d ih =>
    intro k n M hk hn hM
    obtain ⟨n, rfl⟩ : ∃ n', n = n' + 1 := ⟨n - 1, by omega⟩
    have e1 : f9_top (nI j) M = some (nI (s_tp S j)) := by
      unfold f9_top
      rw [nI_add, inb_t (by omega) (by omega), if_pos rfl, nJ_nat (by omega), hM.1 _ (by omega) (by omega), hN.2.2.1 j hj]
    have e2 : f9_has (nI (s_tp S j)) (nI k) M = some (nI (s_am S (s_tp S j) k)) := by
      unfold f9_has
      rw [nI_add, f9_of_e (by omega) (by omega), show 12 + 9 * s_tp S j + (3 + k) = 12 + 9 * s_tp S j + 3 + k by omega, hM.1 _ (by omega) (by omega), (hN.2.2.2 _ ht).2.2.2 k (by omega)]; rfl
    obtain ⟨M', q1, q2⟩ := ih (k + 1) n _ (by omega) (by omega) (CM_step hM (show k < 6 by omega))
    refine ⟨M', ?_, q2⟩
    rw [f9_comes_L66, if_neg (by rw [nJ_le (by omega) (by omega)]; omega), e1, Option.bind_some, e2, Option.bind_some, nJ_mul, nI_add, nI_add, nI_add, inb_t (by omega) (by omega), if_pos rfl, lt_eq, nJ_nat (by omega), nI_add]
    exact q1
theorem CM_rn (h : WF S) (hN : RN N S) (hj : j < s_b S) (hc : s_c S < 24) {M : AI} (hM : CM N M (s_c S) (s_tp S j) 6 (nI kd) (oI sc) f) : RN (upd M (7 + j) (nI (s_c S))) (addS S j kd sc f) := by
  have hb := h.b5
  obtain ⟨h1, h2, h3, h4, h5, h6⟩ := hM
  refine ⟨⟨?_, ?_, ?_⟩, fun p hp => ?_, fun i hi => ?_, fun i hi => ?_⟩
  · rw [upd_n _ _ (by omega)]; exact h2
  · rw [upd_n _ _ (by omega), h1 _ (by omega) (by omega)]; exact hN.1.2.1
  · rw [upd_n _ _ (by omega), h1 _ (by omega) (by omega)]; exact hN.1.2.2
  · rw [upd_n _ _ (by omega), h1 _ (by omega) (by omega)]; exact hN.2.1 p hp
  · have hi : i < s_b S := hi
    show _ = nI (upN (s_tp S) j (s_c S) i)
    by_cases e : i = j
    · rw [e, upd_s, upN_s]
    · rw [upd_n _ _ (by omega), upN_n _ _ e, h1 _ (by omega) (by omega)]; exact hN.2.2.1 i hi
  · have hi : i < s_c S + 1 := hi
    show _ = nI (upN (s_kd S) (s_c S) kd i) ∧ _ = oI (upN (s_fs S) (s_c S) (some (s_tp S j)) i) ∧ _ = oI (upN (s_sc S) (s_c S) sc i) ∧ ∀ k, k < 6 → _ = nI (upN (s_am S) (s_c S) f i k)
    by_cases e : i = s_c S
    · subst e
      rw [upN_s, upN_s, upN_s, upN_s]
      refine ⟨?_, ?_, ?_, fun k hk => ?_⟩
      · rw [upd_n _ _ (by omega)]; exact h3
      · rw [upd_n _ _ (by omega)]; exact h4
      · rw [upd_n _ _ (by omega)]; exact h5
      · rw [upd_n _ _ (by omega)]; exact h6 k hk
    · rw [upN_n _ _ e, upN_n _ _ e, upN_n _ _ e, upN_n _ _ e]
      obtain ⟨a1, a2, a3, a4⟩ := hN.2.2.2 i (by omega)
      refine ⟨?_, ?_, ?_, fun k hk => ?_⟩
      · rw [upd_n _ _ (by omega), h1 _ (by omega) (by omega)]; exact a1
      · rw [upd_n _ _ (by omega), h1 _ (by omega) (by omega)]; exact a2
      · rw [upd_n _ _ (by omega), h1 _ (by omega) (by omega)]; exact a3
      · rw [upd_n _ _ (by omega), h1 _ (by omega) (by omega)]; exact a4 k hk
theorem f9_comes_e (h : WF S) (hN : RN N S) (hj : j < s_b S) (hc : s_c S < 24) : ∃ N', f9_comes (nI j) (nI kd) (oI sc) N = some (nI (s_c S), N') ∧ RN N' (addS S j kd sc (s_am S (s_tp S j))) := by
  have hb := h.b5
  have hM : CM N (upd (upd (upd (upd N 0 (nI (s_c S + 1))) (12 + 9 * s_c S) (nI kd)) (12 + 9 * s_c S + 1) (nI (s_tp S j))) (12 + 9 * s_c S + 2) (oI sc)) (s_c S) (s_tp S j) 0 (nI kd) (oI sc) (s_am S (s_tp S j)) := by
    refine ⟨fun i a b => ?_, ?_, ?_, ?_, ?_, fun k hk => absurd hk (by omega)⟩
    · rw [upd_n _ _ (by omega), upd_n _ _ (by omega), upd_n _ _ (by omega), upd_n _ _ (by omega)]
    · rw [upd_n _ _ (by omega), upd_n _ _ (by omega), upd_n _ _ (by omega), upd_s]
    · rw [upd_n _ _ (by omega), upd_n _ _ (by omega), upd_s]
    · rw [upd_n _ _ (by omega), upd_s]
    · rw [upd_s]
  obtain ⟨M', q1, q2⟩ := comes_L66 h hN hj hc (x2 := nI kd) (x3 := oI sc) 6 0 fuel _ (by omega) (by unfold fuel; omega) hM
  refine ⟨_, ?_, CM_rn h hN hj hc q2⟩
  have e1 : f9_top (nI j) (upd (upd N 0 (nI (s_c S + 1))) (12 + 9 * s_c S) (nI kd)) = some (nI (s_tp S j)) := by
    unfold f9_top
    rw [nI_add, inb_t (by omega) (by omega), if_pos rfl, nJ_nat (by omega), upd_n _ _ (by omega), upd_n _ _ (by omega), hN.2.2.1 j hj]
  unfold f9_comes
  rw [lt_eq, show (nI 0).toNatClampNeg = 0 from rfl, hN.1.1, nJ_mul, nI_add, nI_add, nI_add, nI_add, inb_t (by omega) (by omega), if_pos rfl, lt_eq, nJ_nat (by omega), e1, Option.bind_some, inb_t (by omega) (by omega), if_pos rfl, lt_eq, nJ_nat (by omega), inb_t (by omega) (by omega), if_pos rfl, lt_eq, nJ_nat (by omega)]
  exact q1
/-- one amount of the newest commit is written anew -/
theorem RN_set (hN : RN N (addS S j kd sc f)) (hb : s_b S ≤ 5) (hk : k < 6) {v : Nat} : RN (upd N (12 + 9 * s_c S + 3 + k) (nI v)) (addS S j kd sc (upN f k v)) := by
  obtain ⟨⟨h0, h1, h2⟩, h3, h4, h5⟩ := hN
  refine ⟨⟨?_, ?_, ?_⟩, fun p hp => ?_, fun i hi => ?_, fun i hi => ?_⟩
  · rw [upd_n _ _ (by omega)]; exact h0
  · rw [upd_n _ _ (by omega)]; exact h1
  · rw [upd_n _ _ (by omega)]; exact h2
  · rw [upd_n _ _ (by omega)]; exact h3 p hp
  · have hi2 : i < s_b S := hi
    rw [upd_n _ _ (by omega)]; exact h4 i hi
  · obtain ⟨a1, a2, a3, a4⟩ := h5 i hi
    have hi : i < s_c S + 1 := hi
    refine ⟨?_, ?_, ?_, fun q hq => ?_⟩
    · rw [upd_n _ _ (by omega)]; exact a1
    · rw [upd_n _ _ (by omega)]; exact a2
    · rw [upd_n _ _ (by omega)]; exact a3
    · show _ = nI (upN (s_am S) (s_c S) (upN f k v) i q)
      have a5 : N (12 + 9 * i + 3 + q) = nI (upN (s_am S) (s_c S) f i q) := a4 q hq
      by_cases e : i = s_c S
      · subst e
        rw [upN_s] at a5 ⊢
        by_cases e2 : q = k
        · rw [e2, upd_s, upN_s]
        · rw [upd_n _ _ (by omega), upN_n _ _ e2]; exact a5
      · rw [upN_n _ _ e] at a5 ⊢
        rw [upd_n _ _ (by omega)]; exact a5
theorem RN_am (hN : RN N (addS S j kd sc f)) (hfg : ∀ k, k < 6 → f k = g k) : RN N (addS S j kd sc g) := by
  obtain ⟨h0, h3, h4, h5⟩ := hN
  refine ⟨h0, h3, h4, fun i hi => ?_⟩
  obtain ⟨a1, a2, a3, a4⟩ := h5 i hi
  refine ⟨a1, a2, a3, fun q hq => ?_⟩
  have a5 : N (12 + 9 * i + 3 + q) = nI (upN (s_am S) (s_c S) f i q) := a4 q hq
  show _ = nI (upN (s_am S) (s_c S) g i q)
  by_cases e : i = s_c S
  · subst e; rw [upN_s] at a5 ⊢; rw [a5, hfg q hq]
  · rw [upN_n _ _ e] at a5 ⊢; exact a5
theorem lays_L2 (hc : s_c S < 24) (hb : s_b S ≤ 5) {x1 : Int32} {M : AI} (hm : ∀ k, k < 6 → M k = nI (g k)) : ∀ (d k n : Nat) (N : AI) (f : Nat → Nat), k + d = 6 → d < n → (∀ q, q < k → f q = g q) → RN N (addS S j kd sc f) → ∃ N', f9_lays_L2 (nI (s_c S)) M n (nI k) N = some N' ∧ RN N' (addS S j kd sc g) := by
  intro d
  induction d with
  | zero =>
    intro k n N f hk hn hf hN
    obtain ⟨n, rfl⟩ : ∃ n', n = n' + 1 := ⟨n - 1, by omega⟩
    have : k = 6 := by omega
    subst this
    refine ⟨N, ?_, RN_am hN hf⟩
    rw [f9_lays_L2, if_pos (by rw [nJ_le (by omega) (by omega)]; omega)]
  | succ d ih =>
    intro k n N f hk hn hf hN
    obtain ⟨n, rfl⟩ : ∃ n', n = n' + 1 := ⟨n - 1, by omega⟩
    obtain ⟨N', q1, q2⟩ := ih (k + 1) n _ (upN f k (g k)) (by omega) (by omega) (fun q hq => by
      by_cases e : q = k
      · rw [e, upN_s]
      · rw [upN_n _ _ e]; exact hf q (by omega)) (RN_set hN hb (show k < 6 by omega) (v := g k))
    refine ⟨N', ?_, q2⟩
    rw [f9_lays_L2, if_neg (by rw [nJ_le (by omega) (by omega)]; omega), inb_t (by omega) (by omega), if_pos rfl, nJ_mul, nI_add, nI_add, nI_add, inb_t (by omega) (by omega), if_pos rfl, lt_eq, nJ_nat (by omega), nJ_nat (by omega), hm k (by omega), nI_add]
    exact q1
theorem f9_lays_e (hc : s_c S < 24) (hb : s_b S ≤ 5) {M : AI} (hm : ∀ k, k < 6 → M k = nI (g k)) (hN : RN N (addS S j kd sc f)) : ∃ N', f9_lays (nI (s_c S)) N M = some N' ∧ RN N' (addS S j kd sc g) := by
  obtain ⟨N', q1, q2⟩ := lays_L2 (x1 := 0) hc hb hm 6 0 fuel N f (by omega) (by unfold fuel; omega) (fun q hq => absurd hq (by omega)) hN
  exact ⟨N', q1, q2⟩
end MG
