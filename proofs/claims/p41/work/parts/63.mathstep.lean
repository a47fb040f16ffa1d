/-! branches, tips and the bundle -/
def forkS (S : SS) (j : Nat) : SS := ((s_c S, s_b S + 1, s_pu S), s_kd S, s_fs S, s_sc S, s_fa S, s_dp S, s_am S, upN (s_tp S) (s_b S) (s_tp S j), s_bu S)
def moveS (S : SS) (j c : Nat) : SS := ((s_c S, s_b S, s_pu S), s_kd S, s_fs S, s_sc S, s_fa S, s_dp S, s_am S, upN (s_tp S) j c, s_bu S)
def bundS (S : SS) (k : Nat) : SS := ((s_c S, s_b S, nI k), s_kd S, s_fs S, s_sc S, s_fa S, s_dp S, s_am S, s_tp S, fun _ => none)
def putS (S : SS) (p i : Nat) : SS := ((s_c S, s_b S, s_pu S), s_kd S, s_fs S, s_sc S, s_fa S, s_dp S, s_am S, s_tp S, upN (s_bu S) p (some i))
section MH
variable {S : SS} {N : AI} {φ : Fo} {x : Int32} {i j k c p n kd : Nat} {sc : Option Nat} {f g : Nat → Nat} {row : AI}
theorem forkS_wf (h : WF S) (hj : j < s_b S) (hb : s_b S < 5) : WF (forkS S j) := by
  refine ⟨⟨h.1.1, h.1.2.1, show 1 ≤ s_b S + 1 by omega, show s_b S + 1 ≤ 5 by omega, h.1.2.2.2.2.1, h.1.2.2.2.2.2⟩, h.2.1, fun q hq => ?_, h.2.2.2⟩
  have hq : q < s_b S + 1 := hq
  show upN (s_tp S) (s_b S) (s_tp S j) q < s_c S
  by_cases e : q = s_b S
  · rw [e, upN_s]; exact h.tp hj
  · rw [upN_n _ _ e]; exact h.tp (by omega)
theorem moveS_wf (h : WF S) (hj : j < s_b S) (hc : c < s_c S) : WF (moveS S j c) := by
  refine ⟨h.1, h.2.1, fun q hq => ?_, h.2.2.2⟩
  show upN (s_tp S) j c q < s_c S
  by_cases e : q = j
  · rw [e, upN_s]; exact hc
  · rw [upN_n _ _ e]; exact h.tp hq
theorem bundS_wf (h : WF S) (hk : k < 3) : WF (bundS S k) :=
  ⟨⟨h.1.1, h.1.2.1, h.1.2.2.1, h.1.2.2.2.1, Or.inr ⟨k, hk, rfl⟩, h.1.2.2.2.2.2⟩, h.2.1, h.2.2.1, fun q u _ hu => by cases (show (none : Option Nat) = some u from hu)⟩
theorem putS_wf (h : WF S) (hi : i < s_c S) : WF (putS S p i) := by
  refine ⟨h.1, h.2.1, h.2.2.1, fun q u hq hu => ?_⟩
  have hu : upN (s_bu S) p (some i) q = some u := hu
  show u < s_c S
  by_cases e : q = p
  · rw [e, upN_s] at hu; cases hu; exact hi
  · rw [upN_n _ _ e] at hu; exact h.2.2.2 q u hq hu
/-! the same on the other side -/
theorem f1_addBranch_e (h : WF S) (hF : RF φ S) (hj : j < s_b S) (hb : s_b S < 5) : ∃ φ', f1_addBranch (nI (s_tp S j)) φ = some (nI (s_b S), φ') ∧ RF φ' (forkS S j) := by
  have h1 := h.b1
  generalize hres : f1_addBranch (nI (s_tp S j)) φ = res
  unfold f1_addBranch at hres
  rw [hF.1.2.1, if_neg (by rw [nJ_lt0 (by omega)]; exact fun h => h), if_pos (by rw [nJ_lt (by omega) (by omega)]; omega), inb_t (by omega) (by omega), if_pos rfl, lt_eq, lt_eq, nJ_nat (by omega), gs_branches_tips, hF.1.2.1, nI_add] at hres
  obtain ⟨φ', h3, h4⟩ := some_pair hres
  refine ⟨φ', h3, ?_⟩
  clear h3 hres
  unfold RF
  rw [h4]
  simp only [gs_commits_branches, gs_commits_tips, gs_branches_branches, gs_purpose_branches, gs_purpose_tips, gs_kinds_branches, gs_kinds_tips, gs_firsts_branches, gs_firsts_tips, gs_seconds_branches, gs_seconds_tips, gs_families_branches, gs_families_tips, gs_depths_branches, gs_depths_tips, gs_amounts_branches, gs_amounts_tips, gs_tips_branches, gs_tips_tips, gs_bundled_branches, gs_bundled_tips]
  refine ⟨⟨hF.1.1, rfl, hF.1.2.2⟩, hF.2.1, fun q hq => ?_, hF.2.2.2⟩
  have hq : q < s_b S + 1 := hq
  show _ = nI (upN (s_tp S) (s_b S) (s_tp S j) q)
  by_cases e : q = s_b S
  · rw [e, upd_s, upN_s]
  · rw [upd_n _ _ e, upN_n _ _ e]; exact hF.2.2.1 q (by omega)
theorem some_one {ψ : Fo} {res : Option Fo} (h : some ψ = res) : ∃ φ', res = some φ' ∧ φ' = ψ := ⟨ψ, h.symm, rfl⟩
theorem f1_moveTip_e (h : WF S) (hF : RF φ S) (hj : j < s_b S) : ∃ φ', f1_moveTip (nI j) (nI c) φ = some φ' ∧ RF φ' (moveS S j c) := by
  have h1 := h.b5
  generalize hres : f1_moveTip (nI j) (nI c) φ = res
  unfold f1_moveTip at hres
  rw [f1_isBranch_e h hF, Option.bind_some, inb_t hj (by omega), if_neg (by decide), inb_t (by omega) (by omega), if_pos rfl, lt_eq, nJ_nat (by omega)] at hres
  obtain ⟨φ', h3, h4⟩ := some_one hres
  refine ⟨φ', h3, ?_⟩
  clear h3 hres
  unfold RF
  rw [h4]
  simp only [gs_commits_tips, gs_branches_tips, gs_purpose_tips, gs_kinds_tips, gs_firsts_tips, gs_seconds_tips, gs_families_tips, gs_depths_tips, gs_amounts_tips, gs_tips_tips, gs_bundled_tips]
  refine ⟨hF.1, hF.2.1, fun q hq => ?_, hF.2.2.2⟩
  show _ = nI (upN (s_tp S) j c q)
  by_cases e : q = j
  · rw [e, upd_s, upN_s]
  · rw [upd_n _ _ e, upN_n _ _ e]; exact hF.2.2.1 q hq
theorem f1_fillPlace_e (hF : RF φ S) (hp : p < 4) : ∃ φ', f1_fillPlace (nI p) (nI i) φ = some φ' ∧ RF φ' (putS S p i) := by
  generalize hres : f1_fillPlace (nI p) (nI i) φ = res
  unfold f1_fillPlace at hres
  rw [if_neg (by rw [nJ_lt0 (by omega)]; exact fun h => h), if_neg (by rw [nJ_le (by omega) (by omega)]; omega), inb_t hp (by omega), if_pos rfl, lt_eq, nJ_nat (by omega)] at hres
  obtain ⟨φ', h3, h4⟩ := some_one hres
  refine ⟨φ', h3, ?_⟩
  clear h3 hres
  unfold RF
  rw [h4]
  simp only [gs_commits_bundled, gs_branches_bundled, gs_purpose_bundled, gs_kinds_bundled, gs_firsts_bundled, gs_seconds_bundled, gs_families_bundled, gs_depths_bundled, gs_amounts_bundled, gs_tips_bundled, gs_bundled_bundled]
  refine ⟨hF.1, fun q hq => ?_, hF.2.2⟩
  show _ = oI (upN (s_bu S) p (some i) q)
  by_cases e : q = p
  · rw [e, upd_s, upN_s]; rfl
  · rw [upd_n _ _ e, upN_n _ _ e]; exact hF.2.1 q hq
theorem gss_bundled (φ : Fo) (v w : AI) : fo_s_bundled (fo_s_bundled φ v) w = fo_s_bundled φ w := Eq.trans rfl rfl
theorem f1_takeBundle_e (hF : RF φ S) (hk : k < 3) : ∃ φ', f1_takeBundle (nI k) φ = some φ' ∧ RF φ' (bundS S k) := by
  generalize hres : f1_takeBundle (nI k) φ = res
  unfold f1_takeBundle at hres
  have step (q n : Nat) (ψ : Fo) (hq : q < 4) : f1_takeBundle_L7 (nI k) (n + 1) (nI q) ψ = f1_takeBundle_L7 (nI k) n (nI (q + 1)) (fo_s_bundled ψ (upd (fo_bundled ψ) q (-1))) := by
    rw [f1_takeBundle_L7, if_neg (by rw [nJ_le (by omega) (by omega)]; omega), inb_t (by omega) (by omega), if_pos rfl, lt_eq, nJ_nat (by omega), nI_add]
  rw [lt_eq, show fuel = 1995 + 1 + 1 + 1 + 1 + 1 from rfl, step 0 _ _ (by omega), step 1 _ _ (by omega), step 2 _ _ (by omega), step 3 _ _ (by omega), f1_takeBundle_L7, if_pos (by decide)] at hres
  simp only [gss_bundled, gs_bundled_bundled, gs_bundled_purpose] at hres
  obtain ⟨φ', h3, h4⟩ := some_one hres
  refine ⟨φ', h3, ?_⟩
  clear h3 hres
  unfold RF
  rw [h4]
  simp only [gs_commits_bundled, gs_branches_bundled, gs_purpose_bundled, gs_kinds_bundled, gs_firsts_bundled, gs_seconds_bundled, gs_families_bundled, gs_depths_bundled, gs_amounts_bundled, gs_tips_bundled, gs_bundled_bundled, gs_commits_purpose, gs_branches_purpose, gs_purpose_purpose, gs_kinds_purpose, gs_firsts_purpose, gs_seconds_purpose, gs_families_purpose, gs_depths_purpose, gs_amounts_purpose, gs_tips_purpose, gs_bundled_purpose]
  refine ⟨⟨hF.1.1, hF.1.2.1, rfl⟩, fun q hq => ?_, hF.2.2⟩
  show _ = (-1 : Int32)
  rcases (show q = 0 ∨ q = 1 ∨ q = 2 ∨ q = 3 by omega) with rfl | rfl | rfl | rfl <;> simp [upd]
def bn (o : Option Nat) : Nat := match o with | none => 0 | some _ => 1
def bcn (S : SS) : Nat := bn (s_bu S 0) + bn (s_bu S 1) + bn (s_bu S 2) + bn (s_bu S 3)
theorem bc_step (h : WF S) (hF : RF φ S) (hp : p < 4) {m : Nat} : f1_bundledCount_L4 φ (n + 1) (nI m) (nI p) = f1_bundledCount_L4 φ n (nI (m + bn (s_bu S p))) (nI (p + 1)) := by
  rw [f1_bundledCount_L4, if_neg (by rw [nJ_le (by omega) (by omega)]; omega), inb_t (by omega) (by omega), if_pos rfl, nJ_nat (by omega), hF.2.1 p hp, nI_add, nI_add]
  cases e : s_bu S p with
  | none => rw [if_pos (by rfl)]; rfl
  | some u =>
    have := h.2.2.2 p u hp e; have := h.c24
    rw [if_neg (by show ¬ nI u = -1; rw [nJ_eqm (by omega)]; exact fun q => q)]; rfl
theorem f1_bundledCount_e (h : WF S) (hF : RF φ S) : f1_bundledCount φ = some (nI (bcn S)) := by
  unfold f1_bundledCount
  rw [show fuel = 1995 + 1 + 1 + 1 + 1 + 1 from rfl, bc_step h hF (by omega), bc_step h hF (by omega), bc_step h hF (by omega), bc_step h hF (by omega), f1_bundledCount_L4, if_pos (by decide)]
  unfold bcn
  simp only [Nat.zero_add, Nat.reduceAdd]
theorem ib_step (h : WF S) (hN : RN N S) (hp : p < 4) {m : Nat} : f9_inBundle_L4 N (n + 1) (nI m) (nI p) = f9_inBundle_L4 N n (nI (m + bn (s_bu S p))) (nI (p + 1)) := by
  rw [f9_inBundle_L4, if_neg (by rw [nJ_le (by omega) (by omega)]; omega), nI_add, inb_t (by omega) (by omega), if_pos rfl, nJ_nat (by omega), hN.2.1 p hp, nI_add, nI_add]
  cases e : s_bu S p with
  | none => rw [if_pos (by show nI 0 ≤ 0; decide)]; rfl
  | some u =>
    have := h.2.2.2 p u hp e; have := h.c24
    rw [if_neg (by show ¬ nI (u + 1) ≤ 0; rw [nJ_le0 (by omega)]; omega)]; rfl
theorem f9_inBundle_e (h : WF S) (hN : RN N S) : f9_inBundle N = some (nI (bcn S)) := by
  unfold f9_inBundle
  rw [show fuel = 1995 + 1 + 1 + 1 + 1 + 1 from rfl, ib_step h hN (by omega), ib_step h hN (by omega), ib_step h hN (by omega), ib_step h hN (by omega), f9_inBundle_L4, if_pos (by decide)]
  unfold bcn
  simp only [Nat.zero_add, Nat.reduceAdd]
/-- the row of amounts with one otherwise -/
theorem f5_change_L (h : WF S) (hF : RF φ S) (hi : i < s_c S) (hk : k < 6) {v : Nat} : ∀ (d q n : Nat) (row : AI), q + d = 6 → d < n → (∀ u, u < q → row u = nI (upN (s_am S i) k v u)) → ∃ row', f5_change_L3 (nI i) (nI k) (nI v) φ n (nI q) row = some row' ∧ ∀ u, u < 6 → row' u = nI (upN (s_am S i) k v u) := by
  have hc := h.c24
  intro d
  induction d with
  | zero =>
    intro q n row hq hn hr
    obtain ⟨n, rfl⟩ : ∃ n', n = n' + 1 := ⟨n - 1, by omega⟩
    have : q = 6 := by omega
    subst this
    exact ⟨row, by rw [f5_change_L3, if_pos (by rw [nJ_le (by omega) (by omega)]; omega)], hr⟩
  | succ d ih =>
    intro q n row hq hn hr
    obtain ⟨n, rfl⟩ : ∃ n', n = n' + 1 := ⟨n - 1, by omega⟩
    have ext : ∀ (w : Int32), w = nI (upN (s_am S i) k v q) → ∀ u, u < q + 1 → upd row q w u = nI (upN (s_am S i) k v u) := by
      intro w hw u hu
      by_cases e : u = q
      · rw [e, upd_s, hw]
      · rw [upd_n _ _ e]; exact hr u (by omega)
    rw [f5_change_L3, if_neg (by rw [nJ_le (by omega) (by omega)]; omega)]
    by_cases e : q = k
    · subst e
      rw [if_pos rfl, inb_t hk (by omega), if_pos rfl, lt_eq, nJ_nat (by omega), nI_add]
      exact ih (q + 1) n _ (by omega) (by omega) (ext _ (by rw [upN_s]))
    · rw [if_neg (by rw [nJ_eq (by omega) (by omega)]; exact e), f1_amountIn_e h hF hi (by omega), Option.bind_some, inb_t (by omega) (by omega), if_pos rfl, lt_eq, nJ_nat (by omega), nI_add]
      exact ih (q + 1) n _ (by omega) (by omega) (ext _ (by rw [upN_n _ _ e]))
theorem f5_change_e (h : WF S) (hF : RF φ S) (hi : i < s_c S) (hk : k < 6) {v : Nat} : ∃ row', f5_change (nI i) (nI k) (nI v) row φ = some row' ∧ ∀ u, u < 6 → row' u = nI (upN (s_am S i) k v u) :=
  f5_change_L h hF hi hk 6 0 fuel row (by omega) (by unfold fuel; omega) (fun u hu => absurd hu (by omega))
def eq6 (f g : Nat → Nat) : Bool := decide (f 0 = g 0 ∧ f 1 = g 1 ∧ f 2 = g 2 ∧ f 3 = g 3 ∧ f 4 = g 4 ∧ f 5 = g 5)
theorem eq6_t (h : ∀ k, k < 6 → f k = g k) : eq6 f g = true := decide_eq_true ⟨h 0 (by omega), h 1 (by omega), h 2 (by omega), h 3 (by omega), h 4 (by omega), h 5 (by omega)⟩
theorem eq6_f (hk : k < 6) (h : f k ≠ g k) : eq6 f g = false := decide_eq_false (fun ⟨a, b, c, d, e, r⟩ => by
  rcases (show k = 0 ∨ k = 1 ∨ k = 2 ∨ k = 3 ∨ k = 4 ∨ k = 5 by omega) with rfl | rfl | rfl | rfl | rfl | rfl
  · exact h a
  · exact h b
  · exact h c
  · exact h d
  · exact h e
  · exact h r)
theorem f5_isRowOf_L (h : WF S) (hF : RF φ S) (hi : i < s_c S) (hr : ∀ u, u < 6 → row u = nI (f u)) (hf : ∀ u, u < 6 → f u ≤ 99) : ∀ (d q n : Nat), q + d = 6 → d < n → (∀ u, u < q → f u = s_am S i u) → f5_isRowOf_L2 (nI i) row φ n (nI q) = some (eq6 f (s_am S i)) := by
  have hc := h.c24
  intro d
  induction d with
  | zero =>
    intro q n hq hn hs
    obtain ⟨n, rfl⟩ : ∃ n', n = n' + 1 := ⟨n - 1, by omega⟩
    have : q = 6 := by omega
    subst this
    rw [f5_isRowOf_L2, if_pos (by rw [nJ_le (by omega) (by omega)]; omega), eq6_t hs]
  | succ d ih =>
    intro q n hq hn hs
    obtain ⟨n, rfl⟩ : ∃ n', n = n' + 1 := ⟨n - 1, by omega⟩
    have h1 := hf q (by omega); have h2 := h.am hi (show q < 6 by omega)
    rw [f5_isRowOf_L2, if_neg (by rw [nJ_le (by omega) (by omega)]; omega), inb_t (by omega) (by omega), if_pos rfl, f1_amountIn_e h hF hi (by omega), Option.bind_some, nJ_nat (by omega), hr q (by omega), nI_add]
    by_cases e : f q = s_am S i q
    · rw [if_pos (by rw [e])]
      exact ih (q + 1) n (by omega) (by omega) (fun u hu => by
        by_cases e2 : u = q
        · rw [e2]; exact e
        · exact hs u (by omega))
    · rw [if_neg (by rw [nJ_eq (by omega) (by omega)]; exact e), eq6_f (show q < 6 by omega) e]
theorem f5_isRowOf_e (h : WF S) (hF : RF φ S) (hi : i < s_c S) (hr : ∀ u, u < 6 → row u = nI (f u)) (hf : ∀ u, u < 6 → f u ≤ 99) : f5_isRowOf (nI i) row φ = some (eq6 f (s_am S i)) :=
  f5_isRowOf_L h hF hi hr hf 6 0 fuel (by omega) (by unfold fuel; omega) (fun u hu => absurd hu (by omega))
theorem unl_up {v : Nat} (hk : k < 6) (hv : v ≠ g k) : unl (upN g k v) g = 1 := by
  have d1 : df1 v (g k) = 1 := if_neg hv
  have d0 : ∀ a : Nat, df1 a a = 0 := fun a => if_pos rfl
  have e : ∀ q, df1 (upN g k v q) (g q) = if q = k then 1 else 0 := by
    intro q
    by_cases e : q = k
    · rw [if_pos e, e, upN_s, d1]
    · rw [if_neg e, upN_n _ _ e, d0]
  unfold unl
  rw [e, e, e, e, e, e]
  rcases (show k = 0 ∨ k = 1 ∨ k = 2 ∨ k = 3 ∨ k = 4 ∨ k = 5 by omega) with rfl | rfl | rfl | rfl | rfl | rfl <;> rfl
end MH
/-! both sides do the same change -/
def RE (rs dt rs9 dt9 : Int32) : Prop := (rs = -1 ∧ rs9 = 0) ∨ ∃ w, 1 ≤ w ∧ w ≤ 11 ∧ rs = nI w ∧ rs9 = nI w ∧ dt = dt9
def OKR (φ : Fo) (N : AI) (r : Int32) (φ' : Fo) (is : Int32) (N' : AI) (an : Int32) : Prop :=
  (∃ a S', WF S' ∧ RF φ' S' ∧ RN N' S' ∧ a < 2 ^ 31 ∧ r = nI a ∧ is = nI 0 ∧ an = nI a) ∨ (φ' = φ ∧ N' = N ∧ ((r = -1 ∧ is = nI 1) ∨ (r = -2 ∧ is = nI 2) ∨ (r = -3 ∧ is = nI 3)))
def OKQ (φ : Fo) (N : AI) (r : Int32) (φ' : Fo) (is : Int32) (N' : AI) (an : Int32) : Prop :=
  (∃ a S', WF S' ∧ RF φ' S' ∧ RN N' S' ∧ a < 2 ^ 31 ∧ r = nI a ∧ is = nI 0 ∧ an = nI a) ∨ (φ' = φ ∧ N' = N ∧ ((r = -1 ∧ is = nI 1) ∨ (r = -3 ∧ is = nI 3)))
section MI
variable {S : SS} {N : AI} {φ : Fo} {x x1 x2 x3 rs dt rs9 dt9 an9 cc lo cc9 fc9 : Int32} {i j k c p n kd : Nat} {sc : Option Nat} {f g : Nat → Nat} {row row9 : AI}
theorem RE_no {w : Nat} {d : Int32} (h : 1 ≤ w) (h2 : w ≤ 11) : RE (nI w) d (nI w) d := Or.inr ⟨w, h, h2, rfl, rfl, rfl⟩
theorem OKR_i : OKR φ N (-1) φ (nI 1) N an9 := Or.inr ⟨rfl, rfl, Or.inl ⟨rfl, rfl⟩⟩
theorem OKR_a : OKR φ N (-2) φ (nI 2) N an9 := Or.inr ⟨rfl, rfl, Or.inr (Or.inl ⟨rfl, rfl⟩)⟩
theorem OKR_r : OKR φ N (-3) φ (nI 3) N an9 := Or.inr ⟨rfl, rfl, Or.inr (Or.inr ⟨rfl, rfl⟩)⟩
theorem OKR_ok {φ' : Fo} {N' : AI} {S' : SS} {a : Nat} (h : WF S') (hF : RF φ' S') (hN : RN N' S') (ha : a < 2 ^ 31) : OKR φ N (nI a) φ' (nI 0) N' (nI a) := Or.inl ⟨a, S', h, hF, hN, ha, rfl, rfl, rfl⟩
theorem OKQ_i : OKQ φ N (-1) φ (nI 1) N an9 := Or.inr ⟨rfl, rfl, Or.inl ⟨rfl, rfl⟩⟩
theorem OKQ_r : OKQ φ N (-3) φ (nI 3) N an9 := Or.inr ⟨rfl, rfl, Or.inr ⟨rfl, rfl⟩⟩
theorem OKQ_ok {φ' : Fo} {N' : AI} {S' : SS} {a : Nat} (h : WF S') (hF : RF φ' S') (hN : RN N' S') (ha : a < 2 ^ 31) : OKQ φ N (nI a) φ' (nI 0) N' (nI a) := Or.inl ⟨a, S', h, hF, hN, ha, rfl, rfl, rfl⟩
theorem OKQ_R {r is : Int32} {φ' : Fo} {N' : AI} (h : OKQ φ N r φ' is N' an9) : OKR φ N r φ' is N' an9 := h.imp id (fun ⟨a, b, c⟩ => ⟨a, b, c.imp id Or.inr⟩)
theorem b2iF : b2i false = 0 := rfl
theorem b2iT : ¬ b2i true = 0 := by decide
theorem full9 (h : WF S) (hN : RN N S) : (N (nI 0).toNatClampNeg = nI 24) = (s_c S = 24) := by
  have := h.c24
  rw [show (nI 0).toNatClampNeg = 0 from rfl, hN.1.1, nJ_eq (by omega) (by omega)]
theorem edit_2 (h : WF S) (hF : RF φ S) (hN : RN N S) (hE : RE rs dt rs9 dt9) : ∃ r rs' dt' row' φ' is N' rs9' dt9' an', f0_tryEdit x1 x2 x3 rs dt row φ = some (r, rs', dt', row', φ') ∧ f9_edits x1 x2 x3 N rs9 dt9 an9 = some (is, N', rs9', dt9', an') ∧ RE rs' dt' rs9' dt9' ∧ OKR φ N r φ' is N' an' := by
  have hc := h.c24; have h5 := h.b5
  unfold f0_tryEdit f9_edits
  rw [f1_isBranch_e h hF, f9_isBranch_e h hN, Option.bind_some, Option.bind_some]
  cases hb : inb x1 (s_b S)
  · exact ⟨_, _, _, _, _, _, _, _, _, _, if_pos rfl, if_pos rfl, hE, OKR_i⟩
  obtain ⟨j, hj, -, rfl⟩ := inb_ex hb
  have ht := h.tp hj
  rw [if_neg (by decide), if_neg (by decide), f8_isIngredient_e, f9_isKind_e, Option.bind_some, Option.bind_some]
  cases hK : inb x2 6
  · exact ⟨_, _, _, _, _, _, _, _, _, _, if_pos rfl, if_pos rfl, hE, OKR_i⟩
  obtain ⟨k, hk, -, rfl⟩ := inb_ex hK
  rw [if_neg (by decide), if_neg (by decide), f8_isAmount_e, f9_in_0 (by omega), Option.bind_some, Option.bind_some]
  cases hV : inb x3 100
  · exact ⟨_, _, _, _, _, _, _, _, _, _, if_pos rfl, if_pos rfl, hE, OKR_a⟩
  obtain ⟨v, hv, -, rfl⟩ := inb_ex hV
  have ha := h.am ht hk
  rw [if_neg (by decide), if_neg (by decide), f1_tipOf_e h hF hj, f9_top_e h hN hj, Option.bind_some, Option.bind_some, f1_amountIn_e h hF ht hk, f9_has_e h hN ht hk, Option.bind_some, Option.bind_some]
  by_cases e : s_am S (s_tp S j) k = v
  · rw [if_pos (by rw [e]), if_pos (by rw [e])]
    exact ⟨_, _, _, _, _, _, _, _, _, _, rfl, rfl, RE_no (by omega) (by omega), OKR_r⟩
  rw [if_neg (by rw [nJ_eq (by omega) (by omega)]; exact e), if_neg (by rw [nJ_eq (by omega) (by omega)]; exact e), f1_isFull_e h hF, Option.bind_some]
  by_cases e2 : s_c S = 24
  · rw [decide_eq_true e2, if_neg (by decide), if_pos (by rw [full9 h hN]; exact e2)]
    exact ⟨_, _, _, _, _, _, _, _, _, _, rfl, rfl, RE_no (by omega) (by omega), OKR_r⟩
  rw [decide_eq_false e2, if_pos b2iF, if_neg (by rw [full9 h hN]; exact e2)]
  obtain ⟨row', q1, q2⟩ := f5_change_e (row := row) h hF ht hk (v := v)
  obtain ⟨φ', q3, q4⟩ := f1_addCommit_e (kd := 0) (sc := none) h hF hj (by omega) (fun i q => by cases q) q2
  obtain ⟨N', q5, q6⟩ := f9_comes_e (kd := 0) (sc := none) h hN hj (by omega)
  have q7 := RN_set q6 h5 hk (v := v)
  have q3 : f1_addCommit (nI j) (nI 0) (-1) φ row' = _ := q3
  have q5 : f9_comes (nI j) (nI 0) (-1) N = _ := q5
  rw [q1, Option.bind_some, show f5_amounts = some () from rfl, Option.bind_some, q3, Option.bind_some, q5, Option.bind_some]
  dsimp only
  rw [nJ_mul, nI_add, nI_add, nI_add, inb_t (by omega) (by omega), if_pos rfl, lt_eq, nJ_nat (by omega)]
  exact ⟨_, _, _, _, _, _, _, _, _, _, rfl, rfl, hE, OKR_ok (addS_wf h hj (by omega) (by omega) (fun i q => by cases q) (fun u hu => by
    by_cases e3 : u = k
    · rw [e3, upN_s]; omega
    · rw [upN_n _ _ e3]; exact h.am ht hu) (fun _ => unl_up hk (fun q => e q.symm))) q4 q7 (by omega)⟩
theorem fork_2 (h : WF S) (hF : RF φ S) (hN : RN N S) (hE : RE rs dt rs9 dt9) : ∃ r rs' dt' φ' is N' rs9' dt9' an', f0_tryFork x1 rs dt φ = some (r, rs', dt', φ') ∧ f9_forks x1 N rs9 dt9 an9 = some (is, N', rs9', dt9', an') ∧ RE rs' dt' rs9' dt9' ∧ OKQ φ N r φ' is N' an' := by
  have h5 := h.b5; have hc := h.c24
  unfold f0_tryFork f9_forks
  rw [f1_isBranch_e h hF, f9_isBranch_e h hN, Option.bind_some, Option.bind_some]
  cases hb : inb x1 (s_b S)
  · exact ⟨_, _, _, _, _, _, _, _, _, if_pos rfl, if_pos rfl, hE, OKQ_i⟩
  obtain ⟨j, hj, -, rfl⟩ := inb_ex hb
  have ht := h.tp hj
  rw [if_neg (by decide), if_neg (by decide), show f1_branchCount φ = some (nI (s_b S)) from congrArg some hF.1.2.1, Option.bind_some, show (nI 1).toNatClampNeg = 1 from rfl, hN.1.2.1]
  by_cases e : s_b S = 5
  · rw [if_neg (by rw [nJ_lt (by omega) (by omega)]; omega), if_pos (by rw [e])]
    exact ⟨_, _, _, _, _, _, _, _, _, rfl, rfl, RE_no (by omega) (by omega), OKQ_r⟩
  obtain ⟨φ', q1, q2⟩ := f1_addBranch_e h hF hj (by omega)
  have e1 : f9_top (nI j) (upd N 1 (nI (s_b S + 1))) = some (nI (s_tp S j)) := by
    unfold f9_top
    rw [nI_add, inb_t (by omega) (by omega), if_pos rfl, nJ_nat (by omega), upd_n _ _ (by omega), hN.2.2.1 j hj]
  rw [if_pos (by rw [nJ_lt (by omega) (by omega)]; omega), if_neg (by rw [nJ_eq (by omega) (by omega)]; exact e), f1_tipOf_e h hF hj, Option.bind_some, q1, Option.bind_some, lt_eq, nI_add, e1, Option.bind_some, nI_add, inb_t (by omega) (by omega), if_pos rfl, lt_eq, nJ_nat (by omega)]
  refine ⟨_, _, _, _, _, _, _, _, _, rfl, rfl, hE, OKQ_ok (forkS_wf h hj (by omega)) q2 ⟨⟨?_, ?_, ?_⟩, fun q hq => ?_, fun q hq => ?_, fun q hq => ?_⟩ (by omega)⟩
  · rw [upd_n _ _ (by omega), upd_n _ _ (by omega)]; exact hN.1.1
  · rw [upd_n _ _ (by omega), upd_s]; rfl
  · rw [upd_n _ _ (by omega), upd_n _ _ (by omega)]; exact hN.1.2.2
  · rw [upd_n _ _ (by omega), upd_n _ _ (by omega)]; exact hN.2.1 q hq
  · have hq : q < s_b S + 1 := hq
    show _ = nI (upN (s_tp S) (s_b S) (s_tp S j) q)
    by_cases e3 : q = s_b S
    · rw [e3, upd_s, upN_s]
    · rw [upd_n _ _ (by omega), upN_n _ _ e3, upd_n _ _ (by omega)]; exact hN.2.2.1 q (by omega)
  · obtain ⟨a1, a2, a3, a4⟩ := hN.2.2.2 q hq
    refine ⟨?_, ?_, ?_, fun u hu => ?_⟩
    · rw [upd_n _ _ (by omega), upd_n _ _ (by omega)]; exact a1
    · rw [upd_n _ _ (by omega), upd_n _ _ (by omega)]; exact a2
    · rw [upd_n _ _ (by omega), upd_n _ _ (by omega)]; exact a3
    · rw [upd_n _ _ (by omega), upd_n _ _ (by omega)]; exact a4 u hu
theorem RN_move (h : WF S) (hN : RN N S) (hj : j < s_b S) : RN (upd N (7 + j) (nI c)) (moveS S j c) := by
  have h5 := h.b5
  refine ⟨⟨?_, ?_, ?_⟩, fun q hq => ?_, fun q hq => ?_, fun q hq => ?_⟩
  · rw [upd_n _ _ (by omega)]; exact hN.1.1
  · rw [upd_n _ _ (by omega)]; exact hN.1.2.1
  · rw [upd_n _ _ (by omega)]; exact hN.1.2.2
  · rw [upd_n _ _ (by omega)]; exact hN.2.1 q hq
  · have hq : q < s_b S := hq
    show _ = nI (upN (s_tp S) j c q)
    by_cases e3 : q = j
    · rw [e3, upd_s, upN_s]
    · rw [upd_n _ _ (by omega), upN_n _ _ e3]; exact hN.2.2.1 q (by omega)
  · obtain ⟨a1, a2, a3, a4⟩ := hN.2.2.2 q hq
    refine ⟨?_, ?_, ?_, fun u hu => ?_⟩
    · rw [upd_n _ _ (by omega)]; exact a1
    · rw [upd_n _ _ (by omega)]; exact a2
    · rw [upd_n _ _ (by omega)]; exact a3
    · rw [upd_n _ _ (by omega)]; exact a4 u hu
theorem reset_2 (h : WF S) (hF : RF φ S) (hN : RN N S) (hE : RE rs dt rs9 dt9) : ∃ r rs' dt' φ' is N' rs9' dt9' an', f0_tryReset x1 x2 rs dt φ = some (r, rs', dt', φ') ∧ f9_resets x1 x2 N rs9 dt9 an9 = some (is, N', rs9', dt9', an') ∧ RE rs' dt' rs9' dt9' ∧ OKQ φ N r φ' is N' an' := by
  have h5 := h.b5; have hc := h.c24
  unfold f0_tryReset f9_resets
  rw [f1_isBranch_e h hF, f9_isBranch_e h hN, Option.bind_some, Option.bind_some]
  cases hb : inb x1 (s_b S)
  · exact ⟨_, _, _, _, _, _, _, _, _, if_pos rfl, if_pos rfl, hE, OKQ_i⟩
  obtain ⟨j, hj, -, rfl⟩ := inb_ex hb
  have ht := h.tp hj
  rw [if_neg (by decide), if_neg (by decide), f1_isCommit_e h hF, f9_isCommit_e h hN, Option.bind_some, Option.bind_some]
  cases hK : inb x2 (s_c S)
  · exact ⟨_, _, _, _, _, _, _, _, _, if_pos rfl, if_pos rfl, hE, OKQ_i⟩
  obtain ⟨c, hk, -, rfl⟩ := inb_ex hK
  rw [if_neg (by decide), if_neg (by decide), f1_tipOf_e h hF hj, f9_top_e h hN hj, Option.bind_some, Option.bind_some]
  by_cases e : s_tp S j = c
  · rw [if_pos (by rw [e]), if_pos (by rw [e]), e]
    exact ⟨_, _, _, _, _, _, _, _, _, rfl, rfl, RE_no (by omega) (by omega), OKQ_r⟩
  obtain ⟨φ', q1, q2⟩ := f1_moveTip_e (c := c) h hF hj
  rw [if_neg (by rw [nJ_eq (by omega) (by omega)]; exact e), if_neg (by rw [nJ_eq (by omega) (by omega)]; exact e), q1, Option.bind_some, Option.bind_some, nI_add, inb_t (by omega) (by omega), if_pos rfl, lt_eq, nJ_nat (by omega)]
  exact ⟨_, _, _, _, _, _, _, _, _, rfl, rfl, hE, OKQ_ok (moveS_wf h hj hk) q2 (RN_move h hN hj) (by omega)⟩
end MI
section MJ
variable {S : SS} {N : AI} {φ : Fo} {x x1 x2 x3 rs dt rs9 dt9 an9 cc lo cc9 fc9 : Int32} {i j k c p n kd a b o r : Nat} {sc : Option Nat} {f g : Nat → Nat} {row row9 : AI}
theorem mixr_le (h : WF S) (ha : a < s_c S) (hb : b < s_c S) (hk : k < 6) : mixr S a b o r k ≤ 99 := by
  have h1 := h.am ha hk; have h2 := h.am hb hk
  unfold mixr mixv rul
  split
  · exact h2
  · split
    · exact h1
    · split
      · exact h1
      · split
        · exact h2
        · split
          · omega
          · exact h1
theorem cfn_le : cfn S a b o ≤ 6 := by
  have hb : ∀ q : Bool, b2n q ≤ 1 := fun q => by cases q <;> decide
  have h0 := hb (cfs S a b o 0); have h1 := hb (cfs S a b o 1); have h2 := hb (cfs S a b o 2); have h3 := hb (cfs S a b o 3); have h4 := hb (cfs S a b o 4); have h5 := hb (cfs S a b o 5)
  unfold cfn; omega
def stp (S : SS) (a b o r : Nat) : Bool := decide (r = 0 ∧ 0 < cfn S a b o)
theorem f0_isStopped_e (hr : r < 4) : f0_isStopped (nI r) (nI (cfn S a b o)) = some (stp S a b o r) := by
  have hc := cfn_le (S := S) (a := a) (b := b) (o := o)
  unfold f0_isStopped stp
  by_cases e : r = 0
  · rw [if_pos (by rw [nJ_eq0 (by omega)]; exact e), show f5_conflictsFound (nI (cfn S a b o)) = some (nI (cfn S a b o)) from rfl, Option.bind_some]
    by_cases e2 : 0 < cfn S a b o
    · rw [if_neg (by rw [nJ_le0 (by omega)]; omega), decide_eq_true ⟨e, e2⟩]
    · rw [if_pos (by rw [nJ_le0 (by omega)]; omega), decide_eq_false (fun q => e2 q.2)]
  · rw [if_neg (by rw [nJ_eq0 (by omega)]; exact e), decide_eq_false (fun q => e q.1)]
theorem L26_step (h : WF S) (hN : RN N S) (hj : j < s_b S) (hk : k < 6) (hm : ∀ u, u < 6 → row9 u = nI (g u)) (hg : ∀ u, u < 6 → g u ≤ 99) {al : Bool} : f9_picked_L26 (nI j) x2 row9 cc9 fc9 (n + 1) (nI (b2n al)) (nI k) N rs9 dt9 an9 = f9_picked_L26 (nI j) x2 row9 cc9 fc9 n (nI (b2n (al && decide (g k = s_am S (s_tp S j) k)))) (nI (k + 1)) N rs9 dt9 an9 := by
  have ht := h.tp hj; have h1 := hg k hk; have h2 := h.am ht hk; have hc := h.c24
  rw [f9_picked_L26, if_neg (by rw [nJ_le (by omega) (by omega)]; omega), inb_t (by omega) (by omega), if_pos rfl, f9_top_e h hN hj, Option.bind_some, f9_has_e h hN ht hk, Option.bind_some, nJ_nat (by omega), hm k hk, nI_add]
  by_cases e : g k = s_am S (s_tp S j) k
  · rw [if_pos (by rw [e]), decide_eq_true e, Bool.and_true, show nI (b2n al) &&& nI 1 = nI (b2n al) by cases al <;> rfl]
  · rw [if_neg (by rw [nJ_eq (by omega) (by omega)]; exact e), decide_eq_false e, Bool.and_false, show nI (b2n al) &&& nI 0 = nI (b2n false) by cases al <;> rfl]
theorem L26_all (h : WF S) (hN : RN N S) (hj : j < s_b S) (hm : ∀ u, u < 6 → row9 u = nI (g u)) (hg : ∀ u, u < 6 → g u ≤ 99) : f9_picked_L26 (nI j) x2 row9 cc9 fc9 fuel (nI 1) (nI 0) N rs9 dt9 an9 = f9_picked_L26 (nI j) x2 row9 cc9 fc9 1994 (nI (b2n (eq6 g (s_am S (s_tp S j))))) (nI 6) N rs9 dt9 an9 := by
  rw [show fuel = 1994 + 1 + 1 + 1 + 1 + 1 + 1 from rfl, show nI 1 = nI (b2n true) from rfl, L26_step h hN hj (by omega) hm hg, L26_step h hN hj (by omega) hm hg, L26_step h hN hj (by omega) hm hg, L26_step h hN hj (by omega) hm hg, L26_step h hN hj (by omega) hm hg, L26_step h hN hj (by omega) hm hg]
  unfold eq6
  simp only [Bool.true_and, Nat.zero_add, Nat.reduceAdd, Bool.decide_and, Bool.and_assoc]
/-- the end of a merge or a pick: a new commit on both sides -/
theorem add_2 (h : WF S) (hF : RF φ S) (hN : RN N S) (hj : j < s_b S) (hc : s_c S < 24) (hk : 0 < kd) (hk3 : kd < 3) (hsc : ∀ i, sc = some i → i < s_c S) (hr : ∀ u, u < 6 → row u = nI (f u)) (hr9 : ∀ u, u < 6 → row9 u = nI (f u)) (hf : ∀ u, u < 6 → f u ≤ 99) : ∃ φ' N1 N', f1_addCommit (nI j) (nI kd) (oI sc) φ row = some (nI (s_c S), φ') ∧ f9_comes (nI j) (nI kd) (oI sc) N = some (nI (s_c S), N1) ∧ f9_lays (nI (s_c S)) N1 row9 = some N' ∧ OKR φ N (nI (s_c S)) φ' (nI 0) N' (nI (s_c S)) := by
  obtain ⟨φ', q1, q2⟩ := f1_addCommit_e (kd := kd) (sc := sc) h hF hj hc hsc hr
  obtain ⟨N1, q3, q4⟩ := f9_comes_e (kd := kd) (sc := sc) h hN hj hc
  obtain ⟨N', q5, q6⟩ := f9_lays_e hc h.b5 hr9 q4
  exact ⟨φ', N1, N', q1, q3, q5, OKR_ok (addS_wf h hj hc hk3 hsc hf (fun q => absurd q (by omega))) q2 q6 (by omega)⟩
theorem pickC_2 (h : WF S) (hF : RF φ S) (hN : RN N S) (hE : RE rs dt rs9 dt9) (hj : j < s_b S) (hb : b < s_c S) (ho : o < s_c S) (hr : r < 4) : ∃ r' rs' dt' row' cc' lo' φ' is N' rs9' dt9' an' m' c' f', f0_pickChange (nI j) (nI b) (nI o) (nI r) rs dt row cc lo φ = some (r', rs', dt', row', cc', lo', φ') ∧ ((f9_mixes (nI (s_tp S j)) (nI b) (nI o) (nI r) N row9 cc9 fc9).bind fun (w20, w21, w22) => ((f9_picked (nI j) (nI r) N rs9 dt9 an9 w20 w21 w22).bind fun (r24, w25, w26, w27, w28) => some (r24, w25, w26, w27, w28, w20, w21, w22))) = some (is, N', rs9', dt9', an', m', c', f') ∧ RE rs' dt' rs9' dt9' ∧ OKR φ N r' φ' is N' an' := by
  have ht := h.tp hj; have hc := h.c24
  obtain ⟨w, q1, q2⟩ := f5_putTogether_e (row := row) (x := cc) (y := lo) h hF ht hb ho hr
  obtain ⟨w9, q3, q4⟩ := f9_mixes_e (row := row9) (x := cc9) (y := fc9) h hN ht hb ho hr
  have hle : ∀ u, u < 6 → mixr S (s_tp S j) b o r u ≤ 99 := fun u hu => mixr_le h ht hb hu
  have hcf := cfn_le (S := S) (a := s_tp S j) (b := b) (o := o)
  unfold f0_pickChange
  rw [f1_tipOf_e h hF hj, Option.bind_some, q1, Option.bind_some, q3, Option.bind_some]
  dsimp only
  rw [f0_isStopped_e hr, Option.bind_some]
  unfold f9_picked
  rw [L26_all h hN hj q4 hle]
  cases hs : stp S (s_tp S j) b o r with
  | true =>
    obtain ⟨e1, e2⟩ := of_decide_eq_true hs
    rw [if_neg b2iT, if_neg (by rw [nJ_le0 (by omega)]; omega), if_pos (by rw [nJ_eq0 (by omega)]; exact e1)]
    exact ⟨_, _, _, _, _, _, _, _, _, _, _, _, _, _, _, rfl, rfl, RE_no (by omega) (by omega), OKR_r⟩
  | false =>
    have hs := of_decide_eq_false hs
    have e3 : (if nI (cfn S (s_tp S j) b o) ≤ 0 then f9_picked_L26 (nI j) (nI r) w9 (nI (cfn S (s_tp S j) b o)) (cfl S (s_tp S j) b o) 1994 (nI (b2n (eq6 (mixr S (s_tp S j) b o r) (s_am S (s_tp S j))))) (nI 6) N rs9 dt9 an9 else if nI r = 0 then (f9_refuses (nI 5) (cfl S (s_tp S j) b o) rs9 dt9).bind fun (r3, w4, w5) => some (r3, N, w4, w5, an9) else f9_picked_L26 (nI j) (nI r) w9 (nI (cfn S (s_tp S j) b o)) (cfl S (s_tp S j) b o) 1994 (nI (b2n (eq6 (mixr S (s_tp S j) b o r) (s_am S (s_tp S j))))) (nI 6) N rs9 dt9 an9) = f9_picked_L26 (nI j) (nI r) w9 (nI (cfn S (s_tp S j) b o)) (cfl S (s_tp S j) b o) 1994 (nI (b2n (eq6 (mixr S (s_tp S j) b o r) (s_am S (s_tp S j))))) (nI 6) N rs9 dt9 an9 := by
      by_cases e : cfn S (s_tp S j) b o = 0
      · rw [if_pos (by rw [nJ_le0 (by omega)]; exact e)]
      · rw [if_neg (by rw [nJ_le0 (by omega)]; exact e), if_neg (by rw [nJ_eq0 (by omega)]; omega)]
    rw [e3, if_pos b2iF, f5_isRowOf_e h hF ht q2 hle, Option.bind_some, show (1994 : Nat) = 1993 + 1 from rfl, f9_picked_L26, if_pos (show nI 6 ≤ nI 6 by decide)]
    cases he : eq6 (mixr S (s_tp S j) b o r) (s_am S (s_tp S j)) with
    | true =>
      rw [if_neg b2iT, if_neg (by decide), f9_top_e h hN hj]
      exact ⟨_, _, _, _, _, _, _, _, _, _, _, _, _, _, _, rfl, rfl, RE_no (by omega) (by omega), OKR_r⟩
    | false =>
      rw [if_pos b2iF, if_pos (by decide), f1_isFull_e h hF, Option.bind_some]
      by_cases e2 : s_c S = 24
      · rw [decide_eq_true e2, if_neg b2iT, if_pos (by rw [full9 h hN]; exact e2)]
        exact ⟨_, _, _, _, _, _, _, _, _, _, _, _, _, _, _, rfl, rfl, RE_no (by omega) (by omega), OKR_r⟩
      · obtain ⟨φ', N1, N', w1, w2, w3, w4⟩ := add_2 (kd := 2) (sc := none) h hF hN hj (by omega) (by omega) (by omega) (fun i q => by cases q) q2 q4 hle
        have w1 : f1_addCommit (nI j) (nI 2) (-1) φ w = _ := w1
        have w2 : f9_comes (nI j) (nI 2) (-1) N = _ := w2
        rw [decide_eq_false e2, if_pos b2iF, if_neg (by rw [full9 h hN]; exact e2), show f5_amounts = some () from rfl, Option.bind_some, w1, Option.bind_some, w2, Option.bind_some]
        dsimp only
        rw [w3, Option.bind_some]
        exact ⟨_, _, _, _, _, _, _, _, _, _, _, _, _, _, _, rfl, rfl, hE, w4⟩
theorem bind_7 {o : Option (Int32 × Int32 × Int32 × AI × Int32 × Int32 × Fo)} : (o.bind fun (r17, w18, w19, w20, w21, w22, w23) => some (r17, w18, w19, w20, w21, w22, w23)) = o := by cases o <;> rfl
theorem pick_2 (h : WF S) (hF : RF φ S) (hN : RN N S) (hE : RE rs dt rs9 dt9) : ∃ r' rs' dt' row' cc' lo' φ' is N' rs9' dt9' an' m' c' f', f0_tryPick x1 x2 x3 rs dt row cc lo φ = some (r', rs', dt', row', cc', lo', φ') ∧ f9_picks x1 x2 x3 N rs9 dt9 an9 row9 cc9 fc9 = some (is, N', rs9', dt9', an', m', c', f') ∧ RE rs' dt' rs9' dt9' ∧ OKR φ N r' φ' is N' an' := by
  have h5 := h.b5; have hc := h.c24
  unfold f0_tryPick f9_picks
  rw [f1_isBranch_e h hF, f9_isBranch_e h hN, Option.bind_some, Option.bind_some]
  cases hb : inb x1 (s_b S)
  · exact ⟨_, _, _, _, _, _, _, _, _, _, _, _, _, _, _, if_pos rfl, if_pos rfl, hE, OKR_i⟩
  obtain ⟨j, hj, -, rfl⟩ := inb_ex hb
  have ht := h.tp hj
  rw [if_neg b2iT, if_neg b2iT, f1_isCommit_e h hF, f9_isCommit_e h hN, Option.bind_some, Option.bind_some]
  cases hK : inb x2 (s_c S)
  · exact ⟨_, _, _, _, _, _, _, _, _, _, _, _, _, _, _, if_pos rfl, if_pos rfl, hE, OKR_i⟩
  obtain ⟨c, hk, -, rfl⟩ := inb_ex hK
  rw [if_neg b2iT, if_neg b2iT, f8_isRule_e, f9_in_0 (by omega), Option.bind_some, Option.bind_some]
  cases hV : inb x3 4
  · exact ⟨_, _, _, _, _, _, _, _, _, _, _, _, _, _, _, if_pos rfl, if_pos rfl, hE, OKR_a⟩
  obtain ⟨r, hr, -, rfl⟩ := inb_ex hV
  rw [if_neg b2iT, if_neg b2iT, f1_tipOf_e h hF hj, f9_top_e h hN hj, Option.bind_some, Option.bind_some, f1_hasInFamily_e h hF ht hk, f9_isWithin_e h hN ht hk, Option.bind_some, Option.bind_some]
  cases hw : (s_fa S (s_tp S j)).testBit c
  · have h0 : 0 < c := Nat.pos_of_ne_zero (fun q => by rw [q, h.root _ ht] at hw; cases hw)
    obtain ⟨q, e1, e2⟩ := h.fs hk h0
    rw [if_pos b2iF, if_pos b2iF, if_neg (by rw [nJ_eq0 (by omega)]; omega), f1_firstOf_e h hF hk, Option.bind_some, Option.bind_some, f9_fs_e h hN hk, Option.bind_some, e1, show oI (some q) = nI q from rfl, bind_7]
    exact pickC_2 h hF hN hE hj hk (by omega) hr
  · rw [if_neg b2iT, if_neg b2iT]
    exact ⟨_, _, _, _, _, _, _, _, _, _, _, _, _, _, _, rfl, rfl, RE_no (by omega) (by omega), OKR_r⟩
theorem revert_2 (h : WF S) (hF : RF φ S) (hN : RN N S) (hE : RE rs dt rs9 dt9) : ∃ r' rs' dt' row' cc' lo' φ' is N' rs9' dt9' an' m' c' f', f0_tryRevert x1 x2 x3 rs dt row cc lo φ = some (r', rs', dt', row', cc', lo', φ') ∧ f9_reverts x1 x2 x3 N rs9 dt9 an9 row9 cc9 fc9 = some (is, N', rs9', dt9', an', m', c', f') ∧ RE rs' dt' rs9' dt9' ∧ OKR φ N r' φ' is N' an' := by
  have h5 := h.b5; have hc := h.c24
  unfold f0_tryRevert f9_reverts
  rw [f1_isBranch_e h hF, f9_isBranch_e h hN, Option.bind_some, Option.bind_some]
  cases hb : inb x1 (s_b S)
  · exact ⟨_, _, _, _, _, _, _, _, _, _, _, _, _, _, _, if_pos rfl, if_pos rfl, hE, OKR_i⟩
  obtain ⟨j, hj, -, rfl⟩ := inb_ex hb
  have ht := h.tp hj
  rw [if_neg b2iT, if_neg b2iT, f1_isCommit_e h hF, f9_isCommit_e h hN, Option.bind_some, Option.bind_some]
  cases hK : inb x2 (s_c S)
  · exact ⟨_, _, _, _, _, _, _, _, _, _, _, _, _, _, _, if_pos rfl, if_pos rfl, hE, OKR_i⟩
  obtain ⟨c, hk, -, rfl⟩ := inb_ex hK
  rw [if_neg b2iT, if_neg b2iT, f8_isRule_e, f9_in_0 (by omega), Option.bind_some, Option.bind_some]
  cases hV : inb x3 4
  · exact ⟨_, _, _, _, _, _, _, _, _, _, _, _, _, _, _, if_pos rfl, if_pos rfl, hE, OKR_a⟩
  obtain ⟨r, hr, -, rfl⟩ := inb_ex hV
  rw [if_neg b2iT, if_neg b2iT, f1_firstOf_e h hF hk, Option.bind_some]
  by_cases h0 : c = 0
  · subst h0
    rw [h.1.2.2.2.2.2.1, if_pos (show oI none = -1 from rfl), if_pos (show nI 0 = 0 from rfl)]
    exact ⟨_, _, _, _, _, _, _, _, _, _, _, _, _, _, _, rfl, rfl, RE_no (by omega) (by omega), OKR_r⟩
  obtain ⟨q, e1, e2⟩ := h.fs hk (by omega)
  rw [e1, show oI (some q) = nI q from rfl, if_neg (by rw [nJ_eqm (by omega)]; exact fun w => w), if_neg (by rw [nJ_eq0 (by omega)]; exact h0), f1_tipOf_e h hF hj, f9_top_e h hN hj, Option.bind_some, Option.bind_some, f1_hasInFamily_e h hF ht hk, f9_isWithin_e h hN ht hk, Option.bind_some, Option.bind_some]
  cases hw : (s_fa S (s_tp S j)).testBit c
  · rw [if_pos b2iF, if_pos b2iF]
    exact ⟨_, _, _, _, _, _, _, _, _, _, _, _, _, _, _, rfl, rfl, RE_no (by omega) (by omega), OKR_r⟩
  · rw [if_neg b2iT, if_neg b2iT, Option.bind_some, f9_fs_e h hN hk, Option.bind_some, e1, show oI (some q) = nI q from rfl, bind_7]
    exact pickC_2 h hF hN hE hj (by omega) hk hr
theorem merge_2 (h : WF S) (hF : RF φ S) (hN : RN N S) (hE : RE rs dt rs9 dt9) : ∃ r' rs' dt' row' cc' lo' φ' is N' rs9' dt9' an' m' c' f', f0_tryMerge x1 x2 x3 rs dt row cc lo φ = some (r', rs', dt', row', cc', lo', φ') ∧ f9_merges x1 x2 x3 N rs9 dt9 an9 row9 cc9 fc9 = some (is, N', rs9', dt9', an', m', c', f') ∧ RE rs' dt' rs9' dt9' ∧ OKR φ N r' φ' is N' an' := by
  have h5 := h.b5; have hc := h.c24
  unfold f0_tryMerge f9_merges
  rw [f1_isBranch_e h hF, f9_isBranch_e h hN, Option.bind_some, Option.bind_some]
  cases hb : inb x1 (s_b S)
  · exact ⟨_, _, _, _, _, _, _, _, _, _, _, _, _, _, _, if_pos rfl, if_pos rfl, hE, OKR_i⟩
  obtain ⟨j, hj, -, rfl⟩ := inb_ex hb
  have ht := h.tp hj
  rw [if_neg b2iT, if_neg b2iT, f1_isBranch_e h hF, f9_isBranch_e h hN, Option.bind_some, Option.bind_some]
  cases hK : inb x2 (s_b S)
  · exact ⟨_, _, _, _, _, _, _, _, _, _, _, _, _, _, _, if_pos rfl, if_pos rfl, hE, OKR_i⟩
  obtain ⟨j2, hj2, -, rfl⟩ := inb_ex hK
  have ht2 := h.tp hj2
  rw [if_neg b2iT, if_neg b2iT, f8_isRule_e, f9_in_0 (by omega), Option.bind_some, Option.bind_some]
  cases hV : inb x3 4
  · exact ⟨_, _, _, _, _, _, _, _, _, _, _, _, _, _, _, if_pos rfl, if_pos rfl, hE, OKR_a⟩
  obtain ⟨r, hr, -, rfl⟩ := inb_ex hV
  rw [if_neg b2iT, if_neg b2iT, f1_tipOf_e h hF hj, f9_top_e h hN hj, Option.bind_some, Option.bind_some, f1_tipOf_e h hF hj2, f9_top_e h hN hj2, Option.bind_some, Option.bind_some, f1_hasInFamily_e h hF ht ht2, f9_isWithin_e h hN ht ht2, Option.bind_some, Option.bind_some]
  cases hw : (s_fa S (s_tp S j)).testBit (s_tp S j2)
  · rw [if_pos b2iF, if_pos b2iF, f1_hasInFamily_e h hF ht2 ht, f9_isWithin_e h hN ht2 ht, Option.bind_some, Option.bind_some]
    cases hw2 : (s_fa S (s_tp S j2)).testBit (s_tp S j)
    · have hcm := cmn_lt h ht ht2
      obtain ⟨w, q1, q2⟩ := f5_putTogether_e (row := row) (x := cc) (y := lo) h hF ht ht2 hcm hr
      obtain ⟨w9, q3, q4⟩ := f9_mixes_e (row := row9) (x := cc9) (y := fc9) h hN ht ht2 hcm hr
      have hle : ∀ u, u < 6 → mixr S (s_tp S j) (s_tp S j2) (cmn S (s_tp S j) (s_tp S j2)) r u ≤ 99 := fun u hu => mixr_le h ht ht2 hu
      have hcf := cfn_le (S := S) (a := s_tp S j) (b := s_tp S j2) (o := cmn S (s_tp S j) (s_tp S j2))
      rw [if_pos b2iF, if_pos b2iF, f1_commonGround_e h hF ht ht2, f9_common_e h hN ht ht2, Option.bind_some, Option.bind_some, q1, q3, Option.bind_some, Option.bind_some]
      dsimp only
      rw [f0_isStopped_e hr, Option.bind_some]
      cases hs : stp S (s_tp S j) (s_tp S j2) (cmn S (s_tp S j) (s_tp S j2)) r with
      | true =>
        obtain ⟨e1, e2⟩ := of_decide_eq_true hs
        rw [if_neg b2iT, if_neg (by rw [nJ_le0 (by omega)]; omega), if_pos (by rw [nJ_eq0 (by omega)]; exact e1)]
        exact ⟨_, _, _, _, _, _, _, _, _, _, _, _, _, _, _, rfl, rfl, RE_no (by omega) (by omega), OKR_r⟩
      | false =>
        have hs := of_decide_eq_false hs
        rw [if_pos b2iF, f1_isFull_e h hF, Option.bind_some]
        by_cases e2 : s_c S = 24
        · rw [decide_eq_true e2, if_neg b2iT, if_pos (show N (nI 0).toNatClampNeg = nI 24 by rw [full9 h hN]; exact e2)]
          by_cases e : cfn S (s_tp S j) (s_tp S j2) (cmn S (s_tp S j) (s_tp S j2)) = 0
          · rw [if_pos (by rw [nJ_le0 (by omega)]; exact e)]
            exact ⟨_, _, _, _, _, _, _, _, _, _, _, _, _, _, _, rfl, rfl, RE_no (by omega) (by omega), OKR_r⟩
          · rw [if_neg (by rw [nJ_le0 (by omega)]; exact e), if_neg (by rw [nJ_eq0 (by omega)]; omega)]
            exact ⟨_, _, _, _, _, _, _, _, _, _, _, _, _, _, _, rfl, rfl, RE_no (by omega) (by omega), OKR_r⟩
        · obtain ⟨φ', N1, N', w1, w2, w3, w4⟩ := add_2 (kd := 1) (sc := some (s_tp S j2)) h hF hN hj (by omega) (by omega) (by omega) (fun i q => by cases q; exact ht2) q2 q4 hle
          have w1 : f1_addCommit (nI j) (nI 1) (nI (s_tp S j2)) φ w = _ := w1
          have w2 : f9_comes (nI j) (nI 1) (nI (s_tp S j2)) N = _ := w2
          rw [decide_eq_false e2, if_pos b2iF, if_neg (show ¬ N (nI 0).toNatClampNeg = nI 24 by rw [full9 h hN]; exact e2), show f5_amounts = some () from rfl, Option.bind_some, w1, Option.bind_some, w2, Option.bind_some]
          dsimp only
          rw [w3, Option.bind_some]
          by_cases e : cfn S (s_tp S j) (s_tp S j2) (cmn S (s_tp S j) (s_tp S j2)) = 0
          · rw [if_pos (by rw [nJ_le0 (by omega)]; exact e)]
            exact ⟨_, _, _, _, _, _, _, _, _, _, _, _, _, _, _, rfl, rfl, hE, w4⟩
          · rw [if_neg (by rw [nJ_le0 (by omega)]; exact e), if_neg (by rw [nJ_eq0 (by omega)]; omega)]
            exact ⟨_, _, _, _, _, _, _, _, _, _, _, _, _, _, _, rfl, rfl, hE, w4⟩
    · obtain ⟨φ', q1, q2⟩ := f1_moveTip_e (c := s_tp S j2) h hF hj
      rw [if_neg b2iT, if_neg b2iT, q1, Option.bind_some, nI_add, inb_t (by omega) (by omega), if_pos rfl, lt_eq, nJ_nat (by omega)]
      exact ⟨_, _, _, _, _, _, _, _, _, _, _, _, _, _, _, rfl, rfl, hE, OKR_ok (moveS_wf h hj ht2) q2 (RN_move h hN hj) (by omega)⟩
  · rw [if_neg b2iT, if_neg b2iT]
    exact ⟨_, _, _, _, _, _, _, _, _, _, _, _, _, _, _, rfl, rfl, RE_no (by omega) (by omega), OKR_r⟩
end MJ
def OKP (r : Int32) (φ' : Fo) (is : Int32) (N' : AI) (an : Int32) : Prop :=
  (∃ a S', WF S' ∧ RF φ' S' ∧ RN N' S' ∧ a < 2 ^ 31 ∧ r = nI a ∧ is = nI 0 ∧ an = nI a) ∨ ((r = -1 ∧ is = nI 1) ∨ (r = -2 ∧ is = nI 2) ∨ (r = -3 ∧ is = nI 3))
section MK
variable {S : SS} {N : AI} {φ : Fo} {x x1 x2 x3 rs dt rs9 dt9 an9 cc lo cc9 fc9 : Int32} {i j k c p n kd a b o r m : Nat} {sc : Option Nat} {f g : Nat → Nat} {row row9 : AI}
theorem oI_eq {u : Option Nat} (hu : ∀ v, u = some v → v < 2 ^ 31) (hi : i < 2 ^ 31) : (oI u = nI i) = (u = some i) := by
  cases u with
  | none => exact propext ⟨fun q => by rw [show oI none = -1 from rfl, nJ_meq hi] at q; exact q.elim, fun q => by cases q⟩
  | some v =>
    have := hu v rfl
    rw [show oI (some v) = nI v from rfl, nJ_eq (by omega) (by omega)]
    exact propext ⟨fun q => by rw [q], fun q => by cases q; rfl⟩
theorem oP_eq {u : Option Nat} (hu : ∀ v, u = some v → v < 2 ^ 30) (hi : i < 2 ^ 30) : (oP u = nI (i + 1)) = (u = some i) := by
  cases u with
  | none => exact propext ⟨fun q => by rw [show oP none = nI 0 from rfl, nJ_eq (by omega) (by omega)] at q; omega, fun q => by cases q⟩
  | some v =>
    have := hu v rfl
    rw [show oP (some v) = nI (v + 1) from rfl, nJ_eq (by omega) (by omega)]
    exact propext ⟨fun q => by rw [show v = i by omega], fun q => by cases q; rfl⟩
theorem WF.bu (h : WF S) (hp : p < 4) : ∀ v, s_bu S p = some v → v < 24 := fun v q => Nat.lt_of_lt_of_le (h.2.2.2 p v hp q) h.c24
theorem plc_step (h : WF S) (hF : RF φ S) (hi : i < s_c S) (hp : p < 4) : f1_placeOf_L2 (nI i) φ (n + 1) (nI p) = if s_bu S p = some i then some (nI p) else f1_placeOf_L2 (nI i) φ n (nI (p + 1)) := by
  have hc := h.c24
  rw [f1_placeOf_L2, if_neg (by rw [nJ_le (by omega) (by omega)]; omega), inb_t hp (by omega), if_pos rfl, nJ_nat (by omega), hF.2.1 p hp, nI_add]
  simp only [oI_eq (fun v q => by have := h.bu hp v q; omega) (show i < 2 ^ 31 by omega)]
theorem plc9_step (h : WF S) (hN : RN N S) (hi : i < s_c S) (hp : p < 4) {x1 : Int32} : f9_puts_L49 x1 (nI i) (n + 1) (nI p) N rs9 dt9 an9 = if s_bu S p = some i then some (nI 3, N, nI 10, nI p, an9) else f9_puts_L49 x1 (nI i) n (nI (p + 1)) N rs9 dt9 an9 := by
  have hc := h.c24
  rw [f9_puts_L49, if_neg (by rw [nJ_le (by omega) (by omega)]; omega), nI_add, inb_t (by omega) (by omega), if_pos rfl, nJ_nat (by omega), hN.2.1 p hp, nI_add, nI_add]
  simp only [oP_eq (fun v q => by have := h.bu hp v q; omega) (show i < 2 ^ 30 by omega)]
  rfl
theorem RN_put (hb : s_b S ≤ 5) (hN : RN N S) (hp : p < 4) : RN (upd N (3 + p) (nI (i + 1))) (putS S p i) := by
  refine ⟨⟨?_, ?_, ?_⟩, fun q hq => ?_, fun q hq => ?_, fun q hq => ?_⟩
  · rw [upd_n _ _ (by omega)]; exact hN.1.1
  · rw [upd_n _ _ (by omega)]; exact hN.1.2.1
  · rw [upd_n _ _ (by omega)]; exact hN.1.2.2
  · show _ = oP (upN (s_bu S) p (some i) q)
    by_cases e3 : q = p
    · rw [e3, upd_s, upN_s]; rfl
    · rw [upd_n _ _ (by omega), upN_n _ _ e3]; exact hN.2.1 q hq
  · rw [upd_n _ _ (by omega)]; exact hN.2.2.1 q hq
  · obtain ⟨a1, a2, a3, a4⟩ := hN.2.2.2 q hq
    refine ⟨?_, ?_, ?_, fun u hu => ?_⟩
    · rw [upd_n _ _ (by omega)]; exact a1
    · rw [upd_n _ _ (by omega)]; exact a2
    · rw [upd_n _ _ (by omega)]; exact a3
    · rw [upd_n _ _ (by omega)]; exact a4 u hu
theorem bcn_le : bcn S ≤ 4 := by
  have : ∀ o, bn o ≤ 1 := fun o => by cases o <;> simp [bn]
  have := this (s_bu S 0); have := ‹∀ o, bn o ≤ 1› (s_bu S 1); have := ‹∀ o, bn o ≤ 1› (s_bu S 2); have := ‹∀ o, bn o ≤ 1› (s_bu S 3)
  unfold bcn; omega
theorem put_2 (h : WF S) (hF : RF φ S) (hN : RN N S) (hE : RE rs dt rs9 dt9) : ∃ r rs' dt' φ' is N' rs9' dt9' an', f0_tryPut x1 x2 rs dt φ = some (r, rs', dt', φ') ∧ f9_puts x1 x2 N rs9 dt9 an9 = some (is, N', rs9', dt9', an') ∧ RE rs' dt' rs9' dt9' ∧ OKQ φ N r φ' is N' an' := by
  have h5 := h.b5; have hc := h.c24
  unfold f0_tryPut f9_puts
  rw [f8_isPlace_e, f9_in_0 (by omega), Option.bind_some, Option.bind_some]
  cases hb : inb x1 4
  · exact ⟨_, _, _, _, _, _, _, _, _, if_pos rfl, if_pos rfl, hE, OKQ_i⟩
  obtain ⟨p, hp, -, rfl⟩ := inb_ex hb
  rw [if_neg b2iT, if_neg b2iT, f1_isCommit_e h hF, f9_isCommit_e h hN, Option.bind_some, Option.bind_some]
  cases hK : inb x2 (s_c S)
  · exact ⟨_, _, _, _, _, _, _, _, _, if_pos rfl, if_pos rfl, hE, OKQ_i⟩
  obtain ⟨c, hk, -, rfl⟩ := inb_ex hK
  have hkd := h.kd hk
  rw [if_neg b2iT, if_neg b2iT, show f1_bundleKind φ = some (s_pu S) from congrArg some hF.1.2.2, Option.bind_some, f9_kd_e h hN hk, Option.bind_some, show (nI 2).toNatClampNeg = 2 from rfl, hN.1.2.2]
  rcases h.1.2.2.2.2.1 with e | ⟨u, hu, e⟩
  · rw [e, if_pos rfl, if_neg (by rw [nJ_meq (by omega)]; exact fun q => q)]
    exact ⟨_, _, _, _, _, _, _, _, _, rfl, rfl, RE_no (by omega) (by omega), OKQ_r⟩
  rw [e, if_neg (by rw [nJ_eqm (by omega)]; exact fun q => q), f1_kindOf_e h hF hk, Option.bind_some]
  by_cases e2 : u = s_kd S c
  · rw [e2, if_pos rfl, if_pos rfl]
    unfold f1_placeOf
    rw [show fuel = 1995 + 1 + 1 + 1 + 1 + 1 from rfl, plc_step h hF hk (by omega), plc9_step h hN hk (by omega), plc_step h hF hk (by omega), plc9_step h hN hk (by omega), plc_step h hF hk (by omega), plc9_step h hN hk (by omega), plc_step h hF hk (by omega), plc9_step h hN hk (by omega)]
    have fin : ∀ q, q < 4 → ∃ r rs' dt' φ' is N' rs9' dt9' an', ((some (nI q)).bind fun r17 => if r17 = -1 then (f1_fillPlace (nI p) (nI c) φ).bind fun w20 => (f1_bundledCount w20).bind fun r22 => some (r22, rs, dt, w20) else (f0_refuse (nI 10) r17 rs dt).bind fun (r24, w25, w26) => some (r24, w25, w26, φ)) = some (r, rs', dt', φ') ∧ some (nI 3, N, nI 10, nI q, an9) = some (is, N', rs9', dt9', an') ∧ RE rs' dt' rs9' dt9' ∧ OKQ φ N r φ' is N' an' := by
      intro q hq
      rw [Option.bind_some, if_neg (by rw [nJ_eqm (by omega)]; exact fun q => q)]
      exact ⟨_, _, _, _, _, _, _, _, _, rfl, rfl, RE_no (by omega) (by omega), OKQ_r⟩
    by_cases b0 : s_bu S 0 = some c
    · rw [if_pos b0, if_pos b0]; exact fin 0 (by omega)
    by_cases b1 : s_bu S (0 + 1) = some c
    · rw [if_neg b0, if_neg b0, if_pos b1, if_pos b1]; exact fin 1 (by omega)
    by_cases b2 : s_bu S (0 + 1 + 1) = some c
    · rw [if_neg b0, if_neg b0, if_neg b1, if_neg b1, if_pos b2, if_pos b2]; exact fin 2 (by omega)
    by_cases b3 : s_bu S (0 + 1 + 1 + 1) = some c
    · rw [if_neg b0, if_neg b0, if_neg b1, if_neg b1, if_neg b2, if_neg b2, if_pos b3, if_pos b3]; exact fin 3 (by omega)
    obtain ⟨φ', q1, q2⟩ := f1_fillPlace_e (i := c) hF hp
    have q3 := RN_put (i := c) h5 hN hp
    have q4 := putS_wf (p := p) h hk
    have hbc := bcn_le (S := putS S p c)
    rw [if_neg b0, if_neg b0, if_neg b1, if_neg b1, if_neg b2, if_neg b2, if_neg b3, if_neg b3, f1_placeOf_L2, f9_puts_L49, if_pos (show nI 4 ≤ nI (0 + 1 + 1 + 1 + 1) by decide), if_pos (show nI 4 ≤ nI (0 + 1 + 1 + 1 + 1) by decide), Option.bind_some, if_pos rfl, q1, Option.bind_some, f1_bundledCount_e q4 q2, Option.bind_some, nI_add, inb_t (by omega) (by omega), if_pos rfl, lt_eq, nJ_nat (by omega), nI_add, f9_inBundle_e q4 q3, Option.bind_some]
    exact ⟨_, _, _, _, _, _, _, _, _, rfl, rfl, hE, OKQ_ok q4 q2 q3 (by omega)⟩
  · rw [if_neg (by rw [nJ_eq (by omega) (by omega)]; exact e2), if_neg (by rw [nJ_eq (by omega) (by omega)]; exact e2)]
    exact ⟨_, _, _, _, _, _, _, _, _, rfl, rfl, RE_no (by omega) (by omega), OKQ_r⟩
theorem play_L : ∀ (d p m n n9 : Nat) (S : SS) (φ : Fo) (N : AI) (rs dt rs9 dt9 an9 : Int32) (row row9 : AI) (cc lo cc9 fc9 : Int32), p + d = 4 → d < n → d < n9 → m ≤ p → WF S → RF φ S → RN N S → RE rs dt rs9 dt9 → ∃ r' rs' dt' row' cc' lo' φ' is N' rs9' dt9' an' m' c' f', f0_tryPlay_L52 x1 x2 n (nI m) (nI p) rs dt row cc lo φ = some (r', rs', dt', row', cc', lo', φ') ∧ f9_plays_L46 x1 x2 n9 (nI m) (nI p) N rs9 dt9 an9 row9 cc9 fc9 = some (is, N', rs9', dt9', an', m', c', f') ∧ RE rs' dt' rs9' dt9' ∧ OKP r' φ' is N' an' := by
  intro d
  induction d with
  | zero =>
    intro p m n n9 S φ N rs dt rs9 dt9 an9 row row9 cc lo cc9 fc9 hp hn hn9 hm h hF hN hE
    obtain ⟨n, rfl⟩ : ∃ n', n = n' + 1 := ⟨n - 1, by omega⟩
    obtain ⟨n9, rfl⟩ : ∃ n', n9 = n' + 1 := ⟨n9 - 1, by omega⟩
    have : p = 4 := by omega
    subst this
    rw [f0_tryPlay_L52, f9_plays_L46, if_pos (show nI 4 ≤ nI 4 by decide), if_pos (show nI 4 ≤ nI 4 by decide)]
    exact ⟨_, _, _, _, _, _, _, _, _, _, _, _, _, _, _, rfl, rfl, hE, Or.inl ⟨m, S, h, hF, hN, by omega, rfl, rfl, rfl⟩⟩
  | succ d ih =>
    intro p m n n9 S φ N rs dt rs9 dt9 an9 row row9 cc lo cc9 fc9 hp hn hn9 hm h hF hN hE
    obtain ⟨n, rfl⟩ : ∃ n', n = n' + 1 := ⟨n - 1, by omega⟩
    obtain ⟨n9, rfl⟩ : ∃ n', n9 = n' + 1 := ⟨n9 - 1, by omega⟩
    have hle : ¬ nI 4 ≤ nI p := by rw [nJ_le (by omega) (by omega)]; omega
    rw [f0_tryPlay_L52, f9_plays_L46, if_neg hle, if_neg hle, f1_bundledAt_e hF (by omega), Option.bind_some, nI_add, nI_add, nI_add, inb_t (by omega) (by omega), if_pos rfl, nJ_nat (by omega), hN.2.1 p (by omega)]
    cases hu : s_bu S p with
    | none =>
      rw [if_pos (show oI none = -1 from rfl), if_pos (show oP none = 0 from rfl)]
      exact ih (p + 1) m n n9 S φ N rs dt rs9 dt9 an9 row row9 cc lo cc9 fc9 (by omega) (by omega) (by omega) (by omega) h hF hN hE
    | some u =>
      have hu2 := h.bu (by omega) u hu
      rw [if_neg (by show ¬ nI u = -1; rw [nJ_eqm (by omega)]; exact fun q => q), if_neg (by show ¬ nI (u + 1) = 0; rw [nJ_eq0 (by omega)]; omega), if_pos rfl, show oP (some u) - nI 1 = nI u by show nI (u + 1) - nI 1 = _; rw [nJ_sub (by omega) (by omega)]; rfl, show oI (some u) = nI u from rfl]
      obtain ⟨r', rs', dt', row', cc', lo', φ', is, N', rs9', dt9', an', m', c', f', q1, q2, q3, q4⟩ := pick_2 (x1 := x1) (x2 := nI u) (x3 := x2) (an9 := an9) (row := row) (row9 := row9) (cc := cc) (lo := lo) (cc9 := cc9) (fc9 := fc9) h hF hN hE
      rw [q1, q2, Option.bind_some, Option.bind_some]
      dsimp only
      rcases q4 with ⟨a, S', w1, w2, w3, w4, w5, w6, w7⟩ | ⟨w1, w2, w3⟩
      · rw [w5, w6, if_pos (show (0 : Int32) ≤ nI a from nI_pos' w4), if_pos (show nI 0 = 0 from rfl)]
        exact ih (p + 1) (m + 1) n n9 S' φ' N' rs' dt' rs9' dt9' an' row' m' cc' lo' c' f' (by omega) (by omega) (by omega) (by omega) w1 w2 w3 q3
      · rcases w3 with ⟨e1, e2⟩ | ⟨e1, e2⟩ | ⟨e1, e2⟩
        · rw [e1, e2, if_neg (by decide), if_neg (by decide)]
          exact ⟨_, _, _, _, _, _, _, _, _, _, _, _, _, _, _, rfl, rfl, q3, Or.inr (Or.inl ⟨rfl, rfl⟩)⟩
        · rw [e1, e2, if_neg (by decide), if_neg (by decide)]
          exact ⟨_, _, _, _, _, _, _, _, _, _, _, _, _, _, _, rfl, rfl, q3, Or.inr (Or.inr (Or.inl ⟨rfl, rfl⟩))⟩
        · rw [e1, e2, if_neg (by decide), if_neg (by decide)]
          exact ⟨_, _, _, _, _, _, _, _, _, _, _, _, _, _, _, rfl, rfl, q3, Or.inr (Or.inr (Or.inr ⟨rfl, rfl⟩))⟩
theorem play_2 (h : WF S) (hF : RF φ S) (hN : RN N S) (hE : RE rs dt rs9 dt9) : ∃ r' rs' dt' row' cc' lo' φ' is N' rs9' dt9' an' m' c' f', f0_tryPlay x1 x2 rs dt row cc lo φ = some (r', rs', dt', row', cc', lo', φ') ∧ f9_plays x1 x2 N rs9 dt9 an9 row9 cc9 fc9 = some (is, N', rs9', dt9', an', m', c', f') ∧ RE rs' dt' rs9' dt9' ∧ OKP r' φ' is N' an' := by
  have hbc := bcn_le (S := S)
  unfold f0_tryPlay f9_plays
  rw [f1_isBranch_e h hF, f9_isBranch_e h hN, Option.bind_some, Option.bind_some]
  cases hb : inb x1 (s_b S)
  · exact ⟨_, _, _, _, _, _, _, _, _, _, _, _, _, _, _, if_pos rfl, if_pos rfl, hE, Or.inr (Or.inl ⟨rfl, rfl⟩)⟩
  rw [if_neg b2iT, if_neg b2iT, f8_isRule_e, f9_in_0 (by omega), Option.bind_some, Option.bind_some]
  cases hV : inb x2 4
  · exact ⟨_, _, _, _, _, _, _, _, _, _, _, _, _, _, _, if_pos rfl, if_pos rfl, hE, Or.inr (Or.inr (Or.inl ⟨rfl, rfl⟩))⟩
  rw [if_neg b2iT, if_neg b2iT, f1_bundledCount_e h hF, f9_inBundle_e h hN, Option.bind_some, Option.bind_some]
  by_cases e : bcn S = 0
  · rw [if_pos (by rw [e]; rfl), if_pos (by rw [e]; rfl), show f1_bundleKind φ = some (s_pu S) from congrArg some hF.1.2.2, show (nI 2).toNatClampNeg = 2 from rfl, hN.1.2.2]
    exact ⟨_, _, _, _, _, _, _, _, _, _, _, _, _, _, _, rfl, rfl, RE_no (by omega) (by omega), Or.inr (Or.inr (Or.inr ⟨rfl, rfl⟩))⟩
  · rw [if_neg (by rw [nJ_eq0 (by omega)]; exact e), if_neg (by rw [nJ_eq0 (by omega)]; exact e)]
    exact play_L 4 0 0 fuel fuel S φ N rs dt rs9 dt9 an9 row row9 cc lo cc9 fc9 (by omega) (by unfold fuel; omega) (by unfold fuel; omega) (by omega) h hF hN hE
end MK
