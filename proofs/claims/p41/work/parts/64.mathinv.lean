/-! copies, history, undo -/
section MP7
variable {S : SS} {N M K : AI} {φ ψ : Fo} {x x1 x2 x3 an th : Int32} {i j k n u : Nat} {rows : Nat → Fo}
theorem RN_congr (h : WF S) (hN : RN N S) (hM : ∀ i, i < 228 → M i = N i) : RN M S := by
  have h5 := h.b5; have hc := h.c24
  refine ⟨⟨?_, ?_, ?_⟩, fun p hp => ?_, fun j hj => ?_, fun i hi => ?_⟩
  · rw [hM _ (by omega)]; exact hN.1.1
  · rw [hM _ (by omega)]; exact hN.1.2.1
  · rw [hM _ (by omega)]; exact hN.1.2.2
  · rw [hM _ (by omega)]; exact hN.2.1 p hp
  · rw [hM _ (by omega)]; exact hN.2.2.1 j hj
  · obtain ⟨a1, a2, a3, a4⟩ := hN.2.2.2 i hi
    refine ⟨?_, ?_, ?_, fun k hk => ?_⟩
    · rw [hM _ (by omega)]; exact a1
    · rw [hM _ (by omega)]; exact a2
    · rw [hM _ (by omega)]; exact a3
    · rw [hM _ (by omega)]; exact a4 k hk
theorem upd_to {f g : AI} {k : Nat} (h : ∀ i, i < k → f i = g i) : ∀ i, i < k + 1 → upd f k (g k) i = g i := by
  intro i hi
  by_cases e : i = k
  · rw [e, upd_s]
  · rw [upd_n _ _ e]; exact h i (by omega)
theorem tries_L : ∀ (d k n : Nat) (M : AI), k + d = 228 → d < n → (∀ i, i < k → M i = N i) → ∃ M', f9_tries_L7 N n (nI k) M th = some (M', th) ∧ ∀ i, i < 228 → M' i = N i := by
  intro d
  induction d with
  | zero =>
    intro k n M hk hn hM
    obtain ⟨n, rfl⟩ : ∃ n', n = n' + 1 := ⟨n - 1, by omega⟩
    have : k = 228 := by omega
    subst this
    exact ⟨M, by rw [f9_tries_L7, if_pos (by decide)], hM⟩
  | succ d ih =>
    intro k n M hk hn hM
    obtain ⟨n, rfl⟩ : ∃ n', n = n' + 1 := ⟨n - 1, by omega⟩
    rw [f9_tries_L7, if_neg (by rw [nJ_le (by omega) (by omega)]; omega), inb_t (by omega) (by omega), if_pos rfl, if_pos rfl, lt_eq, nJ_nat (by omega), nI_add]
    exact ih (k + 1) n _ (by omega) (by omega) (upd_to hM)
theorem f9_tries_e : ∃ M', f9_tries N M th = some (M', nI 0) ∧ ∀ i, i < 228 → M' i = N i := tries_L 228 0 fuel M (by omega) (by unfold fuel; omega) (fun i hi => absurd hi (by omega))
theorem comesBack_L : ∀ (d k n : Nat) (N : AI), k + d = 228 → d < n → (∀ i, i < k → N i = M i) → ∃ N', f9_comesBack_L2 M n (nI k) N = some N' ∧ ∀ i, i < 228 → N' i = M i := by
  intro d
  induction d with
  | zero =>
    intro k n N hk hn hM
    obtain ⟨n, rfl⟩ : ∃ n', n = n' + 1 := ⟨n - 1, by omega⟩
    have : k = 228 := by omega
    subst this
    exact ⟨N, by rw [f9_comesBack_L2, if_pos (by decide)], hM⟩
  | succ d ih =>
    intro k n N hk hn hM
    obtain ⟨n, rfl⟩ : ∃ n', n = n' + 1 := ⟨n - 1, by omega⟩
    rw [f9_comesBack_L2, if_neg (by rw [nJ_le (by omega) (by omega)]; omega), inb_t (by omega) (by omega), if_pos rfl, if_pos rfl, lt_eq, nJ_nat (by omega), nI_add]
    exact ih (k + 1) n _ (by omega) (by omega) (upd_to hM)
theorem f9_comesBack_e : ∃ N', f9_comesBack N M = some N' ∧ ∀ i, i < 228 → N' i = M i := comesBack_L 228 0 fuel N (by omega) (by unfold fuel; omega) (fun i hi => absurd hi (by omega))
theorem keeps_L52 (hu : u < 8) : ∀ (d k n : Nat) (C : AI), k + d = 228 → d < n → (∀ i, i < k → C (228 * u + i) = M i) → (∀ i, i < 228 * u → C i = K i) → ∃ C', f9_keeps_L52 an M n (nI k) C (nI u) = some (an, C', nI (u + 1)) ∧ (∀ i, i < 228 → C' (228 * u + i) = M i) ∧ ∀ i, i < 228 * u → C' i = K i := by
  intro d
  induction d with
  | zero =>
    intro k n C hk hn h1 h2
    obtain ⟨n, rfl⟩ : ∃ n', n = n' + 1 := ⟨n - 1, by omega⟩
    have : k = 228 := by omega
    subst this
    exact ⟨C, by rw [f9_keeps_L52, if_pos (by decide), lt_eq, nI_add], h1, h2⟩
  | succ d ih =>
    intro k n C hk hn h1 h2
    obtain ⟨n, rfl⟩ : ∃ n', n = n' + 1 := ⟨n - 1, by omega⟩
    rw [f9_keeps_L52, if_neg (by rw [nJ_le (by omega) (by omega)]; omega), inb_t (by omega) (by omega), if_pos rfl, nJ_mul, nI_add, inb_t (by omega) (by omega), if_pos rfl, lt_eq, nJ_nat (by omega), nJ_nat (by omega), nI_add]
    refine ih (k + 1) n _ (by omega) (by omega) (fun i hi => ?_) (fun i hi => ?_)
    · by_cases e : i = k
      · rw [e, upd_s]
      · rw [upd_n _ _ (by omega)]; exact h1 i (by omega)
    · rw [upd_n _ _ (by omega)]; exact h2 i hi
theorem keeps_L11 : ∀ (d k n : Nat) (C : AI), k + d = 1596 → d < n → (∀ i, i < k → C i = K (228 + i)) → (∀ i, k ≤ i → C i = K i) → ∃ C', f9_keeps_L11 an M n (nI k) C (nI 8) = f9_keeps_L52 an M fuel (nI 0) C' (nI 7) ∧ ∀ i, i < 1596 → C' i = K (228 + i) := by
  intro d
  induction d with
  | zero =>
    intro k n C hk hn h1 h2
    obtain ⟨n, rfl⟩ : ∃ n', n = n' + 1 := ⟨n - 1, by omega⟩
    have : k = 1596 := by omega
    subst this
    exact ⟨C, by rw [f9_keeps_L11, if_pos (by decide), lt_eq]; rfl, h1⟩
  | succ d ih =>
    intro k n C hk hn h1 h2
    obtain ⟨n, rfl⟩ : ∃ n', n = n' + 1 := ⟨n - 1, by omega⟩
    rw [f9_keeps_L11, if_neg (by rw [nJ_le (by omega) (by omega)]; omega), nI_add, inb_t (by omega) (by omega), if_pos rfl, inb_t (by omega) (by omega), if_pos rfl, lt_eq, nJ_nat (by omega), nJ_nat (by omega), nI_add]
    refine ih (k + 1) n _ (by omega) (by omega) (fun i hi => ?_) (fun i hi => ?_)
    · by_cases e : i = k
      · rw [e, upd_s]; exact h2 _ (by omega)
      · rw [upd_n _ _ e]; exact h1 i (by omega)
    · rw [upd_n _ _ (by omega)]; exact h2 i (by omega)
theorem f9_keeps_e (hu : u ≤ 8) : ∃ K', f9_keeps an M K (nI u) = some (an, K', nI (min (u + 1) 8)) ∧ (u < 8 → (∀ i, i < 228 → K' (228 * u + i) = M i) ∧ ∀ i, i < 228 * u → K' i = K i) ∧ (u = 8 → (∀ i, i < 228 → K' (1596 + i) = M i) ∧ ∀ i, i < 1596 → K' i = K (228 + i)) := by
  unfold f9_keeps
  by_cases e : u = 8
  · subst e
    rw [if_pos rfl]
    obtain ⟨C, q1, q2⟩ := keeps_L11 (K := K) (M := M) (an := an) 1596 0 fuel K (by omega) (by unfold fuel; omega) (fun i hi => absurd hi (by omega)) (fun i _ => rfl)
    obtain ⟨C', q3, q4, q5⟩ := keeps_L52 (K := C) (M := M) (an := an) (u := 7) (by omega) 228 0 fuel C (by omega) (by unfold fuel; omega) (fun i hi => absurd hi (by omega)) (fun i _ => rfl)
    rw [q1, q3]
    exact ⟨C', rfl, fun q => absurd q (by omega), fun _ => ⟨q4, fun i hi => (q5 i (by omega)).trans (q2 i hi)⟩⟩
  · rw [if_neg (by rw [nJ_eq (by omega) (by omega)]; exact e)]
    obtain ⟨C', q3, q4, q5⟩ := keeps_L52 (K := K) (M := M) (an := an) (u := u) (by omega) 228 0 fuel K (by omega) (by unfold fuel; omega) (fun i hi => absurd hi (by omega)) (fun i _ => rfl)
    rw [q3, Nat.min_eq_left (by omega)]
    exact ⟨C', rfl, fun _ => ⟨q4, q5⟩, fun q => absurd q e⟩
theorem fo_ext (h1 : fo_commits φ = fo_commits ψ) (h2 : fo_branches φ = fo_branches ψ) (h3 : fo_purpose φ = fo_purpose ψ) (h4 : fo_kinds φ = fo_kinds ψ) (h5 : fo_firsts φ = fo_firsts ψ) (h6 : fo_seconds φ = fo_seconds ψ) (h7 : fo_families φ = fo_families ψ) (h8 : fo_depths φ = fo_depths ψ) (h9 : fo_amounts φ = fo_amounts ψ) (h10 : fo_tips φ = fo_tips ψ) (h11 : fo_bundled φ = fo_bundled ψ) : φ = ψ :=
  Prod.ext h1 (Prod.ext h2 (Prod.ext h3 (Prod.ext h4 (Prod.ext h5 (Prod.ext h6 (Prod.ext h7 (Prod.ext h8 (Prod.ext h9 (Prod.ext h10 h11)))))))))
theorem f1_become_e : f1_become φ ψ = some ψ := by
  generalize hres : f1_become φ ψ = res
  unfold f1_become at hres
  simp only [lt_eq] at hres
  obtain ⟨φ', h3, h4⟩ := some_one hres
  rw [h3]
  refine congrArg some ?_
  rw [h4]
  clear h3 h4 hres
  apply fo_ext
  all_goals simp only [gs_commits_commits, gs_commits_branches, gs_commits_purpose, gs_commits_kinds, gs_commits_firsts, gs_commits_seconds, gs_commits_families, gs_commits_depths, gs_commits_amounts, gs_commits_tips, gs_commits_bundled, gs_branches_commits, gs_branches_branches, gs_branches_purpose, gs_branches_kinds, gs_branches_firsts, gs_branches_seconds, gs_branches_families, gs_branches_depths, gs_branches_amounts, gs_branches_tips, gs_branches_bundled, gs_purpose_commits, gs_purpose_branches, gs_purpose_purpose, gs_purpose_kinds, gs_purpose_firsts, gs_purpose_seconds, gs_purpose_families, gs_purpose_depths, gs_purpose_amounts, gs_purpose_tips, gs_purpose_bundled, gs_kinds_commits, gs_kinds_branches, gs_kinds_purpose, gs_kinds_kinds, gs_kinds_firsts, gs_kinds_seconds, gs_kinds_families, gs_kinds_depths, gs_kinds_amounts, gs_kinds_tips, gs_kinds_bundled, gs_firsts_commits, gs_firsts_branches, gs_firsts_purpose, gs_firsts_kinds, gs_firsts_firsts, gs_firsts_seconds, gs_firsts_families, gs_firsts_depths, gs_firsts_amounts, gs_firsts_tips, gs_firsts_bundled, gs_seconds_commits, gs_seconds_branches, gs_seconds_purpose, gs_seconds_kinds, gs_seconds_firsts, gs_seconds_seconds, gs_seconds_families, gs_seconds_depths, gs_seconds_amounts, gs_seconds_tips, gs_seconds_bundled, gs_families_commits, gs_families_branches, gs_families_purpose, gs_families_kinds, gs_families_firsts, gs_families_seconds, gs_families_families, gs_families_depths, gs_families_amounts, gs_families_tips, gs_families_bundled, gs_depths_commits, gs_depths_branches, gs_depths_purpose, gs_depths_kinds, gs_depths_firsts, gs_depths_seconds, gs_depths_families, gs_depths_depths, gs_depths_amounts, gs_depths_tips, gs_depths_bundled, gs_amounts_commits, gs_amounts_branches, gs_amounts_purpose, gs_amounts_kinds, gs_amounts_firsts, gs_amounts_seconds, gs_amounts_families, gs_amounts_depths, gs_amounts_amounts, gs_amounts_tips, gs_amounts_bundled, gs_tips_commits, gs_tips_branches, gs_tips_purpose, gs_tips_kinds, gs_tips_firsts, gs_tips_seconds, gs_tips_families, gs_tips_depths, gs_tips_amounts, gs_tips_tips, gs_tips_bundled, gs_bundled_commits, gs_bundled_branches, gs_bundled_purpose, gs_bundled_kinds, gs_bundled_firsts, gs_bundled_seconds, gs_bundled_families, gs_bundled_depths, gs_bundled_amounts, gs_bundled_tips, gs_bundled_bundled]
/-- the history of both sides -/
def HI (rows : Nat → Fo) (nx cn : Int32) (K : AI) (un : Int32) : Prop := ∃ u x, u ≤ 8 ∧ x < 8 ∧ cn = nI u ∧ nx = nI x ∧ un = nI u ∧ ∀ t, t < u → ∃ S', WF S' ∧ RF (rows ((x + 7 - t) % 8)) S' ∧ RN (fun i => K (228 * (u - 1 - t) + i)) S'
theorem nJ_mod {a b : Nat} (ha : a < 2 ^ 31) (hb : b < 2 ^ 31) (h0 : 0 < b) : nI a - nI a / nI b * nI b = nI (a % b) := by
  have h := Nat.div_mul_le_self a b
  rw [nJ_div ha hb, nJ_mul, nJ_sub h ha]
  congr 1
  have := Nat.div_add_mod a b
  rw [Nat.mul_comm] at this
  omega
theorem keep_2 {nx cn un : Int32} (hH : HI rows nx cn K un) (h : WF S) (hF : RF φ S) (hN : RN N S) (hM : ∀ i, i < 228 → M i = N i) : ∃ rows' nx' cn' K' un', f2_keep rows nx cn φ = some (rows', nx', cn') ∧ f9_keeps an M K un = some (an, K', un') ∧ HI rows' nx' cn' K' un' := by
  obtain ⟨u, x, hu, hx, rfl, rfl, rfl, hr⟩ := hH
  obtain ⟨K', q1, q2, q3⟩ := f9_keeps_e (an := an) (M := M) (K := K) hu
  have hcn : (if nI 8 < nI u + nI 1 then nI 8 else nI u + nI 1) = nI (min (u + 1) 8) := by
    rw [nI_add]
    by_cases e : 8 < u + 1
    · rw [if_pos (by rw [nJ_lt (by omega) (by omega)]; exact e), Nat.min_eq_right (by omega)]
    · rw [if_neg (by rw [nJ_lt (by omega) (by omega)]; exact e), Nat.min_eq_left (by omega)]
  refine ⟨hs_up rows x φ, nI ((x + 1) % 8), nI (min (u + 1) 8), K', nI (min (u + 1) 8), ?_, q1, ?_⟩
  · unfold f2_keep
    rw [inb_t hx (by omega), if_pos rfl, hcn, nI_add, nJ_mod (by omega) (by omega) (by omega), nJ_nat (by omega)]
  refine ⟨min (u + 1) 8, (x + 1) % 8, by omega, by omega, rfl, rfl, rfl, fun t ht => ?_⟩
  by_cases e : t = 0
  · subst e
    refine ⟨S, h, ?_, RN_congr h hN (fun i hi => ?_)⟩
    · rw [show ((x + 1) % 8 + 7 - 0) % 8 = x by omega, show hs_up rows x φ x = φ from if_pos rfl]; exact hF
    · show K' _ = N i
      by_cases e2 : u = 8
      · rw [show 228 * (min (u + 1) 8 - 1 - 0) + i = 1596 + i by omega, (q3 e2).1 i hi, hM i hi]
      · rw [show 228 * (min (u + 1) 8 - 1 - 0) + i = 228 * u + i by omega, (q2 (by omega)).1 i hi, hM i hi]
  · obtain ⟨S', w1, w2, w3⟩ := hr (t - 1) (by omega)
    refine ⟨S', w1, ?_, RN_congr w1 w3 (fun i hi => ?_)⟩
    · rw [show ((x + 1) % 8 + 7 - t) % 8 = (x + 7 - (t - 1)) % 8 by omega, show hs_up rows x φ ((x + 7 - (t - 1)) % 8) = rows ((x + 7 - (t - 1)) % 8) from if_neg (by omega)]; exact w2
    · show K' _ = K _
      by_cases e2 : u = 8
      · rw [(q3 e2).2 _ (by omega)]
        congr 1
        omega
      · rw [(q2 (by omega)).2 _ (by omega)]
        congr 1
        omega
theorem undo_L (hu : u < 8) : ∀ (d k n : Nat) (N : AI), k + d = 228 → d < n → (∀ i, i < k → N i = K (228 * u + i)) → ∃ N', f9_undo_L30 K n (nI k) N (nI u) th = some (nI u, N', nI u, th) ∧ ∀ i, i < 228 → N' i = K (228 * u + i) := by
  intro d
  induction d with
  | zero =>
    intro k n N hk hn hM
    obtain ⟨n, rfl⟩ : ∃ n', n = n' + 1 := ⟨n - 1, by omega⟩
    have : k = 228 := by omega
    subst this
    exact ⟨N, by rw [f9_undo_L30, if_pos (by decide)], hM⟩
  | succ d ih =>
    intro k n N hk hn hM
    obtain ⟨n, rfl⟩ : ∃ n', n = n' + 1 := ⟨n - 1, by omega⟩
    rw [f9_undo_L30, if_neg (by rw [nJ_le (by omega) (by omega)]; omega), nJ_mul, nI_add, inb_t (by omega) (by omega), if_pos rfl, inb_t (by omega) (by omega), if_pos rfl, lt_eq, nJ_nat (by omega), nJ_nat (by omega), nI_add]
    exact ih (k + 1) n _ (by omega) (by omega) (upd_to (g := fun i => K (228 * u + i)) hM)
theorem save_L {a b : Int32} : ∀ (d k n : Nat) (M : AI), k + d = 228 → d < n → (∀ i, i < k → M i = N i) → ∃ M', f9_save_L12 N n (nI k) M a b = some (N 0, M', a, b) ∧ ∀ i, i < 228 → M' i = N i := by
  intro d
  induction d with
  | zero =>
    intro k n M hk hn hM
    obtain ⟨n, rfl⟩ : ∃ n', n = n' + 1 := ⟨n - 1, by omega⟩
    have : k = 228 := by omega
    subst this
    exact ⟨M, by rw [f9_save_L12, if_pos (by decide)]; rfl, hM⟩
  | succ d ih =>
    intro k n M hk hn hM
    obtain ⟨n, rfl⟩ : ∃ n', n = n' + 1 := ⟨n - 1, by omega⟩
    rw [f9_save_L12, if_neg (by rw [nJ_le (by omega) (by omega)]; omega), inb_t (by omega) (by omega), if_pos rfl, if_pos rfl, lt_eq, nJ_nat (by omega), nI_add]
    exact ih (k + 1) n _ (by omega) (by omega) (upd_to hM)
theorem restore_L {a b c : Int32} : ∀ (d k n : Nat) (N : AI), k + d = 228 → d < n → (∀ i, i < k → N i = M i) → ∃ N', f9_restore_L20 M a n (nI k) N b c = some (N' 0, N', nI 0, c) ∧ ∀ i, i < 228 → N' i = M i := by
  intro d
  induction d with
  | zero =>
    intro k n N hk hn hM
    obtain ⟨n, rfl⟩ : ∃ n', n = n' + 1 := ⟨n - 1, by omega⟩
    have : k = 228 := by omega
    subst this
    exact ⟨N, by rw [f9_restore_L20, if_pos (by decide)]; rfl, hM⟩
  | succ d ih =>
    intro k n N hk hn hM
    obtain ⟨n, rfl⟩ : ∃ n', n = n' + 1 := ⟨n - 1, by omega⟩
    rw [f9_restore_L20, if_neg (by rw [nJ_le (by omega) (by omega)]; omega), inb_t (by omega) (by omega), if_pos rfl, if_pos rfl, lt_eq, nJ_nat (by omega), nI_add]
    exact ih (k + 1) n _ (by omega) (by omega) (upd_to hM)
end MP7
/-! the invariant -/
def IVF (φ : Fo) (N : AI) : Prop := ∃ S, WF S ∧ RF φ S ∧ RN N S
def IVS (a b : Int32) (φ : Fo) (N : AI) : Prop := a = b ∧ (a = 0 ∨ IVF φ N)
def IVI (p : AI) (l : Int32) (q : AI) (m : Int32) : Prop := ∃ n, n ≤ 60 ∧ l = nI n ∧ m = nI n ∧ ∀ i, i < n → ch (p i) = ch (q i)
def IVL (p : AI) (l : Int32) (q : AI) (m : Int32) : Prop := ∃ n, n ≤ 24 ∧ l = nI n ∧ m = nI n ∧ ∀ i, i < n → ch (p i) = ch (q i)
section MQ
variable {S : SS} {N M K : AI} {φ ψ φ' : Fo} {x x1 x2 x3 an th r is nx cn un : Int32} {N' : AI} {i j k n u : Nat} {rows : Nat → Fo}
theorem lg_self (x : Int64) : lg_cmp x x = 0 := by unfold lg_cmp; rw [if_neg (fun q => Int64.lt_irrefl q), if_pos rfl]
theorem vp_up_s (f : Nat → Int64) (k : Nat) (x : Int64) : vp_updL f k x k = x := if_pos rfl
theorem nz0 : (nI 0 = (0 : Int32)) = True := eq_true rfl
theorem nz1 : (nI 1 = (0 : Int32)) = False := eq_false (by decide)
theorem nz2 : (nI 2 = (0 : Int32)) = False := eq_false (by decide)
theorem nz3 : (nI 3 = (0 : Int32)) = False := eq_false (by decide)
theorem kz1 : ((1 : Nat) = 0) = False := eq_false (by decide)
theorem kz2 : ((2 : Nat) = 0) = False := eq_false (by decide)
theorem kz3 : ((3 : Nat) = 0) = False := eq_false (by decide)
theorem kz4 : ((4 : Nat) = 0) = False := eq_false (by decide)
theorem kz5 : ((5 : Nat) = 0) = False := eq_false (by decide)
theorem k21 : ((2 : Nat) = 1) = False := eq_false (by decide)
theorem k31 : ((3 : Nat) = 1) = False := eq_false (by decide)
theorem k41 : ((4 : Nat) = 1) = False := eq_false (by decide)
theorem k32 : ((3 : Nat) = 2) = False := eq_false (by decide)
theorem k42 : ((4 : Nat) = 2) = False := eq_false (by decide)
theorem thr_e (x : Int32) : f9_thrown x = some x := Eq.trans rfl rfl
theorem rai_e (x y : Int32) : f9_raises x y = some (nI 0, x) := Eq.trans rfl rfl
theorem fin_1 : f8_finished (-1) φ' φ rows nx cn = some (1, nI 0, φ, rows, nx, cn) := by
  unfold f8_finished
  rw [if_pos (by decide), f1_become_e, bnd, if_pos rfl]
theorem fin_a : f8_finished (-2) φ' φ rows nx cn = some (2, nI 0, φ, rows, nx, cn) := by
  unfold f8_finished
  rw [if_pos (by decide), f1_become_e, bnd, if_neg (by decide), if_pos rfl]
theorem fin_r : f8_finished (-3) φ' φ rows nx cn = some (3, nI 0, φ, rows, nx, cn) := by
  unfold f8_finished
  rw [if_pos (by decide), f1_become_e, bnd, if_neg (by decide), if_neg (by decide)]
theorem fin_ok {a : Nat} (ha : a < 2 ^ 31) {rows' : Nat → Fo} {nx' cn' : Int32} (h : f2_keep rows nx cn φ = some (rows', nx', cn')) : f8_finished (nI a) φ' φ rows nx cn = some (0, nI a, φ', rows', nx', cn') := by
  unfold f8_finished
  rw [if_neg (by rw [nJ_lt0 ha]; exact fun q => q), h, bnd]
theorem ends_no (hx : ¬ x = 0) : f9_ends x M K un an th = some (nI 0, K, un, x) := by
  unfold f9_ends
  rw [if_neg hx, rai_e, bnd]
theorem ends_ok {K' : AI} {un' : Int32} (h : f9_keeps an M K un = some (an, K', un')) : f9_ends (nI 0) M K un an th = some (an, K', un', th) := by
  unfold f9_ends
  rw [if_pos (show nI 0 = 0 from rfl), h, bnd]
theorem fin_2 (h : WF S) (hF : RF φ S) (hN : RN N S) (hM : ∀ i, i < 228 → M i = N i) (hH : HI rows nx cn K un) (hr : OKR φ N r φ' is N' an) : ∃ k v φ'' rows' nx' cn' K' un' th' v9, f8_finished r φ' φ rows nx cn = some (k, v, φ'', rows', nx', cn') ∧ f9_ends is M K un an (nI 0) = some (v9, K', un', th') ∧ HI rows' nx' cn' K' un' ∧ IVF φ'' N' ∧ ((k = 0 ∧ th' = nI 0 ∧ v = v9) ∨ (k = 1 ∧ th' = nI 1) ∨ (k = 2 ∧ th' = nI 2) ∨ (k = 3 ∧ th' = nI 3)) := by
  rcases hr with ⟨a, S', w1, w2, w3, w4, rfl, rfl, rfl⟩ | ⟨rfl, rfl, ⟨rfl, rfl⟩ | ⟨rfl, rfl⟩ | ⟨rfl, rfl⟩⟩
  · obtain ⟨rows', nx', cn', K', un', e1, e2, e3⟩ := keep_2 (an := nI a) hH h hF hN hM
    exact ⟨_, _, _, _, _, _, _, _, _, _, fin_ok w4 e1, ends_ok e2, e3, ⟨S', w1, w2, w3⟩, Or.inl ⟨rfl, rfl, rfl⟩⟩
  · exact ⟨_, _, _, _, _, _, _, _, _, _, fin_1, ends_no (by decide), hH, ⟨S, h, hF, hN⟩, Or.inr (Or.inl ⟨rfl, rfl⟩)⟩
  · exact ⟨_, _, _, _, _, _, _, _, _, _, fin_a, ends_no (by decide), hH, ⟨S, h, hF, hN⟩, Or.inr (Or.inr (Or.inl ⟨rfl, rfl⟩))⟩
  · exact ⟨_, _, _, _, _, _, _, _, _, _, fin_r, ends_no (by decide), hH, ⟨S, h, hF, hN⟩, Or.inr (Or.inr (Or.inr ⟨rfl, rfl⟩))⟩
theorem fin_q (h : WF S) (hF : RF φ S) (hN : RN N S) (hM : ∀ i, i < 228 → M i = N i) (hH : HI rows nx cn K un) (hr : OKQ φ N r φ' is N' an) : ∃ k v φ'' rows' nx' cn' K' un' th' v9, f8_finished r φ' φ rows nx cn = some (k, v, φ'', rows', nx', cn') ∧ f9_endsAt is M K un an (nI 0) = some (v9, K', un', th') ∧ HI rows' nx' cn' K' un' ∧ IVF φ'' N' ∧ ((k = 0 ∧ th' = nI 0 ∧ v = v9) ∨ (k = 1 ∧ th' = nI 1) ∨ (k = 3 ∧ th' = nI 2)) := by
  unfold f9_endsAt
  rcases hr with ⟨a, S', w1, w2, w3, w4, rfl, rfl, rfl⟩ | ⟨rfl, rfl, ⟨rfl, rfl⟩ | ⟨rfl, rfl⟩⟩
  · obtain ⟨rows', nx', cn', K', un', e1, e2, e3⟩ := keep_2 (an := nI a) hH h hF hN hM
    rw [if_neg (by decide), ends_ok e2]
    exact ⟨_, _, _, _, _, _, _, _, _, _, fin_ok w4 e1, rfl, e3, ⟨S', w1, w2, w3⟩, Or.inl ⟨rfl, rfl, rfl⟩⟩
  · rw [if_neg (by decide), ends_no (by decide)]
    exact ⟨_, _, _, _, _, _, _, _, _, _, fin_1, rfl, hH, ⟨S, h, hF, hN⟩, Or.inr (Or.inl ⟨rfl, rfl⟩)⟩
  · rw [if_pos rfl, rai_e]
    exact ⟨_, _, _, _, _, _, _, _, _, _, fin_r, rfl, hH, ⟨S, h, hF, hN⟩, Or.inr (Or.inr ⟨rfl, rfl⟩)⟩
end MQ
section MR
variable {S : SS} {N M K : AI} {φ ψ φ' : Fo} {x x1 x2 x3 an th r is nx cn un : Int32} {N' : AI} {i j k n u : Nat} {rows : Nat → Fo}
theorem k51 : ((5 : Nat) = 1) = False := eq_false (by decide)
theorem k20 : ((2 : Nat) = 0) = False := eq_false (by decide)
theorem tryBundle_no (h : inb x 3 = false) : f0_tryBundle x φ = some (-2, φ) := by
  unfold f0_tryBundle
  by_cases a : x < 0
  · rw [if_pos a]
  · rw [if_neg a, if_neg (fun q => by
      have b : ¬ nI 3 ≤ x := fun w => by
        have w1 := Int32.le_iff_toInt_le.mp w
        have w2 := Int32.le_iff_toInt_le.mp q
        rw [nI_toInt (by omega)] at w1 w2
        omega
      rw [inb_no a b (by omega)] at h
      cases h)]
theorem tryBundle_ok (h : WF S) (hF : RF φ S) (hk : k < 3) : ∃ φ', f0_tryBundle (nI k) φ = some (nI (bcn S), φ') ∧ RF φ' (bundS S k) := by
  obtain ⟨φ', q1, q2⟩ := f1_takeBundle_e hF hk
  refine ⟨φ', ?_, q2⟩
  unfold f0_tryBundle
  rw [if_neg (by rw [nJ_lt0 (by omega)]; exact fun q => q), if_pos (by rw [nJ_le (by omega) (by omega)]; omega), f1_bundledCount_e h hF, bnd, q1, bnd]
def bun (N : AI) (a : Int32) : AI := upd (upd (upd (upd (upd N 3 (nI 0)) 4 (nI 0)) 5 (nI 0)) 6 (nI 0)) 2 a
theorem bun_n {a : Int32} {q : Nat} (h : q < 2 ∨ 6 < q) : bun N a q = N q := by
  unfold bun
  rw [upd_n _ _ (by omega), upd_n _ _ (by omega), upd_n _ _ (by omega), upd_n _ _ (by omega), upd_n _ _ (by omega)]
theorem bun_2 {a : Int32} : bun N a 2 = a := upd_s _ _ _
theorem bun_p {a : Int32} {p : Nat} (hp : p < 4) : bun N a (3 + p) = nI 0 := by
  unfold bun
  rw [upd_n _ _ (by omega)]
  by_cases e3 : p = 3
  · subst e3; exact upd_s _ _ _
  rw [upd_n _ _ (by omega)]
  by_cases e2 : p = 2
  · subst e2; exact upd_s _ _ _
  rw [upd_n _ _ (by omega)]
  by_cases e1 : p = 1
  · subst e1; exact upd_s _ _ _
  rw [upd_n _ _ (by omega)]
  have : p = 0 := by omega
  subst this; exact upd_s _ _ _
theorem bun_rn (hN : RN N S) : RN (bun N (nI k)) (bundS S k) := by
  refine ⟨⟨?_, ?_, bun_2⟩, fun p hp => bun_p hp, fun j hj => ?_, fun i hi => ?_⟩
  · rw [bun_n (by omega)]; exact hN.1.1
  · rw [bun_n (by omega)]; exact hN.1.2.1
  · rw [bun_n (by omega)]; exact hN.2.2.1 j hj
  · obtain ⟨a1, a2, a3, a4⟩ := hN.2.2.2 i hi
    refine ⟨?_, ?_, ?_, fun u hu => ?_⟩
    · rw [bun_n (by omega)]; exact a1
    · rw [bun_n (by omega)]; exact a2
    · rw [bun_n (by omega)]; exact a3
    · rw [bun_n (by omega)]; exact a4 u hu
theorem bundle_step {a : Int32} {p n : Nat} (hp : p < 4) : f9_bundle_L26 a (n + 1) x2 (nI p) N M K un th = f9_bundle_L26 a n x2 (nI (p + 1)) (upd N (3 + p) (nI 0)) M K un th := by
  rw [f9_bundle_L26, if_neg (by rw [nJ_le (by omega) (by omega)]; omega), nI_add, inb_t (by omega) (by omega), if_pos rfl, lt_eq, nJ_nat (by omega), nI_add]
theorem bundle_end {a : Int32} {n : Nat} {K' : AI} {un' : Int32} (hkp : f9_keeps x2 M K un = some (x2, K', un')) : f9_bundle_L26 a (n + 1) x2 (nI 4) N M K un th = some (x2, upd N 2 a, M, K', un', th) := by
  rw [f9_bundle_L26, if_pos (show nI 4 ≤ nI 4 by decide), lt_eq, show (nI 2).toNatClampNeg = 2 from rfl, hkp, bnd]
theorem bundle_L26 {a : Int32} {K' : AI} {un' : Int32} (hkp : f9_keeps x2 M K un = some (x2, K', un')) : f9_bundle_L26 a fuel x2 (nI 0) N M K un th = some (x2, bun N a, M, K', un', th) := by
  rw [show fuel = 1995 + 1 + 1 + 1 + 1 + 1 from rfl, bundle_step (p := 0) (by omega), bundle_step (p := 1) (by omega), bundle_step (p := 2) (by omega), bundle_step (p := 3) (by omega), bundle_end (n := 1995) hkp]
  rfl
theorem f9_bundle_no {M' : AI} (hK : inb x 3 = false) (ht : f9_tries N M th = some (M', nI 0)) : f9_bundle x N M K un th = some (nI 0, N, M', K, un, nI 1) := by
  unfold f9_bundle
  simp only [ht, bnd, f9_in_0 (show 2 < 2 ^ 30 by omega), show inb x (2 + 1) = false from hK, if_pos b2iF, rai_e]
theorem f9_bundle_ok {M' K' : AI} {un' : Int32} (h : WF S) (hN : RN N S) (hk : k < 3) (ht : f9_tries N M th = some (M', nI 0)) (hkp : f9_keeps (nI (bcn S)) M' K un = some (nI (bcn S), K', un')) : f9_bundle (nI k) N M K un th = some (nI (bcn S), bun N (nI k), M', K', un', nI 0) := by
  unfold f9_bundle
  simp only [ht, bnd, f9_in_0 (show 2 < 2 ^ 30 by omega), show inb (nI k) (2 + 1) = true from inb_t (by omega) (by omega), if_neg b2iT, f9_inBundle_e h hN, bundle_L26 hkp]
theorem fin_p (h : WF S) (hF : RF φ S) (hN : RN N S) (hM : ∀ i, i < 228 → M i = N i) (hH : HI rows nx cn K un) (hr : OKP r φ' is N' an) : ∃ k v φ'' rows' nx' cn' K' un' th' v9, f8_finished r φ' φ rows nx cn = some (k, v, φ'', rows', nx', cn') ∧ f9_ends is M K un an (nI 0) = some (v9, K', un', th') ∧ HI rows' nx' cn' K' un' ∧ ((k = 0 ∧ is = nI 0 ∧ th' = nI 0 ∧ v = v9 ∧ IVF φ'' N') ∨ (φ'' = φ ∧ ¬ is = 0 ∧ ((k = 1 ∧ th' = nI 1) ∨ (k = 2 ∧ th' = nI 2) ∨ (k = 3 ∧ th' = nI 3)))) := by
  rcases hr with ⟨a, S', w1, w2, w3, w4, rfl, rfl, rfl⟩ | ⟨rfl, rfl⟩ | ⟨rfl, rfl⟩ | ⟨rfl, rfl⟩
  · obtain ⟨rows', nx', cn', K', un', e1, e2, e3⟩ := keep_2 (an := nI a) hH h hF hN hM
    exact ⟨_, _, _, _, _, _, _, _, _, _, fin_ok w4 e1, ends_ok e2, e3, Or.inl ⟨rfl, rfl, rfl, rfl, ⟨S', w1, w2, w3⟩⟩⟩
  · exact ⟨_, _, _, _, _, _, _, _, _, _, fin_1, ends_no (by decide), hH, Or.inr ⟨rfl, by decide, Or.inl ⟨rfl, rfl⟩⟩⟩
  · exact ⟨_, _, _, _, _, _, _, _, _, _, fin_a, ends_no (by decide), hH, Or.inr ⟨rfl, by decide, Or.inr (Or.inl ⟨rfl, rfl⟩)⟩⟩
  · exact ⟨_, _, _, _, _, _, _, _, _, _, fin_r, ends_no (by decide), hH, Or.inr ⟨rfl, by decide, Or.inr (Or.inr ⟨rfl, rfl⟩)⟩⟩
end MR
