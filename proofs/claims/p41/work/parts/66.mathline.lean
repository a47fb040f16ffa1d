/-! lines -/
def nxt (S : SS) (c : Nat) : Nat := oF (fun j => j) (s_fs S c)
def lin (S : SS) (t : Nat) : Nat → Nat
  | 0 => t
  | k + 1 => nxt S (lin S t k)
def LEN (S : SS) (t L : Nat) : Prop := lin S t L = 0 ∧ ∀ k, k < L → 0 < lin S t k
section MU
variable {S : SS} {N M K : AI} {φ ψ φ' : Fo} {x x1 x2 x3 x4 an th r is nx cn un ln : Int32} {N' cm cm' : AI} {i j k n u a b c m t L p : Nat}
theorem lin_shift : ∀ k, lin S t (k + 1) = lin S (nxt S t) k := by
  intro k
  induction k with
  | zero => rfl
  | succ k ih => exact congrArg (nxt S) ih
theorem nxt_some (h : WF S) (hc : c < s_c S) (h0 : 0 < c) : s_fs S c = some (nxt S c) ∧ nxt S c < c := by
  obtain ⟨j, a, b⟩ := h.fs hc h0
  unfold nxt
  rw [a]
  exact ⟨rfl, b⟩
theorem len_ex (h : WF S) : ∀ t, t < s_c S → ∃ L, L ≤ t ∧ LEN S t L := by
  intro t
  induction t using Nat.strongRecOn with
  | _ t ih =>
    intro ht
    by_cases h0 : t = 0
    · exact ⟨0, by omega, h0, fun k hk => absurd hk (by omega)⟩
    · obtain ⟨e1, e2⟩ := nxt_some h ht (by omega)
      obtain ⟨L, a, b1, b2⟩ := ih (nxt S t) e2 (by omega)
      refine ⟨L + 1, by omega, ?_, fun k hk => ?_⟩
      · rw [lin_shift]; exact b1
      · cases k with
        | zero => show 0 < t; omega
        | succ k => rw [lin_shift]; exact b2 k (by omega)
theorem lin_lt (h : WF S) (ht : t < s_c S) : ∀ k, lin S t k < s_c S := by
  intro k
  induction k with
  | zero => exact ht
  | succ k ih =>
    show nxt S (lin S t k) < s_c S
    by_cases h0 : 0 < lin S t k
    · have := (nxt_some h ih h0).2; omega
    · have h1 := h.c1
      have : lin S t k = 0 := by omega
      rw [this]; unfold nxt; rw [h.1.2.2.2.2.2.1]; show 0 < _; omega
theorem lin_fs (h : WF S) (ht : t < s_c S) (hL : LEN S t L) (hk : k < L) : s_fs S (lin S t k) = some (lin S t (k + 1)) := (nxt_some h (lin_lt h ht k) (hL.2 k hk)).1
theorem follow_L (h : WF S) (hF : RF φ S) (ht : t < s_c S) (hL : LEN S t L) (hL2 : L ≤ t) : ∀ (d k n : Nat) (cm : AI) (len : Int32), k + d = L → d + 1 < n → (∀ q, q < k → cm q = nI (lin S t q)) → ∃ cm', f7_follow_L10 x2 φ n (nI (lin S t k)) (nI k) cm len = some (cm', nI (L + 1)) ∧ ∀ q, q ≤ L → cm' q = nI (lin S t q) := by
  have hc := h.c24
  intro d
  induction d with
  | zero =>
    intro k n cm len hk hn hcm
    obtain ⟨n, rfl⟩ : ∃ n', n = n' + 1 + 1 := ⟨n - 2, by omega⟩
    have : k = L := by omega
    subst this
    have h1 := h.c1
    refine ⟨upd cm k (nI (lin S t k)), ?_, fun q hq => ?_⟩
    · rw [f7_follow_L10, if_neg (by rw [nJ_le (by omega) (by omega)]; omega), if_neg (by rw [nJ_eqm (by have := lin_lt h ht k; omega)]; exact fun q => q), inb_t (by omega) (by omega), if_pos rfl, lt_eq, lt_eq, f1_firstOf_e h hF (lin_lt h ht k), bnd, hL.1, h.1.2.2.2.2.2.1, nJ_nat (by omega), nI_add, f7_follow_L10]
      by_cases e : 24 ≤ k + 1
      · rw [if_pos (by rw [nJ_le (by omega) (by omega)]; exact e)]
      · rw [if_neg (by rw [nJ_le (by omega) (by omega)]; exact e), if_pos (show oI none = -1 from rfl)]
    · by_cases e : q = k
      · rw [e, upd_s]
      · rw [upd_n _ _ e]; exact hcm q (by omega)
  | succ d ih =>
    intro k n cm len hk hn hcm
    obtain ⟨n, rfl⟩ : ∃ n', n = n' + 1 := ⟨n - 1, by omega⟩
    rw [f7_follow_L10, if_neg (by rw [nJ_le (by omega) (by omega)]; omega), if_neg (by rw [nJ_eqm (by have := lin_lt h ht k; omega)]; exact fun q => q), inb_t (by omega) (by omega), if_pos rfl, lt_eq, lt_eq, f1_firstOf_e h hF (lin_lt h ht k), bnd, lin_fs h ht hL (by omega), nJ_nat (by omega), nI_add]
    refine ih (k + 1) n _ _ (by omega) (by omega) (fun q hq => ?_)
    by_cases e : q = k
    · rw [e, upd_s]
    · rw [upd_n _ _ e]; exact hcm q (by omega)
theorem f7_follow_e (h : WF S) (hF : RF φ S) (ht : t < s_c S) (hL : LEN S t L) (hL2 : L ≤ t) {len : Int32} : ∃ cm', f7_follow (nI t) cm len φ = some (cm', nI (L + 1)) ∧ ∀ q, q ≤ L → cm' q = nI (lin S t q) := by
  have hc := h.c24
  exact follow_L (x2 := nI t) h hF ht hL hL2 L 0 fuel cm (nI 0) (by omega) (by unfold fuel; omega) (fun q hq => absurd hq (by omega))
theorem f7_at_e (hcm : ∀ q, q ≤ L → cm q = nI (lin S t q)) (hL : L < 24) (hk : k ≤ L) : f7_at (nI k) cm (nI (L + 1)) = some (nI (lin S t k)) := by
  unfold f7_at
  rw [if_neg (by rw [nJ_lt0 (by omega)]; exact fun q => q), if_neg (by rw [nJ_le (by omega) (by omega)]; omega), if_neg (by rw [nJ_le (by omega) (by omega)]; omega), inb_t (by omega) (by omega), if_pos rfl, nJ_nat (by omega), hcm k hk]
theorem f7_at_no (hL : L < 24) (hx : inb x (L + 1) = false) : f7_at x cm (nI (L + 1)) = some (-1) := by
  unfold f7_at
  by_cases a : x < 0
  · rw [if_pos a]
  · rw [if_neg a]
    by_cases b : nI (L + 1) ≤ x
    · rw [if_pos b]
    · rw [inb_no a b (by omega)] at hx; cases hx
theorem far_L (h : WF S) (hN : RN N S) (ht : t < s_c S) (hL : LEN S t L) (hL2 : L ≤ t) : ∀ (d k n : Nat), k + d = L → d < n → f9_far_L8 x1 N n (nI k) (nI (lin S t k)) = some (nI L) := by
  have hc := h.c24
  intro d
  induction d with
  | zero =>
    intro k n hk hn
    obtain ⟨n, rfl⟩ : ∃ n', n = n' + 1 := ⟨n - 1, by omega⟩
    have : k = L := by omega
    subst this
    rw [f9_far_L8, hL.1, if_pos (show nI 0 ≤ 0 by decide)]
  | succ d ih =>
    intro k n hk hn
    obtain ⟨n, rfl⟩ : ∃ n', n = n' + 1 := ⟨n - 1, by omega⟩
    have h1 := hL.2 k (by omega); have h2 := lin_lt h ht k
    rw [f9_far_L8, if_neg (by rw [nJ_le0 (by omega)]; omega), f9_fs_e h hN h2, bnd, lin_fs h ht hL (by omega), nI_add]
    exact ih (k + 1) n (by omega) (by omega)
theorem f9_far_e (h : WF S) (hN : RN N S) (hj : j < s_b S) (hL : LEN S (s_tp S j) L) (hL2 : L ≤ s_tp S j) : f9_far (nI j) N = some (nI L) := by
  have hc := h.c24; have ht := h.tp hj
  unfold f9_far
  rw [f9_top_e h hN hj, bnd]
  exact far_L h hN ht hL hL2 L 0 fuel (by omega) (by unfold fuel; omega)
theorem onl_L (h : WF S) (hN : RN N S) (ht : t < s_c S) (hL : LEN S t L) (hL2 : L ≤ t) (hp : p ≤ L) : ∀ (d k n : Nat), k + d = p → d < n → f9_onLineOf_L9 x1 (nI p) N n (nI (lin S t k)) (nI k) = some (nI (lin S t p)) := by
  have hc := h.c24
  intro d
  induction d with
  | zero =>
    intro k n hk hn
    obtain ⟨n, rfl⟩ : ∃ n', n = n' + 1 := ⟨n - 1, by omega⟩
    have : k = p := by omega
    subst this
    rw [f9_onLineOf_L9, if_pos (by rw [nJ_le (by omega) (by omega)]; omega)]
  | succ d ih =>
    intro k n hk hn
    obtain ⟨n, rfl⟩ : ∃ n', n = n' + 1 := ⟨n - 1, by omega⟩
    rw [f9_onLineOf_L9, if_neg (by rw [nJ_le (by omega) (by omega)]; omega), f9_fs_e h hN (lin_lt h ht k), bnd, lin_fs h ht hL (by omega), nI_add]
    exact ih (k + 1) n (by omega) (by omega)
theorem f9_onLineOf_e (h : WF S) (hN : RN N S) (hj : j < s_b S) (hL : LEN S (s_tp S j) L) (hL2 : L ≤ s_tp S j) (hp : p ≤ L) : f9_onLineOf (nI j) (nI p) N = some (nI (lin S (s_tp S j) p)) := by
  have hc := h.c24; have ht := h.tp hj
  unfold f9_onLineOf
  rw [f9_top_e h hN hj, bnd]
  exact onl_L h hN ht hL hL2 hp p 0 fuel (by omega) (by unfold fuel; omega)
theorem onLine_q (h : WF S) (hF : RF φ S) (hN : RN N S) {len : Int32} : ∃ k v cm' len' th' v9, f8_onLine x x2 φ cm len = some (k, v, cm', len') ∧ f9_onLine x x2 N th = some (v9, th') ∧ ((k = 0 ∧ th' = nI 0 ∧ v = v9) ∨ (k = 1 ∧ th' = nI 1) ∨ (k = 4 ∧ th' = nI 2)) := by
  have hc := h.c24
  unfold f8_onLine f9_onLine
  rw [need_b h hF, f9_isBranch_e h hN, bnd, bnd]
  cases hK : inb x (s_b S)
  · exact ⟨_, _, _, _, _, _, rfl, rfl, Or.inr (Or.inl ⟨rfl, rfl⟩)⟩
  obtain ⟨j, hj, -, rfl⟩ := inb_ex hK
  have ht := h.tp hj
  obtain ⟨L, hL2, hL⟩ := len_ex h _ ht
  obtain ⟨cm', q1, q2⟩ := f7_follow_e (cm := cm) (len := len) h hF ht hL hL2
  rw [if_pos (show (if true = true then 0 else 1) = 0 from rfl), if_neg b2iT, f1_tipOf_e h hF hj, bnd, q1, bnd, f9_far_e h hN hj hL hL2, bnd, f9_in_0 (by omega), bnd]
  dsimp only
  cases hK2 : inb x2 (L + 1)
  · rw [f7_at_no (by omega) hK2, bnd, if_pos rfl, if_pos b2iF, rai_e]
    exact ⟨_, _, _, _, _, _, rfl, rfl, Or.inr (Or.inr ⟨rfl, rfl⟩)⟩
  · obtain ⟨p, hp, -, rfl⟩ := inb_ex hK2
    have := lin_lt h ht p
    rw [f7_at_e q2 (by omega) (by omega), bnd, if_neg (by rw [nJ_eqm (by omega)]; exact fun q => q), if_neg b2iT, f9_onLineOf_e h hN hj hL hL2 (by omega)]
    exact ⟨_, _, _, _, _, _, rfl, rfl, Or.inl ⟨rfl, rfl, rfl⟩⟩
/-! blunders -/
theorem isBad_e (h : WF S) (hN : RN N S) (hi : i < s_c S) (hk : k < 6) (hm : m < 100) : f9_isBad (nI i) (nI k) (nI m) N = some (decide (m < s_am S i k)) := by
  have := h.am hi hk
  unfold f9_isBad
  rw [f9_has_e h hN hi hk, bnd]
  by_cases e : m < s_am S i k
  · rw [if_neg (by rw [nJ_le (by omega) (by omega)]; omega), decide_eq_true e]
  · rw [if_pos (by rw [nJ_le (by omega) (by omega)]; omega), decide_eq_false e]
theorem halve_L (h : WF S) (hF : RF φ S) (hN : RN N S) (hj : j < s_b S) (hL : LEN S (s_tp S j) L) (hL2 : L ≤ s_tp S j) (hcm : ∀ q, q ≤ L → cm q = nI (lin S (s_tp S j) q)) (hk : k < 6) (hm : m < 100) : ∀ (d n n9 b g i lk : Nat), g - b ≤ d → b ≤ g → g ≤ L → i + (g - b) ≤ 23 → d < n → d < n9 → lk ≤ i → ∃ q w, f7_searchByHalves_L19 (nI k) (nI m) cm (nI (L + 1)) φ n (nI b) (nI g) (nI i) (nI lk) = some (q, w) ∧ f9_halve_L75 (nI j) (nI k) (nI m) x4 N n9 (nI b) (nI g) (nI lk) th = some (if x4 = 0 then q else w, th) := by
  have hc := h.c24; have ht := h.tp hj
  intro d
  induction d with
  | zero =>
    intro n n9 b g i lk h1 h2 h3 h4 h5 h6 h7
    obtain ⟨n, rfl⟩ : ∃ n', n = n' + 1 := ⟨n - 1, by omega⟩
    obtain ⟨n9, rfl⟩ : ∃ n', n9 = n' + 1 := ⟨n9 - 1, by omega⟩
    have hle : nI g - nI b ≤ nI 1 := by rw [nJ_sub (by omega) (by omega), nJ_le (by omega) (by omega)]; omega
    rw [f7_searchByHalves_L19, f9_halve_L75, if_neg (by rw [nJ_le (by omega) (by omega)]; omega), if_pos hle, if_pos hle, f7_at_e hcm (by omega) (by omega), bnd, f9_onLineOf_e h hN hj hL hL2 (by omega), bnd]
    refine ⟨_, _, rfl, ?_⟩
    by_cases e : x4 = 0
    · rw [if_pos e, if_pos e]
    · rw [if_neg e, if_neg e]
  | succ d ih =>
    intro n n9 b g i lk h1 h2 h3 h4 h5 h6 h7
    obtain ⟨n, rfl⟩ : ∃ n', n = n' + 1 := ⟨n - 1, by omega⟩
    obtain ⟨n9, rfl⟩ : ∃ n', n9 = n' + 1 := ⟨n9 - 1, by omega⟩
    by_cases hd : g - b ≤ 1
    · have hle : nI g - nI b ≤ nI 1 := by rw [nJ_sub (by omega) (by omega), nJ_le (by omega) (by omega)]; omega
      rw [f7_searchByHalves_L19, f9_halve_L75, if_neg (by rw [nJ_le (by omega) (by omega)]; omega), if_pos hle, if_pos hle, f7_at_e hcm (by omega) (by omega), bnd, f9_onLineOf_e h hN hj hL hL2 (by omega), bnd]
      refine ⟨_, _, rfl, ?_⟩
      by_cases e : x4 = 0
      · rw [if_pos e, if_pos e]
      · rw [if_neg e, if_neg e]
    · have hle : ¬ nI g - nI b ≤ nI 1 := by rw [nJ_sub (by omega) (by omega), nJ_le (by omega) (by omega)]; omega
      have hmid : (nI b + nI g) / nI 2 = nI ((b + g) / 2) := by rw [nI_add, nJ_div (by omega) (by omega)]
      have hlt := lin_lt h ht ((b + g) / 2)
      have ham := h.am hlt hk
      rw [f7_searchByHalves_L19, f9_halve_L75, if_neg (by rw [nJ_le (by omega) (by omega)]; omega), if_neg hle, if_neg hle, lt_eq, hmid, f7_at_e hcm (by omega) (by omega), bnd, f1_amountIn_e h hF hlt hk, bnd, f9_onLineOf_e h hN hj hL hL2 (by omega), bnd, isBad_e h hN hlt hk hm, bnd, nI_add, nI_add]
      by_cases e : m < s_am S (lin S (s_tp S j) ((b + g) / 2)) k
      · rw [if_neg (by rw [nJ_le (by omega) (by omega)]; omega), decide_eq_true e, if_neg b2iT]
        exact ih n n9 ((b + g) / 2) g (i + 1) (lk + 1) (by omega) (by omega) (by omega) (by omega) (by omega) (by omega) (by omega)
      · rw [if_pos (by rw [nJ_le (by omega) (by omega)]; omega), decide_eq_false e, if_pos b2iF]
        exact ih n n9 b ((b + g) / 2) (i + 1) (lk + 1) (by omega) (by omega) (by omega) (by omega) (by omega) (by omega) (by omega)
def QD (k : Nat) (v th v9 : Int32) : Prop := (k = 0 ∧ th = nI 0 ∧ v = v9) ∨ (k = 1 ∧ th = nI 1) ∨ (k = 2 ∧ th = nI 2) ∨ (k = 4 ∧ th = nI 3)
theorem halve_q (h : WF S) (hF : RF φ S) (hN : RN N S) {len lk : Int32} : ∃ k v cm' len' lk' th' v9, f8_halve x x2 x3 x4 φ cm len lk = some (k, v, cm', len', lk') ∧ f9_halve x x2 x3 x4 N th = some (v9, th') ∧ QD k v th' v9 := by
  have hc := h.c24
  unfold f8_halve f9_halve
  rw [need_b h hF, f9_isBranch_e h hN, bnd, bnd]
  cases hK : inb x (s_b S)
  · exact ⟨_, _, _, _, _, _, _, rfl, rfl, Or.inr (Or.inl ⟨rfl, rfl⟩)⟩
  obtain ⟨j, hj, -, rfl⟩ := inb_ex hK
  rw [if_pos (show (if true = true then 0 else 1) = 0 from rfl), if_neg b2iT, need_i, f9_isKind_e, bnd, bnd]
  cases hK2 : inb x2 6
  · exact ⟨_, _, _, _, _, _, _, rfl, rfl, Or.inr (Or.inl ⟨rfl, rfl⟩)⟩
  obtain ⟨k, hk, -, rfl⟩ := inb_ex hK2
  rw [if_pos (show (if true = true then 0 else 1) = 0 from rfl), if_neg b2iT, need_a, f9_in_0 (by omega), bnd, bnd]
  cases hK3 : inb x3 100
  · exact ⟨_, _, _, _, _, _, _, rfl, if_pos rfl, Or.inr (Or.inr (Or.inl ⟨rfl, rfl⟩))⟩
  obtain ⟨m, hm, -, rfl⟩ := inb_ex hK3
  have ht := h.tp hj
  have ham := h.am ht hk
  rw [if_pos (show (if true = true then 0 else 2) = 0 from rfl), if_neg b2iT, f1_tipOf_e h hF hj, bnd, f1_amountIn_e h hF ht hk, bnd, f9_top_e h hN hj, bnd, isBad_e h hN ht hk hm, bnd]
  by_cases e : m < s_am S (s_tp S j) k
  · obtain ⟨L, hL2, hL⟩ := len_ex h _ ht
    obtain ⟨cm', q1, q2⟩ := f7_follow_e (cm := cm) (len := len) h hF ht hL hL2
    obtain ⟨q, w, q3, q4⟩ := halve_L (x4 := x4) (th := nI 0) h hF hN hj hL hL2 q2 hk hm L fuel fuel 0 L 0 0 (by omega) (by omega) (by omega) (by omega) (by unfold fuel; omega) (by unfold fuel; omega) (by omega)
    have q5 : f7_searchByHalves (nI k) (nI m) cm' (nI (L + 1)) lk φ = some (q, w) := by
      unfold f7_searchByHalves
      rw [nJ_sub (by omega) (by omega)]
      exact q3
    rw [if_pos (by rw [nJ_lt (by omega) (by omega)]; exact e), decide_eq_true e, if_neg b2iT, q1, bnd, f9_far_e h hN hj hL hL2, bnd, q4]
    dsimp only
    rw [q5, bnd]
    dsimp only
    by_cases e4 : x4 = 0
    · rw [if_pos e4, if_pos e4]
      exact ⟨_, _, _, _, _, _, _, rfl, rfl, Or.inl ⟨rfl, rfl, rfl⟩⟩
    · rw [if_neg e4, if_neg e4]
      exact ⟨_, _, _, _, _, _, _, rfl, rfl, Or.inl ⟨rfl, rfl, rfl⟩⟩
  · rw [if_neg (by rw [nJ_lt (by omega) (by omega)]; exact e), decide_eq_false e, if_pos b2iF, rai_e]
    exact ⟨_, _, _, _, _, _, _, rfl, rfl, Or.inr (Or.inr (Or.inr ⟨rfl, rfl⟩))⟩
theorem bad_L (h : WF S) (hF : RF φ S) (hN : RN N S) (hj : j < s_b S) (hL : LEN S (s_tp S j) L) (hL2 : L ≤ s_tp S j) (hcm : ∀ q, q ≤ L → cm q = nI (lin S (s_tp S j) q)) (hk : k < 6) (hm : m < 100) : ∀ (p n n9 : Nat), p ≤ L + 1 → p < n → p < n9 → (f7_farthestBad_L8 (nI k) (nI m) cm (nI (L + 1)) φ n (nI p - nI 1) = some (-1) ∧ f9_firstBad_L49 (nI j) (nI k) (nI m) N n9 (nI p - nI 1) th = some (nI 0, nI 3)) ∨ (∃ i, i < 24 ∧ f7_farthestBad_L8 (nI k) (nI m) cm (nI (L + 1)) φ n (nI p - nI 1) = some (nI i) ∧ f9_firstBad_L49 (nI j) (nI k) (nI m) N n9 (nI p - nI 1) th = some (nI i, th)) := by
  have hc := h.c24; have ht := h.tp hj
  intro p
  induction p with
  | zero =>
    intro n n9 h1 h2 h3
    obtain ⟨n, rfl⟩ : ∃ n', n = n' + 1 := ⟨n - 1, by omega⟩
    obtain ⟨n9, rfl⟩ : ∃ n', n9 = n' + 1 := ⟨n9 - 1, by omega⟩
    rw [f7_farthestBad_L8, f9_firstBad_L49, if_pos (show nI 0 - nI 1 < 0 by decide), if_pos (show nI 0 - nI 1 < 0 by decide), rai_e, bnd]
    exact Or.inl ⟨rfl, rfl⟩
  | succ p ih =>
    intro n n9 h1 h2 h3
    obtain ⟨n, rfl⟩ : ∃ n', n = n' + 1 := ⟨n - 1, by omega⟩
    obtain ⟨n9, rfl⟩ : ∃ n', n9 = n' + 1 := ⟨n9 - 1, by omega⟩
    have e0 : nI (p + 1) - nI 1 = nI p := by rw [nJ_sub (by omega) (by omega)]; rfl
    have e1 : nI p + (-1) = nI p - nI 1 := (Int32.sub_eq_add_neg (nI p) (nI 1)).symm
    have hlt := lin_lt h ht p
    have ham := h.am hlt hk
    rw [e0, f7_farthestBad_L8, f9_firstBad_L49, if_neg (by rw [nJ_lt0 (by omega)]; exact fun q => q), if_neg (by rw [nJ_lt0 (by omega)]; exact fun q => q), f7_at_e hcm (by omega) (by omega), bnd, f1_amountIn_e h hF hlt hk, bnd, f9_onLineOf_e h hN hj hL hL2 (by omega), bnd, bnd, isBad_e h hN hlt hk hm, bnd, bnd, e1]
    by_cases e : m < s_am S (lin S (s_tp S j) p) k
    · rw [if_neg (by rw [nJ_le (by omega) (by omega)]; omega), decide_eq_true e, if_neg b2iT]
      exact Or.inr ⟨_, by omega, rfl, rfl⟩
    · rw [if_pos (by rw [nJ_le (by omega) (by omega)]; omega), decide_eq_false e, if_pos b2iF]
      exact ih n n9 (by omega) (by omega) (by omega)
theorem firstBad_q (h : WF S) (hF : RF φ S) (hN : RN N S) {len : Int32} : ∃ k v cm' len' th' v9, f8_firstBad x x2 x3 φ cm len = some (k, v, cm', len') ∧ f9_firstBad x x2 x3 N th = some (v9, th') ∧ QD k v th' v9 := by
  have hc := h.c24
  unfold f8_firstBad f9_firstBad
  rw [need_b h hF, f9_isBranch_e h hN, bnd, bnd]
  cases hK : inb x (s_b S)
  · exact ⟨_, _, _, _, _, _, rfl, rfl, Or.inr (Or.inl ⟨rfl, rfl⟩)⟩
  obtain ⟨j, hj, -, rfl⟩ := inb_ex hK
  rw [if_pos (show (if true = true then 0 else 1) = 0 from rfl), if_neg b2iT, need_i, f9_isKind_e, bnd, bnd]
  cases hK2 : inb x2 6
  · exact ⟨_, _, _, _, _, _, rfl, rfl, Or.inr (Or.inl ⟨rfl, rfl⟩)⟩
  obtain ⟨k, hk, -, rfl⟩ := inb_ex hK2
  rw [if_pos (show (if true = true then 0 else 1) = 0 from rfl), if_neg b2iT, need_a, f9_in_0 (by omega), bnd, bnd]
  cases hK3 : inb x3 100
  · exact ⟨_, _, _, _, _, _, rfl, if_pos rfl, Or.inr (Or.inr (Or.inl ⟨rfl, rfl⟩))⟩
  obtain ⟨m, hm, -, rfl⟩ := inb_ex hK3
  have ht := h.tp hj
  obtain ⟨L, hL2, hL⟩ := len_ex h _ ht
  obtain ⟨cm', q1, q2⟩ := f7_follow_e (cm := cm) (len := len) h hF ht hL hL2
  rw [if_pos (show (if true = true then 0 else 2) = 0 from rfl), if_neg b2iT, f1_tipOf_e h hF hj, bnd, q1, bnd, f9_far_e h hN hj hL hL2, bnd]
  dsimp only
  unfold f7_farthestBad
  have e9 : nI L = nI (L + 1) - nI 1 := by rw [nJ_sub (by omega) (by omega)]; rfl
  rw [e9]
  rcases bad_L (th := nI 0) h hF hN hj hL hL2 q2 hk hm (L + 1) fuel fuel (by omega) (by unfold fuel; omega) (by unfold fuel; omega) with ⟨w1, w2⟩ | ⟨i, hi, w1, w2⟩
  · rw [w1, w2, bnd, if_pos rfl]
    exact ⟨_, _, _, _, _, _, rfl, rfl, Or.inr (Or.inr (Or.inr ⟨rfl, rfl⟩))⟩
  · rw [w1, w2, bnd, if_neg (by rw [nJ_eqm (by omega)]; exact fun q => q)]
    exact ⟨_, _, _, _, _, _, rfl, rfl, Or.inl ⟨rfl, rfl, rfl⟩⟩
theorem blame_L (h : WF S) (hF : RF φ S) (hN : RN N S) (hj : j < s_b S) (hL : LEN S (s_tp S j) L) (hL2 : L ≤ s_tp S j) (hcm : ∀ q, q ≤ L → cm q = nI (lin S (s_tp S j) q)) (hk : k < 6) : ∀ (d p n n9 : Nat), p + d = L → d < n → d < n9 → ∃ v, f7_latestChange_L2 (nI k) cm (nI (L + 1)) φ n (nI p) = some v ∧ f9_blame_L32 x1 (nI k) N n9 (nI (lin S (s_tp S j) p)) th = some (v, th) := by
  have hc := h.c24; have ht := h.tp hj
  intro d
  induction d with
  | zero =>
    intro p n n9 hp hn hn9
    obtain ⟨n, rfl⟩ : ∃ n', n = n' + 1 := ⟨n - 1, by omega⟩
    obtain ⟨n9, rfl⟩ : ∃ n', n9 = n' + 1 := ⟨n9 - 1, by omega⟩
    have : p = L := by omega
    subst this
    rw [f7_latestChange_L2, f9_blame_L32, hL.1, if_pos (by rw [nJ_sub (by omega) (by omega), nJ_le (by omega) (by omega)]; omega), if_pos (show nI 0 ≤ 0 by decide)]
    exact ⟨_, rfl, rfl⟩
  | succ d ih =>
    intro p n n9 hp hn hn9
    obtain ⟨n, rfl⟩ : ∃ n', n = n' + 1 := ⟨n - 1, by omega⟩
    obtain ⟨n9, rfl⟩ : ∃ n', n9 = n' + 1 := ⟨n9 - 1, by omega⟩
    have l1 := lin_lt h ht p; have l2 := lin_lt h ht (p + 1)
    have a1 := h.am l1 hk; have a2 := h.am l2 hk
    have h0 := hL.2 p (by omega)
    rw [f7_latestChange_L2, f9_blame_L32, if_neg (by rw [nJ_sub (by omega) (by omega), nJ_le (by omega) (by omega)]; omega), if_neg (by rw [nJ_le0 (by omega)]; omega), f7_at_e hcm (by omega) (by omega), bnd, f1_amountIn_e h hF l1 hk, bnd, nI_add, f7_at_e hcm (by omega) (by omega), bnd, f1_amountIn_e h hF l2 hk, bnd, f9_has_e h hN l1 hk, bnd, f9_fs_e h hN l1, bnd, bnd, bnd, lin_fs h ht hL (by omega), show oI (some (lin S (s_tp S j) (p + 1))) = nI (lin S (s_tp S j) (p + 1)) from rfl, f9_has_e h hN l2 hk, bnd]
    by_cases e : s_am S (lin S (s_tp S j) p) k = s_am S (lin S (s_tp S j) (p + 1)) k
    · rw [if_pos (by rw [e]), if_pos (by rw [e])]
      exact ih (p + 1) n n9 (by omega) (by omega) (by omega)
    · rw [if_neg (by rw [nJ_eq (by omega) (by omega)]; exact e), if_neg (by rw [nJ_eq (by omega) (by omega)]; exact e)]
      exact ⟨_, rfl, rfl⟩
theorem blame_q (h : WF S) (hF : RF φ S) (hN : RN N S) {len : Int32} : ∃ k v cm' len' th' v9, f8_blame x x2 φ cm len = some (k, v, cm', len') ∧ f9_blame x x2 N th = some (v9, th') ∧ QA k v th' v9 := by
  have hc := h.c24
  unfold f8_blame f9_blame
  rw [need_b h hF, f9_isBranch_e h hN, bnd, bnd]
  cases hK : inb x (s_b S)
  · exact ⟨_, _, _, _, _, _, rfl, rfl, Or.inr ⟨rfl, rfl⟩⟩
  obtain ⟨j, hj, -, rfl⟩ := inb_ex hK
  rw [if_pos (show (if true = true then 0 else 1) = 0 from rfl), if_neg b2iT, need_i, f9_isKind_e, bnd, bnd]
  cases hK2 : inb x2 6
  · exact ⟨_, _, _, _, _, _, rfl, rfl, Or.inr ⟨rfl, rfl⟩⟩
  obtain ⟨k, hk, -, rfl⟩ := inb_ex hK2
  have ht := h.tp hj
  obtain ⟨L, hL2, hL⟩ := len_ex h _ ht
  obtain ⟨cm', q1, q2⟩ := f7_follow_e (cm := cm) (len := len) h hF ht hL hL2
  obtain ⟨v, q3, q4⟩ := blame_L (x1 := nI j) (th := nI 0) h hF hN hj hL hL2 q2 hk L 0 fuel fuel (by omega) (by unfold fuel; omega) (by unfold fuel; omega)
  have q3 : f7_latestChange (nI k) cm' (nI (L + 1)) φ = some v := q3
  have q4 : f9_blame_L32 (nI j) (nI k) N fuel (nI (s_tp S j)) (nI 0) = some (v, nI 0) := q4
  rw [if_pos (show (if true = true then 0 else 1) = 0 from rfl), if_neg b2iT, f1_tipOf_e h hF hj, bnd, q1, bnd, f9_top_e h hN hj, bnd, q4]
  dsimp only
  rw [q3]
  exact ⟨_, _, _, _, _, _, rfl, rfl, Or.inl ⟨rfl, rfl, rfl⟩⟩
end MU
/-! the start, and the line -/
def S0 : SS := ((1, 1, -1), fun _ => 0, fun _ => none, fun _ => none, fun _ => 1, fun _ => 0, fun _ _ => 0, fun _ => 0, fun _ => none)
theorem S0_wf : WF S0 := by
  refine ⟨⟨Nat.le_refl _, by decide, Nat.le_refl _, by decide, Or.inl rfl, rfl, rfl, rfl⟩, fun i hi => ?_, fun j hj => Nat.one_pos, fun p i hp hi => by cases (show (none : Option Nat) = some i from hi)⟩
  have hi : i < 1 := hi
  have : i = 0 := by omega
  subst this
  exact ⟨by decide, fun q => absurd q (by omega), fun j q => (by cases (show (none : Option Nat) = some j from q)), rfl, rfl, fun k hk => Nat.zero_le _⟩
theorem S0_rf : RF fo0 S0 := by
  refine ⟨⟨rfl, rfl, rfl⟩, fun p hp => ?_, fun j hj => rfl, fun i hi => ?_⟩
  · rcases (show p = 0 ∨ p = 1 ∨ p = 2 ∨ p = 3 by omega) with rfl | rfl | rfl | rfl <;> rfl
  · have hi : i < 1 := hi
    have : i = 0 := by omega
    subst this
    exact ⟨rfl, rfl, rfl, rfl, rfl, fun k hk => rfl⟩
theorem S0_rn : RN (upd (upd (upd (upd (upd (fun _ => 0) ((nI 0)).toNatClampNeg (nI 1)) ((nI 1)).toNatClampNeg (nI 1)) ((nI 2)).toNatClampNeg (-1 : Int32)) ((nI 13)).toNatClampNeg (-1 : Int32)) ((nI 14)).toNatClampNeg (-1 : Int32)) S0 := by
  rw [show (nI 0).toNatClampNeg = 0 from rfl, show (nI 1).toNatClampNeg = 1 from rfl, show (nI 2).toNatClampNeg = 2 from rfl, show (nI 13).toNatClampNeg = 13 from rfl, show (nI 14).toNatClampNeg = 14 from rfl]
  have far : ∀ q, q ≠ 0 → q ≠ 1 → q ≠ 2 → q ≠ 13 → q ≠ 14 → upd (upd (upd (upd (upd (fun _ => 0) 0 (nI 1)) 1 (nI 1)) 2 (-1 : Int32)) 13 (-1 : Int32)) 14 (-1 : Int32) q = 0 := by
    intro q h0 h1 h2 h3 h4
    rw [upd_n _ _ h4, upd_n _ _ h3, upd_n _ _ h2, upd_n _ _ h1, upd_n _ _ h0]
  refine ⟨⟨rfl, rfl, rfl⟩, fun p hp => ?_, fun j hj => ?_, fun i hi => ?_⟩
  · exact far _ (by omega) (by omega) (by omega) (by omega) (by omega)
  · have hj : j < 1 := hj
    exact far _ (by omega) (by omega) (by omega) (by omega) (by omega)
  · have hi : i < 1 := hi
    have : i = 0 := by omega
    subst this
    refine ⟨rfl, rfl, rfl, fun k hk => ?_⟩
    exact far _ (by omega) (by omega) (by omega) (by omega) (by omega)
section MV
variable {S : SS} {N M K : AI} {φ ψ φ' : Fo} {x x1 x2 x3 x4 an th r is nx cn un ln : Int32} {p q : AI} {i j k n u a b c m t L v : Nat}
def LR (n : Nat) (p q : AI) : Prop := ∀ i, i < n → ch (p i) = ch (q i)
theorem LR_up {y z : Int32} (h : LR n p q) (hy : ch y = ch z) : LR (n + 1) (upd p n y) (upd q n z) := by
  intro i hi
  by_cases e : i = n
  · rw [e, upd_s, upd_s]; exact hy
  · rw [upd_n _ _ e, upd_n _ _ e]; exact h i (by omega)
theorem f4_addSign_e (hn : n < 24) : f4_addSign x p (nI n) = some (upd p n (ch x), nI (n + 1)) := by
  unfold f4_addSign
  rw [if_neg (by rw [nJ_lt0 (by omega)]; exact fun q => q), if_neg (by rw [nJ_le (by omega) (by omega)]; omega), inb_t (by omega) (by omega), if_pos rfl, lt_eq, lt_eq, nJ_nat (by omega), nI_add]
theorem num_2 (h : LR n p q) (hv : v ≤ 99) (hn : n + 2 ≤ 24) : ∃ n' p' q', f4_addNumber (nI v) p (nI n) = some (p', nI n') ∧ f9_writesNumber (nI v) q (nI n) = some (q', nI n') ∧ LR n' p' q' ∧ n' ≤ n + 2 := by
  have e1 : nI v - nI v / nI 10 * nI 10 = nI (v % 10) := nJ_mod (by omega) (by omega) (by omega)
  have e2 : nI v / nI 10 = nI (v / 10) := nJ_div (by omega) (by omega)
  have e3 : nI (v / 10) - nI (v / 10) / nI 10 * nI 10 = nI (v / 10) := by
    rw [nJ_mod (by omega) (by omega) (by omega)]
    congr 1
    omega
  unfold f4_addNumber f9_writesNumber
  by_cases e : v < 10
  · rw [if_pos (by rw [nJ_lt (by omega) (by omega)]; exact e), if_pos (by rw [nJ_le (by omega) (by omega)]; omega), e1, f4_addSign_e (by omega), bnd, lt_eq, inb_t (by omega) (by omega), if_pos rfl, lt_eq, nJ_nat (by omega), nI_add, nI_add]
    exact ⟨n + 1, _, _, rfl, rfl, LR_up h rfl, by omega⟩
  · rw [if_neg (by rw [nJ_lt (by omega) (by omega)]; exact e), if_neg (by rw [nJ_le (by omega) (by omega)]; omega), e1, e2, e3, f4_addSign_e (by omega), bnd]
    dsimp only
    rw [f4_addSign_e (by omega), bnd, lt_eq, inb_t (by omega) (by omega), if_pos rfl, lt_eq, lt_eq, nI_add n 1, inb_t (by omega) (by omega), if_pos rfl, lt_eq, nJ_nat (by omega), nJ_nat (by omega), nI_add (n + 1) 1]
    exact ⟨n + 1 + 1, _, _, rfl, rfl, LR_up (LR_up h rfl) rfl, by omega⟩
theorem line_L (h : WF S) (hF : RF φ S) (hN : RN N S) (hi : i < s_c S) : ∀ (d k n n9 l : Nat) (p q : AI), k + d = 6 → d < n → d < n9 → LR l p q → l + 3 * d ≤ 23 → ∃ l' p' q', f4_write_L36 (nI i) φ n (nI k) p (nI l) = some (nI l', p', nI l') ∧ f9_line_L94 (nI i) N n9 (nI k) q (nI l) th = some (nI l', q', nI l', th) ∧ LR l' p' q' ∧ l' ≤ 23 := by
  intro d
  induction d with
  | zero =>
    intro k n n9 l p q hk hn hn9 hl hb
    obtain ⟨n, rfl⟩ : ∃ n', n = n' + 1 := ⟨n - 1, by omega⟩
    obtain ⟨n9, rfl⟩ : ∃ n', n9 = n' + 1 := ⟨n9 - 1, by omega⟩
    have : k = 6 := by omega
    subst this
    rw [f4_write_L36, f9_line_L94, if_pos (show nI 6 ≤ nI 6 by decide), if_pos (show nI 6 ≤ nI 6 by decide)]
    exact ⟨l, p, q, rfl, rfl, hl, by omega⟩
  | succ d ih =>
    intro k n n9 l p q hk hn hn9 hl hb
    obtain ⟨n, rfl⟩ : ∃ n', n = n' + 1 := ⟨n - 1, by omega⟩
    obtain ⟨n9, rfl⟩ : ∃ n', n9 = n' + 1 := ⟨n9 - 1, by omega⟩
    have hle : ¬ nI 6 ≤ nI k := by rw [nJ_le (by omega) (by omega)]; omega
    obtain ⟨n', p', q', w1, w2, w3, w4⟩ := num_2 (LR_up hl (show ch (ch (nI 32)) = ch (nI 32) by decide +kernel)) (h.am hi (show k < 6 by omega)) (show l + 1 + 2 ≤ 24 by omega)
    obtain ⟨l', p2, q2, v1, v2, v3, v4⟩ := ih (k + 1) n n9 n' p' q' (by omega) (by omega) (by omega) w3 (by omega)
    rw [f4_write_L36, f9_line_L94, if_neg hle, if_neg hle, f4_addSign_e (by omega), bnd]
    dsimp only
    rw [f1_amountIn_e h hF hi (by omega), bnd, w1, bnd, lt_eq, inb_t (by omega) (by omega), if_pos rfl, lt_eq, f9_has_e h hN hi (by omega), bnd, nJ_nat (by omega), nI_add l 1, w2, bnd, nI_add]
    exact ⟨l', p2, q2, v1, v2, v3, v4⟩
theorem letter_2 (hk : k < 3) : ∃ y, f4_letterOf (nI k) = some y ∧ inb (nI k) (s9Len) = true ∧ ch (ch y) = ch (ch (s9Ch (nI k).toNatClampNeg)) := by
  rcases (show k = 0 ∨ k = 1 ∨ k = 2 by omega) with rfl | rfl | rfl
  · exact ⟨nI 101, by decide +kernel, by decide +kernel, by decide +kernel⟩
  · exact ⟨nI 109, by decide +kernel, by decide +kernel, by decide +kernel⟩
  · exact ⟨nI 112, by decide +kernel, by decide +kernel, by decide +kernel⟩
theorem line_q (h : WF S) (hF : RF φ S) (hN : RN N S) {l m : Int32} (hL : IVL p l q m) : ∃ k v p' l' th' v9 q' m', f8_line x φ p l = some (k, v, p', l') ∧ f9_line x N q m th = some (v9, q', m', th') ∧ QA k v th' v9 ∧ IVL p' l' q' m' := by
  have hc := h.c24
  unfold f8_line f9_line
  rw [need_c h hF, f9_isCommit_e h hN, bnd, bnd]
  cases hK : inb x (s_c S)
  · exact ⟨_, _, _, _, _, _, _, _, rfl, rfl, Or.inr ⟨rfl, rfl⟩, hL⟩
  obtain ⟨i, hi, -, rfl⟩ := inb_ex hK
  obtain ⟨n1, p1, q1, w1, w2, w3, w4⟩ := num_2 (n := 0) (p := p) (q := q) (fun i hi => absurd hi (by omega)) (show i ≤ 99 by omega) (by omega)
  obtain ⟨y, y1, y2, y3⟩ := letter_2 (h.kd hi)
  have r1 := LR_up w3 (show ch (ch (nI 32)) = ch (nI 32) by decide +kernel)
  have r2 := LR_up r1 y3
  have r3 := LR_up r2 (show ch (ch (nI 58)) = ch (nI 58) by decide +kernel)
  obtain ⟨l', p2, q2, v1, v2, v3, v4⟩ := line_L (th := nI 0) h hF hN hi 6 0 fuel fuel _ _ _ (by omega) (by unfold fuel; omega) (by unfold fuel; omega) r3 (by omega)
  rw [if_pos (show (if true = true then 0 else 1) = 0 from rfl), if_neg b2iT]
  unfold f4_write
  rw [w1, bnd]
  dsimp only
  rw [f4_addSign_e (by omega), bnd]
  dsimp only
  rw [f1_kindOf_e h hF hi, bnd, y1, bnd, f4_addSign_e (by omega), bnd]
  dsimp only
  rw [f4_addSign_e (by omega), bnd]
  dsimp only
  rw [v1, bnd, w2, bnd]
  dsimp only
  rw [lt_eq, inb_t (by omega) (by omega), if_pos rfl, lt_eq, lt_eq, f9_kd_e h hN hi, bnd, if_pos (show 6 < 7 by decide), y2, if_pos rfl, nI_add n1 1, inb_t (by omega) (by omega), if_pos rfl, lt_eq, lt_eq, nI_add (n1 + 1) 1, inb_t (by omega) (by omega), if_pos rfl, lt_eq, nI_add (n1 + 1 + 1) 1, nJ_nat (show n1 < 2 ^ 31 by omega), nJ_nat (show n1 + 1 < 2 ^ 31 by omega), nJ_nat (show n1 + 1 + 1 < 2 ^ 31 by omega), v2]
  exact ⟨_, _, _, _, _, _, _, _, rfl, rfl, Or.inl ⟨rfl, rfl, rfl⟩, ⟨l', by omega, rfl, rfl, v3⟩⟩
end MV
