/-! the first forest that the law makes -/
section MK
variable {S : SS} {τ : TO} {φ : Fo} {row : AI} {rs dt cc lo x1 x2 x3 : Int32} {j j2 k v b o r c : Nat} {L : LX}
def OK3 (S : SS) (r : Int32) (φ' : Fo) : Prop := (∃ a S', WF S' ∧ RF φ' S' ∧ a < 2 ^ 31 ∧ r = nI a ∧ s_b S' = s_b S ∧ s_c S ≤ s_c S' ∧ s_c S' ≤ s_c S + 1) ∨ r = -3
theorem RSo_n {w : Nat} (h : 1 ≤ w) (h2 : w ≤ 11) : RSo (nI w) := Or.inr ⟨w, h, h2, rfl⟩
theorem edit_3 (h : WF S) (hF : RF φ S) (hj : j < s_b S) (hk : k < 6) (hv : v ≤ 99) (hc : s_c S < 24) : (s_am S (s_tp S j) k = v ∧ f0_tryEdit (nI j) (nI k) (nI v) rs dt row φ = some (-3, nI 2, nI v, row, φ)) ∨ (s_am S (s_tp S j) k ≠ v ∧ ∃ row' φ', f0_tryEdit (nI j) (nI k) (nI v) rs dt row φ = some (nI (s_c S), rs, dt, row', φ') ∧ WF (addS S j 0 none (upN (s_am S (s_tp S j)) k v)) ∧ RF φ' (addS S j 0 none (upN (s_am S (s_tp S j)) k v))) := by
  have h5 := h.b5; have ht := h.tp hj; have ha := h.am ht hk
  unfold f0_tryEdit
  rw [f1_isBranch_e h hF, inb_t hj (by omega), bnd, if_neg b2iT, f8_isIngredient_e, inb_t hk (by omega), bnd, if_neg b2iT, f8_isAmount_e, inb_t (show v < 100 by omega) (by omega), bnd, if_neg b2iT, f1_tipOf_e h hF hj, bnd, f1_amountIn_e h hF ht hk, bnd]
  by_cases e : s_am S (s_tp S j) k = v
  · left
    rw [if_pos (by rw [e])]
    exact ⟨e, rfl⟩
  · right
    refine ⟨e, ?_⟩
    rw [if_neg (by rw [nJ_eq (by omega) (by omega)]; exact e), f1_isFull_e h hF, bnd, decide_eq_false (show ¬ s_c S = 24 by omega), if_pos b2iF]
    obtain ⟨row', q1, q2⟩ := f5_change_e (row := row) h hF ht hk (v := v)
    obtain ⟨φ', q3, q4⟩ := f1_addCommit_e (kd := 0) (sc := none) h hF hj (by omega) (fun i q => by cases q) q2
    have q3 : f1_addCommit (nI j) (nI 0) (-1) φ row' = _ := q3
    rw [q1, bnd, show f5_amounts = some () from rfl, bnd, q3, bnd]
    exact ⟨row', φ', rfl, addS_wf h hj (by omega) (by omega) (fun i q => by cases q) (fun u hu => by
      by_cases e3 : u = k
      · rw [e3, upN_s]; omega
      · rw [upN_n _ _ e3]; exact h.am ht hu) (fun _ => unl_up hk (fun q => e q.symm)), q4⟩
theorem pickC_3 (h : WF S) (hF : RF φ S) (hR : RSo rs) (hj : j < s_b S) (hb : b < s_c S) (ho : o < s_c S) (hr : r < 4) : ∃ r' rs' dt' row' cc' lo' φ', f0_pickChange (nI j) (nI b) (nI o) (nI r) rs dt row cc lo φ = some (r', rs', dt', row', cc', lo', φ') ∧ RSo rs' ∧ OK3 S r' φ' := by
  have ht := h.tp hj; have hc := h.c24
  obtain ⟨w, q1, q2⟩ := f5_putTogether_e (row := row) (x := cc) (y := lo) h hF ht hb ho hr
  have hle : ∀ u, u < 6 → mixr S (s_tp S j) b o r u ≤ 99 := fun u hu => mixr_le h ht hb hu
  unfold f0_pickChange
  rw [f1_tipOf_e h hF hj, bnd, q1, bnd]
  dsimp only
  rw [f0_isStopped_e hr, bnd]
  cases hs : stp S (s_tp S j) b o r with
  | true =>
    rw [if_neg b2iT]
    exact ⟨_, _, _, _, _, _, _, rfl, RSo_n (by omega) (by omega), Or.inr rfl⟩
  | false =>
    rw [if_pos b2iF, f5_isRowOf_e h hF ht q2 hle, bnd]
    cases he : eq6 (mixr S (s_tp S j) b o r) (s_am S (s_tp S j)) with
    | true =>
      rw [if_neg b2iT]
      exact ⟨_, _, _, _, _, _, _, rfl, RSo_n (by omega) (by omega), Or.inr rfl⟩
    | false =>
      rw [if_pos b2iF, f1_isFull_e h hF, bnd]
      by_cases e2 : s_c S = 24
      · rw [decide_eq_true e2, if_neg b2iT]
        exact ⟨_, _, _, _, _, _, _, rfl, RSo_n (by omega) (by omega), Or.inr rfl⟩
      · obtain ⟨φ', q3, q4⟩ := f1_addCommit_e (kd := 2) (sc := none) h hF hj (by omega) (fun i q => by cases q) q2
        have w1 : f1_addCommit (nI j) (nI 2) (-1) φ w = _ := q3
        rw [decide_eq_false e2, if_pos b2iF, show f5_amounts = some () from rfl, bnd, w1, bnd]
        exact ⟨_, _, _, _, _, _, _, rfl, hR, Or.inl ⟨s_c S, addS S j 2 none (mixr S (s_tp S j) b o r), addS_wf h hj (by omega) (by omega) (fun i q => by cases q) hle (fun q => absurd q (by omega)), q4, by omega, rfl, rfl, by show s_c S ≤ s_c S + 1; omega, by show s_c S + 1 ≤ s_c S + 1; omega⟩⟩
theorem pick_3 (h : WF S) (hF : RF φ S) (hR : RSo rs) (hj : j < s_b S) (hk : c < s_c S) (hr : r < 4) : ∃ r' rs' dt' row' cc' lo' φ', f0_tryPick (nI j) (nI c) (nI r) rs dt row cc lo φ = some (r', rs', dt', row', cc', lo', φ') ∧ RSo rs' ∧ OK3 S r' φ' := by
  have h5 := h.b5; have hc := h.c24; have ht := h.tp hj
  unfold f0_tryPick
  rw [f1_isBranch_e h hF, inb_t hj (by omega), bnd, if_neg b2iT, f1_isCommit_e h hF, inb_t hk (by omega), bnd, if_neg b2iT, f8_isRule_e, inb_t hr (by omega), bnd, if_neg b2iT, f1_tipOf_e h hF hj, bnd, f1_hasInFamily_e h hF ht hk, bnd]
  cases hw : (s_fa S (s_tp S j)).testBit c
  · have h0 : 0 < c := Nat.pos_of_ne_zero (fun q => by rw [q, h.root _ ht] at hw; cases hw)
    obtain ⟨q, e1, e2⟩ := h.fs hk h0
    rw [if_pos b2iF, f1_firstOf_e h hF hk, bnd, e1, show oI (some q) = nI q from rfl, bind_7]
    exact pickC_3 h hF hR hj hk (by omega) hr
  · rw [if_neg b2iT]
    exact ⟨_, _, _, _, _, _, _, rfl, RSo_n (by omega) (by omega), Or.inr rfl⟩
theorem merge_3 (h : WF S) (hF : RF φ S) (hR : RSo rs) (hj : j < s_b S) (hj2 : j2 < s_b S) (hr : r < 4) : ∃ r' rs' dt' row' cc' lo' φ', f0_tryMerge (nI j) (nI j2) (nI r) rs dt row cc lo φ = some (r', rs', dt', row', cc', lo', φ') ∧ RSo rs' ∧ OK3 S r' φ' := by
  have h5 := h.b5; have hc := h.c24; have ht := h.tp hj; have ht2 := h.tp hj2
  unfold f0_tryMerge
  rw [f1_isBranch_e (x := nI j) h hF, inb_t hj (by omega), bnd, if_neg b2iT, f1_isBranch_e (x := nI j2) h hF, inb_t hj2 (by omega), bnd, if_neg b2iT, f8_isRule_e, inb_t hr (by omega), bnd, if_neg b2iT, f1_tipOf_e h hF hj, bnd, f1_tipOf_e h hF hj2, bnd, f1_hasInFamily_e h hF ht ht2, bnd]
  cases hw : (s_fa S (s_tp S j)).testBit (s_tp S j2)
  · rw [if_pos b2iF, f1_hasInFamily_e h hF ht2 ht, bnd]
    cases hw2 : (s_fa S (s_tp S j2)).testBit (s_tp S j)
    · have hcm := cmn_lt h ht ht2
      obtain ⟨w, q1, q2⟩ := f5_putTogether_e (row := row) (x := cc) (y := lo) h hF ht ht2 hcm hr
      have hle : ∀ u, u < 6 → mixr S (s_tp S j) (s_tp S j2) (cmn S (s_tp S j) (s_tp S j2)) r u ≤ 99 := fun u hu => mixr_le h ht ht2 hu
      rw [if_pos b2iF, f1_commonGround_e h hF ht ht2, bnd, q1, bnd]
      dsimp only
      rw [f0_isStopped_e hr, bnd]
      cases hs : stp S (s_tp S j) (s_tp S j2) (cmn S (s_tp S j) (s_tp S j2)) r with
      | true =>
        rw [if_neg b2iT]
        exact ⟨_, _, _, _, _, _, _, rfl, RSo_n (by omega) (by omega), Or.inr rfl⟩
      | false =>
        rw [if_pos b2iF, f1_isFull_e h hF, bnd]
        by_cases e2 : s_c S = 24
        · rw [decide_eq_true e2, if_neg b2iT]
          exact ⟨_, _, _, _, _, _, _, rfl, RSo_n (by omega) (by omega), Or.inr rfl⟩
        · obtain ⟨φ', q3, q4⟩ := f1_addCommit_e (kd := 1) (sc := some (s_tp S j2)) h hF hj (by omega) (fun i q => by cases q; exact ht2) q2
          have w1 : f1_addCommit (nI j) (nI 1) (nI (s_tp S j2)) φ w = _ := q3
          rw [decide_eq_false e2, if_pos b2iF, show f5_amounts = some () from rfl, bnd, w1, bnd]
          exact ⟨_, _, _, _, _, _, _, rfl, hR, Or.inl ⟨s_c S, addS S j 1 (some (s_tp S j2)) (mixr S (s_tp S j) (s_tp S j2) (cmn S (s_tp S j) (s_tp S j2)) r), addS_wf h hj (by omega) (by omega) (fun i q => by cases q; exact ht2) hle (fun q => absurd q (by omega)), q4, by omega, rfl, rfl, by show s_c S ≤ s_c S + 1; omega, by show s_c S + 1 ≤ s_c S + 1; omega⟩⟩
    · obtain ⟨φ', q1, q2⟩ := f1_moveTip_e (c := s_tp S j2) h hF hj
      rw [if_neg b2iT, q1, bnd]
      exact ⟨_, _, _, _, _, _, _, rfl, hR, Or.inl ⟨s_tp S j2, moveS S j (s_tp S j2), moveS_wf h hj ht2, q2, by omega, rfl, rfl, by show s_c S ≤ s_c S; omega, by show s_c S ≤ s_c S + 1; omega⟩⟩
  · rw [if_neg b2iT]
    exact ⟨_, _, _, _, _, _, _, rfl, RSo_n (by omega) (by omega), Or.inr rfl⟩
/-- an object in order -/
def MK (S : SS) (τ : TO) : Prop := WF S ∧ RF (t_forest_f τ) S ∧ t_inp_length τ = nI 0 ∧ LN τ ∧ RSo (t_desk_reason τ) ∧ ∃ u g, HT τ u g
def Gr (S S' : SS) : Prop := s_b S' = s_b S ∧ s_c S ≤ s_c S' ∧ s_c S' ≤ s_c S + 1
theorem MK_ce {τ' : TO} (h : MK S τ) (e : ce τ' = ce τ) (hr : RSo (t_desk_reason τ')) : MK S τ' := by
  obtain ⟨a, b, c, d, f, u, g, i⟩ := h
  exact ⟨a, by rw [ce_f e]; exact b, (ce_i e).trans c, by rw [ce_l e]; exact d, hr, u, g, ce_h e i⟩
theorem Gr_rf : Gr S S := ⟨rfl, Nat.le_refl _, by omega⟩
theorem merge_v (hM : MK S τ) (hj : j < s_b S) (hj2 : j2 < s_b S) (hr : r < 4) : ∃ r' τ' S', t_merge (nI j) (nI j2) (nI r) τ = some (r', τ') ∧ MK S' τ' ∧ Gr S S' ∧ (0 ≤ r' ∨ r' = -1003) := by
  have hM2 := hM
  obtain ⟨h, hF, hI, hL, hR, u, g, hG⟩ := hM
  obtain ⟨r', rs', dt', row', cc', lo', φ', q1, q2, ⟨a, S', v1, v2, v3, rfl, v4⟩ | rfl⟩ := merge_3 (dt := t_desk_detail τ) (row := t_mix_row τ) (cc := t_mix_conflictCount τ) (lo := t_mix_lowest τ) h hF hR hj hj2 hr
  · obtain ⟨τ', z1, z2, z3, z4, z9, z5, z6, z7, z8⟩ := up_merge_0 q1 v3 hG
    exact ⟨_, τ', S', z1, ⟨v1, by rw [z5]; exact v2, z4.trans hI, by rw [z9]; exact hL, by rw [z7]; exact q2, _, _, z6⟩, v4, Or.inl (nI_pos' v3)⟩
  · obtain ⟨τ', z1, z2, z3, z4⟩ := up_merge_3 q1
    exact ⟨_, τ', S, z1, MK_ce hM2 z2 (by rw [z3]; exact q2), Gr_rf, Or.inr rfl⟩
theorem pick_v (hM : MK S τ) (hj : j < s_b S) (hk : c < s_c S) (hr : r < 4) : ∃ r' τ' S', t_pick (nI j) (nI c) (nI r) τ = some (r', τ') ∧ MK S' τ' ∧ Gr S S' ∧ (0 ≤ r' ∨ r' = -1003) := by
  have hM2 := hM
  obtain ⟨h, hF, hI, hL, hR, u, g, hG⟩ := hM
  obtain ⟨r', rs', dt', row', cc', lo', φ', q1, q2, ⟨a, S', v1, v2, v3, rfl, v4⟩ | rfl⟩ := pick_3 (dt := t_desk_detail τ) (row := t_mix_row τ) (cc := t_mix_conflictCount τ) (lo := t_mix_lowest τ) h hF hR hj hk hr
  · obtain ⟨τ', z1, z2, z3, z4, z9, z5, z6, z7, z8⟩ := up_pick_0 q1 v3 hG
    exact ⟨_, τ', S', z1, ⟨v1, by rw [z5]; exact v2, z4.trans hI, by rw [z9]; exact hL, by rw [z7]; exact q2, _, _, z6⟩, v4, Or.inl (nI_pos' v3)⟩
  · obtain ⟨τ', z1, z2, z3, z4⟩ := up_pick_3 q1
    exact ⟨_, τ', S, z1, MK_ce hM2 z2 (by rw [z3]; exact q2), Gr_rf, Or.inr rfl⟩
theorem edit_v (hM : MK S τ) (hj : j < s_b S) (hk : k < 6) (hv : v ≤ 99) (hc : s_c S < 24) : ∃ r' τ' S', t_edit (nI j) (nI k) (nI v) τ = some (r', τ') ∧ MK S' τ' ∧ Gr S S' ∧ (0 ≤ r' ∨ (r' = -1003 ∧ t_desk_reason τ' = nI 2)) ∧ (s_am S (s_tp S j) k ≠ v → r' = nI (s_c S) ∧ S' = addS S j 0 none (upN (s_am S (s_tp S j)) k v)) := by
  have hM2 := hM
  obtain ⟨h, hF, hI, hL, hR, u, g, hG⟩ := hM
  rcases edit_3 (rs := t_desk_reason τ) (dt := t_desk_detail τ) (row := t_mix_row τ) h hF hj hk hv hc with ⟨e, q1⟩ | ⟨e, row', φ', q1, v1, v2⟩
  · obtain ⟨τ', z1, z2, z3, z4⟩ := up_edit_3 q1
    exact ⟨_, τ', S, z1, MK_ce hM2 z2 (by rw [z3]; exact RSo_n (by omega) (by omega)), Gr_rf, Or.inr ⟨rfl, z3⟩, fun q => absurd e q⟩
  · obtain ⟨τ', z1, z2, z3, z4, z9, z5, z6, z7, z8⟩ := up_edit_0 q1 (by omega) hG
    exact ⟨_, τ', _, z1, ⟨v1, by rw [z5]; exact v2, z4.trans hI, by rw [z9]; exact hL, by rw [z7]; exact hR, _, _, z6⟩, ⟨rfl, by show s_c S ≤ s_c S + 1; omega, by show s_c S + 1 ≤ s_c S + 1; omega⟩, Or.inl (nI_pos' (by omega)), fun _ => ⟨rfl, rfl⟩⟩
theorem fork_v (hM : MK S τ) (hj : j < s_b S) (hb : s_b S < 5) : ∃ τ', t_fork (nI j) τ = some (nI (s_b S), τ') ∧ MK (forkS S j) τ' := by
  obtain ⟨h, hF, hI, hL, hR, u, g, hG⟩ := hM
  obtain ⟨φ', q1, v2⟩ := fork_ok (rs := t_desk_reason τ) (dt := t_desk_detail τ) h hF hj hb
  obtain ⟨τ', z1, z2, z3, z4, z9, z5, z6, z7, z8⟩ := up_fork_0 q1 (by omega) hG
  exact ⟨τ', z1, forkS_wf h hj hb, by rw [z5]; exact v2, z4.trans hI, by rw [z9]; exact hL, by rw [z7]; exact hR, _, _, z6⟩
theorem at_e (hlen : L.1.2.1 < 2 ^ 31) (k : Nat) (hk : k < 2 ^ 31) : ∃ v, fL_at L (nI k) = some v := by
  unfold fL_at
  by_cases e : L.1.2.1 ≤ k
  · rw [if_pos (by rw [nJ_le hlen hk]; exact e)]
    exact ⟨_, rfl⟩
  · rw [if_neg (by rw [nJ_le hlen hk]; exact e), inb_t (by omega) hlen, if_pos rfl]
    exact ⟨_, rfl⟩
theorem refusal0 {w : Int32} (hw : ¬ w = -1) (e1 : t_desk_reason τ = w) : t_refusal (nI 0) τ = some (w, τ) := by
  unfold t_refusal fL_refusal f8_refusal f0_latestReason
  rw [e1, bnd, if_neg hw, if_pos (by decide), bnd]
  rfl
theorem makes_end (hlen : L.1.2.1 < 2 ^ 31) (hM : MK S τ) (hb : s_b S = 3) (hc : 4 ≤ s_c S) (hc2 : s_c S ≤ 13) {n : Nat} {x : Int32} (hx : nI 9 ≤ x) : ∃ τ' S', fL_makes_L61 L (n + 1) x τ = some (true, τ') ∧ MK S' τ' ∧ s_b S' = 3 := by
  obtain ⟨v1, a1⟩ := at_e hlen 12 (by omega)
  obtain ⟨r1, hr1, b1⟩ := some_e v1 (n := 4) (by omega) (by omega)
  obtain ⟨m1, τ1, S1, c1, d1, g1, f1⟩ := merge_v (j := 0) (j2 := 1) hM (by omega) (by omega) hr1
  obtain ⟨v2, a2⟩ := at_e hlen 13 (by omega)
  obtain ⟨g2, g3, g4⟩ := g1
  obtain ⟨r2, hr2, b2⟩ := some_e v2 (n := s_c S1 - 1) (by omega) (by omega)
  obtain ⟨v3, a3⟩ := at_e hlen 14 (by omega)
  obtain ⟨r3, hr3, b3⟩ := some_e v3 (n := 4) (by omega) (by omega)
  obtain ⟨m2, τ2, S2, c2, d2, g5, f2⟩ := pick_v (j := 2) (c := 1 + r2) d1 (by omega) (by omega) hr3
  refine ⟨τ2, S2, ?_, d2, by rw [g5.1, g2, hb]⟩
  have hacc := acc0_x d1.2.1
  rw [fL_makes_L61, if_pos hx, a1, bnd, b1, bnd, c1, bnd]
  dsimp only
  rcases f1 with f1 | f1
  · rw [if_pos f1, a2, bnd, hacc, bnd]
    dsimp only
    rw [nJ_sub (by omega) (by omega), b2, bnd, a3, bnd, b3, bnd, nI_add, c2, bnd]
    dsimp only
    rcases f2 with f2 | f2
    · rw [if_pos f2]
    · rw [f2, if_neg (by decide), if_pos rfl]
  · rw [f1, if_neg (by decide), if_pos rfl, a2, bnd, hacc, bnd]
    dsimp only
    rw [nJ_sub (by omega) (by omega), b2, bnd, a3, bnd, b3, bnd, nI_add, c2, bnd]
    dsimp only
    rcases f2 with f2 | f2
    · rw [if_pos f2]
    · rw [f2, if_neg (by decide), if_pos rfl]
theorem makes61 (hlen : L.1.2.1 < 2 ^ 31) : ∀ (d k n : Nat) (τ : TO) (S : SS), k + d = 9 → d < n → MK S τ → s_b S = 3 → 4 ≤ s_c S → s_c S ≤ 4 + k → ∃ τ' S', fL_makes_L61 L n (nI k) τ = some (true, τ') ∧ MK S' τ' ∧ s_b S' = 3 := by
  intro d
  induction d with
  | zero =>
    intro k n τ S hk hn hM hb hc hc2
    obtain ⟨n, rfl⟩ : ∃ n', n = n' + 1 := ⟨n - 1, by omega⟩
    exact makes_end hlen hM hb hc (by omega) (by rw [nJ_le (by omega) (by omega)]; omega)
  | succ d ih =>
    intro k n τ S hk hn hM hb hc hc2
    obtain ⟨n, rfl⟩ : ∃ n', n = n' + 1 := ⟨n - 1, by omega⟩
    obtain ⟨v1, a1⟩ := at_e hlen (3 + k) (by omega)
    obtain ⟨j1, hj1, b1⟩ := some_e (v1 ^^^ nI k * nI 7919) (n := 3) (by omega) (by omega)
    obtain ⟨j2, hj2, b2⟩ := some_e ((v1 ^^^ nI k * nI 7919) >>> (nI 2 &&& 31)) (n := 6) (by omega) (by omega)
    obtain ⟨j3, hj3, b3⟩ := some_e ((v1 ^^^ nI k * nI 7919) >>> (nI 5 &&& 31)) (n := 100) (by omega) (by omega)
    obtain ⟨m1, τ1, S1, c1, d1, ⟨g1, g2, g3⟩, f1, -⟩ := edit_v (j := j1) (k := j2) (v := j3) hM (by omega) hj2 (by omega) (by omega)
    obtain ⟨τ', S', e1, e2, e3⟩ := ih (k + 1) n τ1 S1 (by omega) (by omega) d1 (by omega) (by omega) (by omega)
    refine ⟨τ', S', ?_, e2, e3⟩
    rw [fL_makes_L61, if_neg (by rw [nJ_le (by omega) (by omega)]; omega), nI_add, a1, bnd, b1, bnd, b2, bnd, b3, bnd, c1, bnd]
    dsimp only
    rw [nI_add]
    rcases f1 with f1 | ⟨f1, f2⟩
    · rw [if_pos f1]
      exact e1
    · rw [f1, if_neg (by decide), if_pos rfl, refusal0 (by decide) f2, bnd]
      dsimp only
      rw [if_pos rfl]
      exact e1
theorem makes2 (hlen : L.1.2.1 < 2 ^ 31) : ∀ (d k n : Nat) (τ : TO) (S : SS), k + d = 3 → d < n → MK S τ → s_b S = 1 → s_c S = k + 1 → (∀ i, k ≤ i → i < 6 → s_am S (s_tp S 0) i = 0) → ∃ τ' S', fL_makes_L2 L n (nI k) τ = some (true, τ') ∧ MK S' τ' ∧ s_b S' = 3 := by
  intro d
  induction d with
  | zero =>
    intro k n τ S hk hn hM hb hc hz
    obtain ⟨n, rfl⟩ : ∃ n', n = n' + 1 := ⟨n - 1, by omega⟩
    have : k = 3 := by omega
    subst this
    obtain ⟨τ1, a1, M1⟩ := fork_v (j := 0) hM (by omega) (by omega)
    have e1 : s_b (forkS S 0) = 2 := by show s_b S + 1 = 2; omega
    obtain ⟨τ2, a2, M2⟩ := fork_v (j := 0) M1 (by omega) (by omega)
    have e2 : s_b (forkS (forkS S 0) 0) = 3 := by show s_b (forkS S 0) + 1 = 3; omega
    have e3 : s_c (forkS (forkS S 0) 0) = 4 := hc
    obtain ⟨τ', S', f1, f2, f3⟩ := makes61 hlen 9 0 10 τ2 _ (by omega) (by omega) M2 e2 (by omega) (by omega)
    refine ⟨τ', S', ?_, f2, f3⟩
    rw [hb] at a1
    rw [e1] at a2
    rw [fL_makes_L2, if_pos (by decide), a1, bnd]
    dsimp only
    rw [if_pos rfl, a2, bnd]
    dsimp only
    rw [if_pos rfl]
    exact f1
  | succ d ih =>
    intro k n τ S hk hn hM hb hc hz
    obtain ⟨n, rfl⟩ : ∃ n', n = n' + 1 := ⟨n - 1, by omega⟩
    obtain ⟨v1, a1⟩ := at_e hlen k (by omega)
    obtain ⟨j1, hj1, b1⟩ := some_e v1 (n := 99) (by omega) (by omega)
    obtain ⟨m1, τ1, S1, c1, d1, -, -, f1⟩ := edit_v (j := 0) (k := k) (v := 1 + j1) hM (by omega) (by omega) (by omega) (by omega)
    obtain ⟨rfl, rfl⟩ := f1 (by rw [hz k (by omega) (by omega)]; omega)
    have t1 : s_tp (addS S 0 0 none (upN (s_am S (s_tp S 0)) k (1 + j1))) 0 = s_c S := upN_s (s_tp S) 0 (s_c S)
    obtain ⟨τ', S', e1, e2, e3⟩ := ih (k + 1) n τ1 _ (by omega) (by omega) d1 hb (by show s_c S + 1 = _; omega) (fun i hi h6 => by
      rw [t1, show s_am (addS S 0 0 none (upN (s_am S (s_tp S 0)) k (1 + j1))) (s_c S) = upN (s_am S (s_tp S 0)) k (1 + j1) from upN_s (s_am S) (s_c S) (upN (s_am S (s_tp S 0)) k (1 + j1)), upN_n _ _ (by omega)]
      exact hz i (by omega) h6)
    refine ⟨τ', S', ?_, e2, e3⟩
    rw [fL_makes_L2, if_neg (by rw [nJ_le (by omega) (by omega)]; omega), a1, bnd, b1, bnd, nI_add, c1, bnd]
    dsimp only
    rw [nI_add, if_pos (by rw [hc])]
    exact e1
theorem makes_S (hlen : L.1.2.1 < 2 ^ 31) (hM : MK S0 τ) : ∃ τ' S', fL_makes L τ = some (true, τ') ∧ MK S' τ' ∧ s_b S' = 3 := by
  unfold fL_makes
  exact makes2 hlen 3 0 4 τ S0 (by omega) (by omega) hM rfl rfl (fun i _ _ => rfl)
end MK
