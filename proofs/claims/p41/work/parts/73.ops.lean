/-! what a call does to an object -/
def HG (rows : Nat → Fo) (nx cn : Int32) (u : Nat) (g : Nat → Fo) : Prop := ∃ x, u ≤ 8 ∧ x < 8 ∧ cn = nI u ∧ nx = nI x ∧ ∀ t, t < u → rows ((x + 7 - t) % 8) = g t
def psh (φ : Fo) (g : Nat → Fo) : Nat → Fo := fun t => if t = 0 then φ else g (t - 1)
theorem keep_g {rows : Nat → Fo} {nx cn : Int32} {u : Nat} {g : Nat → Fo} {φ : Fo} (hH : HG rows nx cn u g) : ∃ rows' nx' cn', f2_keep rows nx cn φ = some (rows', nx', cn') ∧ HG rows' nx' cn' (min (u + 1) 8) (psh φ g) := by
  obtain ⟨x, hu, hx, rfl, rfl, hr⟩ := hH
  have hcn : (if nI 8 < nI u + nI 1 then nI 8 else nI u + nI 1) = nI (min (u + 1) 8) := by
    rw [nI_add]
    by_cases e : 8 < u + 1
    · rw [if_pos (by rw [nJ_lt (by omega) (by omega)]; exact e), Nat.min_eq_right (by omega)]
    · rw [if_neg (by rw [nJ_lt (by omega) (by omega)]; exact e), Nat.min_eq_left (by omega)]
  refine ⟨hs_up rows x φ, nI ((x + 1) % 8), nI (min (u + 1) 8), ?_, ?_⟩
  · unfold f2_keep
    rw [inb_t hx (by omega), if_pos rfl, hcn, nI_add, nJ_mod (by omega) (by omega) (by omega), nJ_nat (by omega)]
  refine ⟨(x + 1) % 8, by omega, by omega, rfl, rfl, fun t ht => ?_⟩
  by_cases e : t = 0
  · subst e
    rw [show ((x + 1) % 8 + 7 - 0) % 8 = x by omega, show hs_up rows x φ x = φ from if_pos rfl]
    rfl
  · rw [show ((x + 1) % 8 + 7 - t) % 8 = (x + 7 - (t - 1)) % 8 by omega, show hs_up rows x φ ((x + 7 - (t - 1)) % 8) = rows ((x + 7 - (t - 1)) % 8) from if_neg (by omega), hr _ (by omega), show psh φ g t = g (t - 1) from if_neg e]
/-- what a refused call keeps -/
def ce (τ : TO) : Int32 × Fo × Fo × (Nat → Fo) × Int32 × Int32 × Int32 × Prop := (t_top_isSaved τ, t_forest_f τ, t_saved_f τ, t_hist_rows τ, t_hist_next τ, t_hist_count τ, t_inp_length τ, LN τ)
theorem co_ce {τ τ' : TO} (h : co τ' = co τ) : ce τ' = ce τ := congrArg (fun z : Int32 × Fo × Fo × (Nat → Fo) × Int32 × Int32 × Int32 × Int32 × Int32 × Prop => (z.1, z.2.1, z.2.2.1, z.2.2.2.1, z.2.2.2.2.1, z.2.2.2.2.2.1, z.2.2.2.2.2.2.1, z.2.2.2.2.2.2.2.2.2)) h
theorem ce_s {τ τ' : TO} (h : ce τ' = ce τ) : t_top_isSaved τ' = t_top_isSaved τ := congrArg (fun z => z.1) h
theorem ce_f {τ τ' : TO} (h : ce τ' = ce τ) : t_forest_f τ' = t_forest_f τ := congrArg (fun z => z.2.1) h
theorem ce_v {τ τ' : TO} (h : ce τ' = ce τ) : t_saved_f τ' = t_saved_f τ := congrArg (fun z => z.2.2.1) h
theorem ce_r {τ τ' : TO} (h : ce τ' = ce τ) : t_hist_rows τ' = t_hist_rows τ := congrArg (fun z => z.2.2.2.1) h
theorem ce_n {τ τ' : TO} (h : ce τ' = ce τ) : t_hist_next τ' = t_hist_next τ := congrArg (fun z => z.2.2.2.2.1) h
theorem ce_c {τ τ' : TO} (h : ce τ' = ce τ) : t_hist_count τ' = t_hist_count τ := congrArg (fun z => z.2.2.2.2.2.1) h
theorem ce_i {τ τ' : TO} (h : ce τ' = ce τ) : t_inp_length τ' = t_inp_length τ := congrArg (fun z => z.2.2.2.2.2.2.1) h
theorem ce_l {τ τ' : TO} (h : ce τ' = ce τ) : LN τ' = LN τ := congrArg (fun z => z.2.2.2.2.2.2.2) h
def HT (τ : TO) (u : Nat) (g : Nat → Fo) : Prop := HG (t_hist_rows τ) (t_hist_next τ) (t_hist_count τ) u g
theorem ce_h {τ τ' : TO} {u : Nat} {g : Nat → Fo} (h : ce τ' = ce τ) (hG : HT τ u g) : HT τ' u g := by
  unfold HT at hG ⊢
  rw [ce_r h, ce_n h, ce_c h]; exact hG
def RSo (rs : Int32) : Prop := rs = -1 ∨ ∃ w, 1 ≤ w ∧ w ≤ 11 ∧ rs = nI w
theorem RSo_RE {rs dt : Int32} (h : RSo rs) : ∃ rs9 dt9, RE rs dt rs9 dt9 := by
  rcases h with rfl | ⟨w, a, b, rfl⟩
  · exact ⟨0, 0, Or.inl ⟨rfl, rfl⟩⟩
  · exact ⟨nI w, dt, Or.inr ⟨w, a, b, rfl, rfl, rfl⟩⟩
theorem RE_RSo {rs dt rs9 dt9 : Int32} (h : RE rs dt rs9 dt9) : RSo rs := by
  rcases h with ⟨a, -⟩ | ⟨w, a, b, c, -⟩
  · exact Or.inl a
  · exact Or.inr ⟨w, a, b, c⟩
/-- a call that is over -/
def St (τ : TO) (u : Nat) (g : Nat → Fo) (r : Int32) (τ' : TO) : Prop := t_top_isSaved τ' = t_top_isSaved τ ∧ t_saved_f τ' = t_saved_f τ ∧ t_inp_length τ' = nI 0 ∧ LN τ' ∧ RSo (t_desk_reason τ') ∧ ((∃ a S', r = nI a ∧ a < 2 ^ 31 ∧ WF S' ∧ RF (t_forest_f τ') S' ∧ HT τ' (min (u + 1) 8) (psh (t_forest_f τ) g)) ∨ (r < 0 ∧ t_forest_f τ' = t_forest_f τ ∧ HT τ' u g))
section OPS
variable {S : SS} {τ : TO} {u : Nat} {g : Nat → Fo} {x1 x2 x3 : Int32}
theorem up_edit_1 {rs' : Int32} {dt' : Int32} {row' : AI} {φ' : Fo} (e : f0_tryEdit x1 x2 x3 (t_desk_reason τ) (t_desk_detail τ) (t_mix_row τ) (t_forest_f τ) = some (-1, rs', dt', row', φ')) : ∃ τ', t_edit x1 x2 x3 τ = some (-1001, τ') ∧ ce τ' = ce τ ∧ t_desk_reason τ' = rs' ∧ t_desk_detail τ' = dt' := by
  apply Exists.intro
  refine ⟨?_, ?_, ?_, ?_⟩
  · unfold t_edit fL_edit f8_edit
    rw [f1_become_e, bnd, e, bnd]
    dsimp only
    rw [fin_1, bnd]
    rfl
  · rfl
  · rfl
  · rfl
theorem up_edit_2 {rs' : Int32} {dt' : Int32} {row' : AI} {φ' : Fo} (e : f0_tryEdit x1 x2 x3 (t_desk_reason τ) (t_desk_detail τ) (t_mix_row τ) (t_forest_f τ) = some (-2, rs', dt', row', φ')) : ∃ τ', t_edit x1 x2 x3 τ = some (-1002, τ') ∧ ce τ' = ce τ ∧ t_desk_reason τ' = rs' ∧ t_desk_detail τ' = dt' := by
  apply Exists.intro
  refine ⟨?_, ?_, ?_, ?_⟩
  · unfold t_edit fL_edit f8_edit
    rw [f1_become_e, bnd, e, bnd]
    dsimp only
    rw [fin_a, bnd]
    rfl
  · rfl
  · rfl
  · rfl
theorem up_edit_3 {rs' : Int32} {dt' : Int32} {row' : AI} {φ' : Fo} (e : f0_tryEdit x1 x2 x3 (t_desk_reason τ) (t_desk_detail τ) (t_mix_row τ) (t_forest_f τ) = some (-3, rs', dt', row', φ')) : ∃ τ', t_edit x1 x2 x3 τ = some (-1003, τ') ∧ ce τ' = ce τ ∧ t_desk_reason τ' = rs' ∧ t_desk_detail τ' = dt' := by
  apply Exists.intro
  refine ⟨?_, ?_, ?_, ?_⟩
  · unfold t_edit fL_edit f8_edit
    rw [f1_become_e, bnd, e, bnd]
    dsimp only
    rw [fin_r, bnd]
    rfl
  · rfl
  · rfl
  · rfl
theorem up_edit_0 {rs' : Int32} {dt' : Int32} {row' : AI} {φ' : Fo} {a : Nat} (e : f0_tryEdit x1 x2 x3 (t_desk_reason τ) (t_desk_detail τ) (t_mix_row τ) (t_forest_f τ) = some (nI a, rs', dt', row', φ')) (ha : a < 2 ^ 31) (hG : HT τ u g) : ∃ τ', t_edit x1 x2 x3 τ = some (nI a, τ') ∧ t_top_isSaved τ' = t_top_isSaved τ ∧ t_saved_f τ' = t_saved_f τ ∧ t_inp_length τ' = t_inp_length τ ∧ LN τ' = LN τ ∧ t_forest_f τ' = φ' ∧ HT τ' (min (u + 1) 8) (psh (t_forest_f τ) g) ∧ t_desk_reason τ' = rs' ∧ t_desk_detail τ' = dt' := by
  obtain ⟨rows', nx', cn', k1, k2⟩ := keep_g (φ := t_forest_f τ) hG
  apply Exists.intro
  refine ⟨?_, ?_, ?_, ?_, ?_, ?_, ?_, ?_, ?_⟩
  · unfold t_edit fL_edit f8_edit
    rw [f1_become_e, bnd, e, bnd]
    dsimp only
    rw [fin_ok ha k1, bnd]
    rfl
  · rfl
  · rfl
  · rfl
  · rfl
  · rfl
  · exact k2
  · rfl
  · rfl
theorem op_edit (h : WF S) (hF : RF (t_forest_f τ) S) (hI : t_inp_length τ = nI 0) (hL : LN τ) (hR : RSo (t_desk_reason τ)) (hG : HT τ u g) : ∃ r τ', t_edit x1 x2 x3 τ = some (r, τ') ∧ St τ u g r τ' := by
  obtain ⟨rs9, dt9, hE⟩ := RSo_RE (dt := t_desk_detail τ) hR
  obtain ⟨r, rs', dt', row', φ', is, N', rs9', dt9', an', q1, -, q3, q4⟩ := edit_2 (x1 := x1) (x2 := x2) (x3 := x3) (row := t_mix_row τ) (an9 := 0) h hF (NS_rn h) hE
  rcases q4 with ⟨a, S', v1, v2, -, v4, rfl, -, -⟩ | ⟨rfl, -, ⟨rfl, -⟩ | ⟨rfl, -⟩ | ⟨rfl, -⟩⟩
  · obtain ⟨τ', z1, z2, z3, z4, z9, z5, z6, z7, z8⟩ := up_edit_0 q1 v4 hG
    exact ⟨_, τ', z1, z2, z3, z4.trans hI, by rw [z9]; exact hL, by rw [z7]; exact RE_RSo q3, Or.inl ⟨_, _, rfl, v4, v1, by rw [z5]; exact v2, z6⟩⟩
  · obtain ⟨τ', z1, z2, z3, z4⟩ := up_edit_1 q1
    exact ⟨_, τ', z1, ce_s z2, ce_v z2, (ce_i z2).trans hI, by rw [ce_l z2]; exact hL, by rw [z3]; exact RE_RSo q3, Or.inr ⟨by decide, ce_f z2, ce_h z2 hG⟩⟩
  · obtain ⟨τ', z1, z2, z3, z4⟩ := up_edit_2 q1
    exact ⟨_, τ', z1, ce_s z2, ce_v z2, (ce_i z2).trans hI, by rw [ce_l z2]; exact hL, by rw [z3]; exact RE_RSo q3, Or.inr ⟨by decide, ce_f z2, ce_h z2 hG⟩⟩
  · obtain ⟨τ', z1, z2, z3, z4⟩ := up_edit_3 q1
    exact ⟨_, τ', z1, ce_s z2, ce_v z2, (ce_i z2).trans hI, by rw [ce_l z2]; exact hL, by rw [z3]; exact RE_RSo q3, Or.inr ⟨by decide, ce_f z2, ce_h z2 hG⟩⟩
theorem up_fork_1 {rs' : Int32} {dt' : Int32} {φ' : Fo} (e : f0_tryFork x1 (t_desk_reason τ) (t_desk_detail τ) (t_forest_f τ) = some (-1, rs', dt', φ')) : ∃ τ', t_fork x1 τ = some (-1001, τ') ∧ ce τ' = ce τ ∧ t_desk_reason τ' = rs' ∧ t_desk_detail τ' = dt' := by
  apply Exists.intro
  refine ⟨?_, ?_, ?_, ?_⟩
  · unfold t_fork fL_fork f8_fork
    rw [f1_become_e, bnd, e, bnd]
    dsimp only
    rw [fin_1, bnd]
    rfl
  · rfl
  · rfl
  · rfl
theorem up_fork_3 {rs' : Int32} {dt' : Int32} {φ' : Fo} (e : f0_tryFork x1 (t_desk_reason τ) (t_desk_detail τ) (t_forest_f τ) = some (-3, rs', dt', φ')) : ∃ τ', t_fork x1 τ = some (-1002, τ') ∧ ce τ' = ce τ ∧ t_desk_reason τ' = rs' ∧ t_desk_detail τ' = dt' := by
  apply Exists.intro
  refine ⟨?_, ?_, ?_, ?_⟩
  · unfold t_fork fL_fork f8_fork
    rw [f1_become_e, bnd, e, bnd]
    dsimp only
    rw [fin_r, bnd]
    rfl
  · rfl
  · rfl
  · rfl
theorem up_fork_0 {rs' : Int32} {dt' : Int32} {φ' : Fo} {a : Nat} (e : f0_tryFork x1 (t_desk_reason τ) (t_desk_detail τ) (t_forest_f τ) = some (nI a, rs', dt', φ')) (ha : a < 2 ^ 31) (hG : HT τ u g) : ∃ τ', t_fork x1 τ = some (nI a, τ') ∧ t_top_isSaved τ' = t_top_isSaved τ ∧ t_saved_f τ' = t_saved_f τ ∧ t_inp_length τ' = t_inp_length τ ∧ LN τ' = LN τ ∧ t_forest_f τ' = φ' ∧ HT τ' (min (u + 1) 8) (psh (t_forest_f τ) g) ∧ t_desk_reason τ' = rs' ∧ t_desk_detail τ' = dt' := by
  obtain ⟨rows', nx', cn', k1, k2⟩ := keep_g (φ := t_forest_f τ) hG
  apply Exists.intro
  refine ⟨?_, ?_, ?_, ?_, ?_, ?_, ?_, ?_, ?_⟩
  · unfold t_fork fL_fork f8_fork
    rw [f1_become_e, bnd, e, bnd]
    dsimp only
    rw [fin_ok ha k1, bnd]
    rfl
  · rfl
  · rfl
  · rfl
  · rfl
  · rfl
  · exact k2
  · rfl
  · rfl
theorem op_fork (h : WF S) (hF : RF (t_forest_f τ) S) (hI : t_inp_length τ = nI 0) (hL : LN τ) (hR : RSo (t_desk_reason τ)) (hG : HT τ u g) : ∃ r τ', t_fork x1 τ = some (r, τ') ∧ St τ u g r τ' := by
  obtain ⟨rs9, dt9, hE⟩ := RSo_RE (dt := t_desk_detail τ) hR
  obtain ⟨r, rs', dt', φ', is, N', rs9', dt9', an', q1, -, q3, q4⟩ := fork_2 (x1 := x1)  (an9 := 0) h hF (NS_rn h) hE
  rcases q4 with ⟨a, S', v1, v2, -, v4, rfl, -, -⟩ | ⟨rfl, -, ⟨rfl, -⟩ | ⟨rfl, -⟩⟩
  · obtain ⟨τ', z1, z2, z3, z4, z9, z5, z6, z7, z8⟩ := up_fork_0 q1 v4 hG
    exact ⟨_, τ', z1, z2, z3, z4.trans hI, by rw [z9]; exact hL, by rw [z7]; exact RE_RSo q3, Or.inl ⟨_, _, rfl, v4, v1, by rw [z5]; exact v2, z6⟩⟩
  · obtain ⟨τ', z1, z2, z3, z4⟩ := up_fork_1 q1
    exact ⟨_, τ', z1, ce_s z2, ce_v z2, (ce_i z2).trans hI, by rw [ce_l z2]; exact hL, by rw [z3]; exact RE_RSo q3, Or.inr ⟨by decide, ce_f z2, ce_h z2 hG⟩⟩
  · obtain ⟨τ', z1, z2, z3, z4⟩ := up_fork_3 q1
    exact ⟨_, τ', z1, ce_s z2, ce_v z2, (ce_i z2).trans hI, by rw [ce_l z2]; exact hL, by rw [z3]; exact RE_RSo q3, Or.inr ⟨by decide, ce_f z2, ce_h z2 hG⟩⟩
theorem up_reset_1 {rs' : Int32} {dt' : Int32} {φ' : Fo} (e : f0_tryReset x1 x2 (t_desk_reason τ) (t_desk_detail τ) (t_forest_f τ) = some (-1, rs', dt', φ')) : ∃ τ', t_reset x1 x2 τ = some (-1001, τ') ∧ ce τ' = ce τ ∧ t_desk_reason τ' = rs' ∧ t_desk_detail τ' = dt' := by
  apply Exists.intro
  refine ⟨?_, ?_, ?_, ?_⟩
  · unfold t_reset fL_reset f8_reset
    rw [f1_become_e, bnd, e, bnd]
    dsimp only
    rw [fin_1, bnd]
    rfl
  · rfl
  · rfl
  · rfl
theorem up_reset_3 {rs' : Int32} {dt' : Int32} {φ' : Fo} (e : f0_tryReset x1 x2 (t_desk_reason τ) (t_desk_detail τ) (t_forest_f τ) = some (-3, rs', dt', φ')) : ∃ τ', t_reset x1 x2 τ = some (-1002, τ') ∧ ce τ' = ce τ ∧ t_desk_reason τ' = rs' ∧ t_desk_detail τ' = dt' := by
  apply Exists.intro
  refine ⟨?_, ?_, ?_, ?_⟩
  · unfold t_reset fL_reset f8_reset
    rw [f1_become_e, bnd, e, bnd]
    dsimp only
    rw [fin_r, bnd]
    rfl
  · rfl
  · rfl
  · rfl
theorem up_reset_0 {rs' : Int32} {dt' : Int32} {φ' : Fo} {a : Nat} (e : f0_tryReset x1 x2 (t_desk_reason τ) (t_desk_detail τ) (t_forest_f τ) = some (nI a, rs', dt', φ')) (ha : a < 2 ^ 31) (hG : HT τ u g) : ∃ τ', t_reset x1 x2 τ = some (nI a, τ') ∧ t_top_isSaved τ' = t_top_isSaved τ ∧ t_saved_f τ' = t_saved_f τ ∧ t_inp_length τ' = t_inp_length τ ∧ LN τ' = LN τ ∧ t_forest_f τ' = φ' ∧ HT τ' (min (u + 1) 8) (psh (t_forest_f τ) g) ∧ t_desk_reason τ' = rs' ∧ t_desk_detail τ' = dt' := by
  obtain ⟨rows', nx', cn', k1, k2⟩ := keep_g (φ := t_forest_f τ) hG
  apply Exists.intro
  refine ⟨?_, ?_, ?_, ?_, ?_, ?_, ?_, ?_, ?_⟩
  · unfold t_reset fL_reset f8_reset
    rw [f1_become_e, bnd, e, bnd]
    dsimp only
    rw [fin_ok ha k1, bnd]
    rfl
  · rfl
  · rfl
  · rfl
  · rfl
  · rfl
  · exact k2
  · rfl
  · rfl
theorem op_reset (h : WF S) (hF : RF (t_forest_f τ) S) (hI : t_inp_length τ = nI 0) (hL : LN τ) (hR : RSo (t_desk_reason τ)) (hG : HT τ u g) : ∃ r τ', t_reset x1 x2 τ = some (r, τ') ∧ St τ u g r τ' := by
  obtain ⟨rs9, dt9, hE⟩ := RSo_RE (dt := t_desk_detail τ) hR
  obtain ⟨r, rs', dt', φ', is, N', rs9', dt9', an', q1, -, q3, q4⟩ := reset_2 (x1 := x1) (x2 := x2)  (an9 := 0) h hF (NS_rn h) hE
  rcases q4 with ⟨a, S', v1, v2, -, v4, rfl, -, -⟩ | ⟨rfl, -, ⟨rfl, -⟩ | ⟨rfl, -⟩⟩
  · obtain ⟨τ', z1, z2, z3, z4, z9, z5, z6, z7, z8⟩ := up_reset_0 q1 v4 hG
    exact ⟨_, τ', z1, z2, z3, z4.trans hI, by rw [z9]; exact hL, by rw [z7]; exact RE_RSo q3, Or.inl ⟨_, _, rfl, v4, v1, by rw [z5]; exact v2, z6⟩⟩
  · obtain ⟨τ', z1, z2, z3, z4⟩ := up_reset_1 q1
    exact ⟨_, τ', z1, ce_s z2, ce_v z2, (ce_i z2).trans hI, by rw [ce_l z2]; exact hL, by rw [z3]; exact RE_RSo q3, Or.inr ⟨by decide, ce_f z2, ce_h z2 hG⟩⟩
  · obtain ⟨τ', z1, z2, z3, z4⟩ := up_reset_3 q1
    exact ⟨_, τ', z1, ce_s z2, ce_v z2, (ce_i z2).trans hI, by rw [ce_l z2]; exact hL, by rw [z3]; exact RE_RSo q3, Or.inr ⟨by decide, ce_f z2, ce_h z2 hG⟩⟩
theorem up_merge_1 {rs' : Int32} {dt' : Int32} {row' : AI} {cc' : Int32} {lo' : Int32} {φ' : Fo} (e : f0_tryMerge x1 x2 x3 (t_desk_reason τ) (t_desk_detail τ) (t_mix_row τ) (t_mix_conflictCount τ) (t_mix_lowest τ) (t_forest_f τ) = some (-1, rs', dt', row', cc', lo', φ')) : ∃ τ', t_merge x1 x2 x3 τ = some (-1001, τ') ∧ ce τ' = ce τ ∧ t_desk_reason τ' = rs' ∧ t_desk_detail τ' = dt' := by
  apply Exists.intro
  refine ⟨?_, ?_, ?_, ?_⟩
  · unfold t_merge fL_merge f8_merge
    rw [f1_become_e, bnd, e, bnd]
    dsimp only
    rw [fin_1, bnd]
    rfl
  · rfl
  · rfl
  · rfl
theorem up_merge_2 {rs' : Int32} {dt' : Int32} {row' : AI} {cc' : Int32} {lo' : Int32} {φ' : Fo} (e : f0_tryMerge x1 x2 x3 (t_desk_reason τ) (t_desk_detail τ) (t_mix_row τ) (t_mix_conflictCount τ) (t_mix_lowest τ) (t_forest_f τ) = some (-2, rs', dt', row', cc', lo', φ')) : ∃ τ', t_merge x1 x2 x3 τ = some (-1002, τ') ∧ ce τ' = ce τ ∧ t_desk_reason τ' = rs' ∧ t_desk_detail τ' = dt' := by
  apply Exists.intro
  refine ⟨?_, ?_, ?_, ?_⟩
  · unfold t_merge fL_merge f8_merge
    rw [f1_become_e, bnd, e, bnd]
    dsimp only
    rw [fin_a, bnd]
    rfl
  · rfl
  · rfl
  · rfl
theorem up_merge_3 {rs' : Int32} {dt' : Int32} {row' : AI} {cc' : Int32} {lo' : Int32} {φ' : Fo} (e : f0_tryMerge x1 x2 x3 (t_desk_reason τ) (t_desk_detail τ) (t_mix_row τ) (t_mix_conflictCount τ) (t_mix_lowest τ) (t_forest_f τ) = some (-3, rs', dt', row', cc', lo', φ')) : ∃ τ', t_merge x1 x2 x3 τ = some (-1003, τ') ∧ ce τ' = ce τ ∧ t_desk_reason τ' = rs' ∧ t_desk_detail τ' = dt' := by
  apply Exists.intro
  refine ⟨?_, ?_, ?_, ?_⟩
  · unfold t_merge fL_merge f8_merge
    rw [f1_become_e, bnd, e, bnd]
    dsimp only
    rw [fin_r, bnd]
    rfl
  · rfl
  · rfl
  · rfl
theorem up_merge_0 {rs' : Int32} {dt' : Int32} {row' : AI} {cc' : Int32} {lo' : Int32} {φ' : Fo} {a : Nat} (e : f0_tryMerge x1 x2 x3 (t_desk_reason τ) (t_desk_detail τ) (t_mix_row τ) (t_mix_conflictCount τ) (t_mix_lowest τ) (t_forest_f τ) = some (nI a, rs', dt', row', cc', lo', φ')) (ha : a < 2 ^ 31) (hG : HT τ u g) : ∃ τ', t_merge x1 x2 x3 τ = some (nI a, τ') ∧ t_top_isSaved τ' = t_top_isSaved τ ∧ t_saved_f τ' = t_saved_f τ ∧ t_inp_length τ' = t_inp_length τ ∧ LN τ' = LN τ ∧ t_forest_f τ' = φ' ∧ HT τ' (min (u + 1) 8) (psh (t_forest_f τ) g) ∧ t_desk_reason τ' = rs' ∧ t_desk_detail τ' = dt' := by
  obtain ⟨rows', nx', cn', k1, k2⟩ := keep_g (φ := t_forest_f τ) hG
  apply Exists.intro
  refine ⟨?_, ?_, ?_, ?_, ?_, ?_, ?_, ?_, ?_⟩
  · unfold t_merge fL_merge f8_merge
    rw [f1_become_e, bnd, e, bnd]
    dsimp only
    rw [fin_ok ha k1, bnd]
    rfl
  · rfl
  · rfl
  · rfl
  · rfl
  · rfl
  · exact k2
  · rfl
  · rfl
theorem op_merge (h : WF S) (hF : RF (t_forest_f τ) S) (hI : t_inp_length τ = nI 0) (hL : LN τ) (hR : RSo (t_desk_reason τ)) (hG : HT τ u g) : ∃ r τ', t_merge x1 x2 x3 τ = some (r, τ') ∧ St τ u g r τ' := by
  obtain ⟨rs9, dt9, hE⟩ := RSo_RE (dt := t_desk_detail τ) hR
  obtain ⟨r, rs', dt', row', cc', lo', φ', is, N', rs9', dt9', an', m', c', f', q1, -, q3, q4⟩ := merge_2 (x1 := x1) (x2 := x2) (x3 := x3) (row := t_mix_row τ) (cc := t_mix_conflictCount τ) (lo := t_mix_lowest τ) (row9 := fun _ => 0) (cc9 := 0) (fc9 := 0) (an9 := 0) h hF (NS_rn h) hE
  rcases q4 with ⟨a, S', v1, v2, -, v4, rfl, -, -⟩ | ⟨rfl, -, ⟨rfl, -⟩ | ⟨rfl, -⟩ | ⟨rfl, -⟩⟩
  · obtain ⟨τ', z1, z2, z3, z4, z9, z5, z6, z7, z8⟩ := up_merge_0 q1 v4 hG
    exact ⟨_, τ', z1, z2, z3, z4.trans hI, by rw [z9]; exact hL, by rw [z7]; exact RE_RSo q3, Or.inl ⟨_, _, rfl, v4, v1, by rw [z5]; exact v2, z6⟩⟩
  · obtain ⟨τ', z1, z2, z3, z4⟩ := up_merge_1 q1
    exact ⟨_, τ', z1, ce_s z2, ce_v z2, (ce_i z2).trans hI, by rw [ce_l z2]; exact hL, by rw [z3]; exact RE_RSo q3, Or.inr ⟨by decide, ce_f z2, ce_h z2 hG⟩⟩
  · obtain ⟨τ', z1, z2, z3, z4⟩ := up_merge_2 q1
    exact ⟨_, τ', z1, ce_s z2, ce_v z2, (ce_i z2).trans hI, by rw [ce_l z2]; exact hL, by rw [z3]; exact RE_RSo q3, Or.inr ⟨by decide, ce_f z2, ce_h z2 hG⟩⟩
  · obtain ⟨τ', z1, z2, z3, z4⟩ := up_merge_3 q1
    exact ⟨_, τ', z1, ce_s z2, ce_v z2, (ce_i z2).trans hI, by rw [ce_l z2]; exact hL, by rw [z3]; exact RE_RSo q3, Or.inr ⟨by decide, ce_f z2, ce_h z2 hG⟩⟩
theorem up_pick_1 {rs' : Int32} {dt' : Int32} {row' : AI} {cc' : Int32} {lo' : Int32} {φ' : Fo} (e : f0_tryPick x1 x2 x3 (t_desk_reason τ) (t_desk_detail τ) (t_mix_row τ) (t_mix_conflictCount τ) (t_mix_lowest τ) (t_forest_f τ) = some (-1, rs', dt', row', cc', lo', φ')) : ∃ τ', t_pick x1 x2 x3 τ = some (-1001, τ') ∧ ce τ' = ce τ ∧ t_desk_reason τ' = rs' ∧ t_desk_detail τ' = dt' := by
  apply Exists.intro
  refine ⟨?_, ?_, ?_, ?_⟩
  · unfold t_pick fL_pick f8_pick
    rw [f1_become_e, bnd, e, bnd]
    dsimp only
    rw [fin_1, bnd]
    rfl
  · rfl
  · rfl
  · rfl
theorem up_pick_2 {rs' : Int32} {dt' : Int32} {row' : AI} {cc' : Int32} {lo' : Int32} {φ' : Fo} (e : f0_tryPick x1 x2 x3 (t_desk_reason τ) (t_desk_detail τ) (t_mix_row τ) (t_mix_conflictCount τ) (t_mix_lowest τ) (t_forest_f τ) = some (-2, rs', dt', row', cc', lo', φ')) : ∃ τ', t_pick x1 x2 x3 τ = some (-1002, τ') ∧ ce τ' = ce τ ∧ t_desk_reason τ' = rs' ∧ t_desk_detail τ' = dt' := by
  apply Exists.intro
  refine ⟨?_, ?_, ?_, ?_⟩
  · unfold t_pick fL_pick f8_pick
    rw [f1_become_e, bnd, e, bnd]
    dsimp only
    rw [fin_a, bnd]
    rfl
  · rfl
  · rfl
  · rfl
theorem up_pick_3 {rs' : Int32} {dt' : Int32} {row' : AI} {cc' : Int32} {lo' : Int32} {φ' : Fo} (e : f0_tryPick x1 x2 x3 (t_desk_reason τ) (t_desk_detail τ) (t_mix_row τ) (t_mix_conflictCount τ) (t_mix_lowest τ) (t_forest_f τ) = some (-3, rs', dt', row', cc', lo', φ')) : ∃ τ', t_pick x1 x2 x3 τ = some (-1003, τ') ∧ ce τ' = ce τ ∧ t_desk_reason τ' = rs' ∧ t_desk_detail τ' = dt' := by
  apply Exists.intro
  refine ⟨?_, ?_, ?_, ?_⟩
  · unfold t_pick fL_pick f8_pick
    rw [f1_become_e, bnd, e, bnd]
    dsimp only
    rw [fin_r, bnd]
    rfl
  · rfl
  · rfl
  · rfl
theorem up_pick_0 {rs' : Int32} {dt' : Int32} {row' : AI} {cc' : Int32} {lo' : Int32} {φ' : Fo} {a : Nat} (e : f0_tryPick x1 x2 x3 (t_desk_reason τ) (t_desk_detail τ) (t_mix_row τ) (t_mix_conflictCount τ) (t_mix_lowest τ) (t_forest_f τ) = some (nI a, rs', dt', row', cc', lo', φ')) (ha : a < 2 ^ 31) (hG : HT τ u g) : ∃ τ', t_pick x1 x2 x3 τ = some (nI a, τ') ∧ t_top_isSaved τ' = t_top_isSaved τ ∧ t_saved_f τ' = t_saved_f τ ∧ t_inp_length τ' = t_inp_length τ ∧ LN τ' = LN τ ∧ t_forest_f τ' = φ' ∧ HT τ' (min (u + 1) 8) (psh (t_forest_f τ) g) ∧ t_desk_reason τ' = rs' ∧ t_desk_detail τ' = dt' := by
  obtain ⟨rows', nx', cn', k1, k2⟩ := keep_g (φ := t_forest_f τ) hG
  apply Exists.intro
  refine ⟨?_, ?_, ?_, ?_, ?_, ?_, ?_, ?_, ?_⟩
  · unfold t_pick fL_pick f8_pick
    rw [f1_become_e, bnd, e, bnd]
    dsimp only
    rw [fin_ok ha k1, bnd]
    rfl
  · rfl
  · rfl
  · rfl
  · rfl
  · rfl
  · exact k2
  · rfl
  · rfl
theorem op_pick (h : WF S) (hF : RF (t_forest_f τ) S) (hI : t_inp_length τ = nI 0) (hL : LN τ) (hR : RSo (t_desk_reason τ)) (hG : HT τ u g) : ∃ r τ', t_pick x1 x2 x3 τ = some (r, τ') ∧ St τ u g r τ' := by
  obtain ⟨rs9, dt9, hE⟩ := RSo_RE (dt := t_desk_detail τ) hR
  obtain ⟨r, rs', dt', row', cc', lo', φ', is, N', rs9', dt9', an', m', c', f', q1, -, q3, q4⟩ := pick_2 (x1 := x1) (x2 := x2) (x3 := x3) (row := t_mix_row τ) (cc := t_mix_conflictCount τ) (lo := t_mix_lowest τ) (row9 := fun _ => 0) (cc9 := 0) (fc9 := 0) (an9 := 0) h hF (NS_rn h) hE
  rcases q4 with ⟨a, S', v1, v2, -, v4, rfl, -, -⟩ | ⟨rfl, -, ⟨rfl, -⟩ | ⟨rfl, -⟩ | ⟨rfl, -⟩⟩
  · obtain ⟨τ', z1, z2, z3, z4, z9, z5, z6, z7, z8⟩ := up_pick_0 q1 v4 hG
    exact ⟨_, τ', z1, z2, z3, z4.trans hI, by rw [z9]; exact hL, by rw [z7]; exact RE_RSo q3, Or.inl ⟨_, _, rfl, v4, v1, by rw [z5]; exact v2, z6⟩⟩
  · obtain ⟨τ', z1, z2, z3, z4⟩ := up_pick_1 q1
    exact ⟨_, τ', z1, ce_s z2, ce_v z2, (ce_i z2).trans hI, by rw [ce_l z2]; exact hL, by rw [z3]; exact RE_RSo q3, Or.inr ⟨by decide, ce_f z2, ce_h z2 hG⟩⟩
  · obtain ⟨τ', z1, z2, z3, z4⟩ := up_pick_2 q1
    exact ⟨_, τ', z1, ce_s z2, ce_v z2, (ce_i z2).trans hI, by rw [ce_l z2]; exact hL, by rw [z3]; exact RE_RSo q3, Or.inr ⟨by decide, ce_f z2, ce_h z2 hG⟩⟩
  · obtain ⟨τ', z1, z2, z3, z4⟩ := up_pick_3 q1
    exact ⟨_, τ', z1, ce_s z2, ce_v z2, (ce_i z2).trans hI, by rw [ce_l z2]; exact hL, by rw [z3]; exact RE_RSo q3, Or.inr ⟨by decide, ce_f z2, ce_h z2 hG⟩⟩
theorem up_revert_1 {rs' : Int32} {dt' : Int32} {row' : AI} {cc' : Int32} {lo' : Int32} {φ' : Fo} (e : f0_tryRevert x1 x2 x3 (t_desk_reason τ) (t_desk_detail τ) (t_mix_row τ) (t_mix_conflictCount τ) (t_mix_lowest τ) (t_forest_f τ) = some (-1, rs', dt', row', cc', lo', φ')) : ∃ τ', t_revert x1 x2 x3 τ = some (-1001, τ') ∧ ce τ' = ce τ ∧ t_desk_reason τ' = rs' ∧ t_desk_detail τ' = dt' := by
  apply Exists.intro
  refine ⟨?_, ?_, ?_, ?_⟩
  · unfold t_revert fL_revert f8_revert
    rw [f1_become_e, bnd, e, bnd]
    dsimp only
    rw [fin_1, bnd]
    rfl
  · rfl
  · rfl
  · rfl
theorem up_revert_2 {rs' : Int32} {dt' : Int32} {row' : AI} {cc' : Int32} {lo' : Int32} {φ' : Fo} (e : f0_tryRevert x1 x2 x3 (t_desk_reason τ) (t_desk_detail τ) (t_mix_row τ) (t_mix_conflictCount τ) (t_mix_lowest τ) (t_forest_f τ) = some (-2, rs', dt', row', cc', lo', φ')) : ∃ τ', t_revert x1 x2 x3 τ = some (-1002, τ') ∧ ce τ' = ce τ ∧ t_desk_reason τ' = rs' ∧ t_desk_detail τ' = dt' := by
  apply Exists.intro
  refine ⟨?_, ?_, ?_, ?_⟩
  · unfold t_revert fL_revert f8_revert
    rw [f1_become_e, bnd, e, bnd]
    dsimp only
    rw [fin_a, bnd]
    rfl
  · rfl
  · rfl
  · rfl
theorem up_revert_3 {rs' : Int32} {dt' : Int32} {row' : AI} {cc' : Int32} {lo' : Int32} {φ' : Fo} (e : f0_tryRevert x1 x2 x3 (t_desk_reason τ) (t_desk_detail τ) (t_mix_row τ) (t_mix_conflictCount τ) (t_mix_lowest τ) (t_forest_f τ) = some (-3, rs', dt', row', cc', lo', φ')) : ∃ τ', t_revert x1 x2 x3 τ = some (-1003, τ') ∧ ce τ' = ce τ ∧ t_desk_reason τ' = rs' ∧ t_desk_detail τ' = dt' := by
  apply Exists.intro
  refine ⟨?_, ?_, ?_, ?_⟩
  · unfold t_revert fL_revert f8_revert
    rw [f1_become_e, bnd, e, bnd]
    dsimp only
    rw [fin_r, bnd]
    rfl
  · rfl
  · rfl
  · rfl
theorem up_revert_0 {rs' : Int32} {dt' : Int32} {row' : AI} {cc' : Int32} {lo' : Int32} {φ' : Fo} {a : Nat} (e : f0_tryRevert x1 x2 x3 (t_desk_reason τ) (t_desk_detail τ) (t_mix_row τ) (t_mix_conflictCount τ) (t_mix_lowest τ) (t_forest_f τ) = some (nI a, rs', dt', row', cc', lo', φ')) (ha : a < 2 ^ 31) (hG : HT τ u g) : ∃ τ', t_revert x1 x2 x3 τ = some (nI a, τ') ∧ t_top_isSaved τ' = t_top_isSaved τ ∧ t_saved_f τ' = t_saved_f τ ∧ t_inp_length τ' = t_inp_length τ ∧ LN τ' = LN τ ∧ t_forest_f τ' = φ' ∧ HT τ' (min (u + 1) 8) (psh (t_forest_f τ) g) ∧ t_desk_reason τ' = rs' ∧ t_desk_detail τ' = dt' := by
  obtain ⟨rows', nx', cn', k1, k2⟩ := keep_g (φ := t_forest_f τ) hG
  apply Exists.intro
  refine ⟨?_, ?_, ?_, ?_, ?_, ?_, ?_, ?_, ?_⟩
  · unfold t_revert fL_revert f8_revert
    rw [f1_become_e, bnd, e, bnd]
    dsimp only
    rw [fin_ok ha k1, bnd]
    rfl
  · rfl
  · rfl
  · rfl
  · rfl
  · rfl
  · exact k2
  · rfl
  · rfl
theorem op_revert (h : WF S) (hF : RF (t_forest_f τ) S) (hI : t_inp_length τ = nI 0) (hL : LN τ) (hR : RSo (t_desk_reason τ)) (hG : HT τ u g) : ∃ r τ', t_revert x1 x2 x3 τ = some (r, τ') ∧ St τ u g r τ' := by
  obtain ⟨rs9, dt9, hE⟩ := RSo_RE (dt := t_desk_detail τ) hR
  obtain ⟨r, rs', dt', row', cc', lo', φ', is, N', rs9', dt9', an', m', c', f', q1, -, q3, q4⟩ := revert_2 (x1 := x1) (x2 := x2) (x3 := x3) (row := t_mix_row τ) (cc := t_mix_conflictCount τ) (lo := t_mix_lowest τ) (row9 := fun _ => 0) (cc9 := 0) (fc9 := 0) (an9 := 0) h hF (NS_rn h) hE
  rcases q4 with ⟨a, S', v1, v2, -, v4, rfl, -, -⟩ | ⟨rfl, -, ⟨rfl, -⟩ | ⟨rfl, -⟩ | ⟨rfl, -⟩⟩
  · obtain ⟨τ', z1, z2, z3, z4, z9, z5, z6, z7, z8⟩ := up_revert_0 q1 v4 hG
    exact ⟨_, τ', z1, z2, z3, z4.trans hI, by rw [z9]; exact hL, by rw [z7]; exact RE_RSo q3, Or.inl ⟨_, _, rfl, v4, v1, by rw [z5]; exact v2, z6⟩⟩
  · obtain ⟨τ', z1, z2, z3, z4⟩ := up_revert_1 q1
    exact ⟨_, τ', z1, ce_s z2, ce_v z2, (ce_i z2).trans hI, by rw [ce_l z2]; exact hL, by rw [z3]; exact RE_RSo q3, Or.inr ⟨by decide, ce_f z2, ce_h z2 hG⟩⟩
  · obtain ⟨τ', z1, z2, z3, z4⟩ := up_revert_2 q1
    exact ⟨_, τ', z1, ce_s z2, ce_v z2, (ce_i z2).trans hI, by rw [ce_l z2]; exact hL, by rw [z3]; exact RE_RSo q3, Or.inr ⟨by decide, ce_f z2, ce_h z2 hG⟩⟩
  · obtain ⟨τ', z1, z2, z3, z4⟩ := up_revert_3 q1
    exact ⟨_, τ', z1, ce_s z2, ce_v z2, (ce_i z2).trans hI, by rw [ce_l z2]; exact hL, by rw [z3]; exact RE_RSo q3, Or.inr ⟨by decide, ce_f z2, ce_h z2 hG⟩⟩
theorem up_bundle_2  {φ' : Fo} (e : f0_tryBundle x1 (t_forest_f τ) = some (-2, φ')) : ∃ τ', t_bundle x1 τ = some (-1001, τ') ∧ ce τ' = ce τ ∧ t_desk_reason τ' = t_desk_reason τ ∧ t_desk_detail τ' = t_desk_detail τ := by
  apply Exists.intro
  refine ⟨?_, ?_, ?_, ?_⟩
  · unfold t_bundle fL_bundle f8_bundle
    rw [f1_become_e, bnd, e, bnd]
    dsimp only
    rw [fin_a, bnd]
    rfl
  · rfl
  · rfl
  · rfl
theorem up_bundle_0  {φ' : Fo} {a : Nat} (e : f0_tryBundle x1 (t_forest_f τ) = some (nI a, φ')) (ha : a < 2 ^ 31) (hG : HT τ u g) : ∃ τ', t_bundle x1 τ = some (nI a, τ') ∧ t_top_isSaved τ' = t_top_isSaved τ ∧ t_saved_f τ' = t_saved_f τ ∧ t_inp_length τ' = t_inp_length τ ∧ LN τ' = LN τ ∧ t_forest_f τ' = φ' ∧ HT τ' (min (u + 1) 8) (psh (t_forest_f τ) g) ∧ t_desk_reason τ' = t_desk_reason τ ∧ t_desk_detail τ' = t_desk_detail τ := by
  obtain ⟨rows', nx', cn', k1, k2⟩ := keep_g (φ := t_forest_f τ) hG
  apply Exists.intro
  refine ⟨?_, ?_, ?_, ?_, ?_, ?_, ?_, ?_, ?_⟩
  · unfold t_bundle fL_bundle f8_bundle
    rw [f1_become_e, bnd, e, bnd]
    dsimp only
    rw [fin_ok ha k1, bnd]
    rfl
  · rfl
  · rfl
  · rfl
  · rfl
  · rfl
  · exact k2
  · rfl
  · rfl
theorem op_bundle (h : WF S) (hF : RF (t_forest_f τ) S) (hI : t_inp_length τ = nI 0) (hL : LN τ) (hR : RSo (t_desk_reason τ)) (hG : HT τ u g) : ∃ r τ', t_bundle x1 τ = some (r, τ') ∧ St τ u g r τ' := by
  cases hk : inb x1 3
  · have q1 := tryBundle_no (φ := t_forest_f τ) hk
    obtain ⟨τ', z1, z2, z3, z4⟩ := up_bundle_2 q1
    exact ⟨_, τ', z1, ce_s z2, ce_v z2, (ce_i z2).trans hI, by rw [ce_l z2]; exact hL, by rw [z3]; exact hR, Or.inr ⟨by decide, ce_f z2, ce_h z2 hG⟩⟩
  · obtain ⟨k, hk3, -, rfl⟩ := inb_ex hk
    obtain ⟨φ', q1, v2⟩ := tryBundle_ok h hF hk3
    have v1 := bundS_wf h hk3
    have v4 : bcn S < 2 ^ 31 := by have := bcn_le (S := S); omega
    obtain ⟨τ', z1, z2, z3, z4, z9, z5, z6, z7, z8⟩ := up_bundle_0 q1 v4 hG
    exact ⟨_, τ', z1, z2, z3, z4.trans hI, by rw [z9]; exact hL, by rw [z7]; exact hR, Or.inl ⟨_, _, rfl, v4, v1, by rw [z5]; exact v2, z6⟩⟩
theorem up_put_1 {rs' : Int32} {dt' : Int32} {φ' : Fo} (e : f0_tryPut x1 x2 (t_desk_reason τ) (t_desk_detail τ) (t_forest_f τ) = some (-1, rs', dt', φ')) : ∃ τ', t_put x1 x2 τ = some (-1001, τ') ∧ ce τ' = ce τ ∧ t_desk_reason τ' = rs' ∧ t_desk_detail τ' = dt' := by
  apply Exists.intro
  refine ⟨?_, ?_, ?_, ?_⟩
  · unfold t_put fL_put f8_put
    rw [f1_become_e, bnd, e, bnd]
    dsimp only
    rw [fin_1, bnd]
    rfl
  · rfl
  · rfl
  · rfl
theorem up_put_3 {rs' : Int32} {dt' : Int32} {φ' : Fo} (e : f0_tryPut x1 x2 (t_desk_reason τ) (t_desk_detail τ) (t_forest_f τ) = some (-3, rs', dt', φ')) : ∃ τ', t_put x1 x2 τ = some (-1002, τ') ∧ ce τ' = ce τ ∧ t_desk_reason τ' = rs' ∧ t_desk_detail τ' = dt' := by
  apply Exists.intro
  refine ⟨?_, ?_, ?_, ?_⟩
  · unfold t_put fL_put f8_put
    rw [f1_become_e, bnd, e, bnd]
    dsimp only
    rw [fin_r, bnd]
    rfl
  · rfl
  · rfl
  · rfl
theorem up_put_0 {rs' : Int32} {dt' : Int32} {φ' : Fo} {a : Nat} (e : f0_tryPut x1 x2 (t_desk_reason τ) (t_desk_detail τ) (t_forest_f τ) = some (nI a, rs', dt', φ')) (ha : a < 2 ^ 31) (hG : HT τ u g) : ∃ τ', t_put x1 x2 τ = some (nI a, τ') ∧ t_top_isSaved τ' = t_top_isSaved τ ∧ t_saved_f τ' = t_saved_f τ ∧ t_inp_length τ' = t_inp_length τ ∧ LN τ' = LN τ ∧ t_forest_f τ' = φ' ∧ HT τ' (min (u + 1) 8) (psh (t_forest_f τ) g) ∧ t_desk_reason τ' = rs' ∧ t_desk_detail τ' = dt' := by
  obtain ⟨rows', nx', cn', k1, k2⟩ := keep_g (φ := t_forest_f τ) hG
  apply Exists.intro
  refine ⟨?_, ?_, ?_, ?_, ?_, ?_, ?_, ?_, ?_⟩
  · unfold t_put fL_put f8_put
    rw [f1_become_e, bnd, e, bnd]
    dsimp only
    rw [fin_ok ha k1, bnd]
    rfl
  · rfl
  · rfl
  · rfl
  · rfl
  · rfl
  · exact k2
  · rfl
  · rfl
theorem op_put (h : WF S) (hF : RF (t_forest_f τ) S) (hI : t_inp_length τ = nI 0) (hL : LN τ) (hR : RSo (t_desk_reason τ)) (hG : HT τ u g) : ∃ r τ', t_put x1 x2 τ = some (r, τ') ∧ St τ u g r τ' := by
  obtain ⟨rs9, dt9, hE⟩ := RSo_RE (dt := t_desk_detail τ) hR
  obtain ⟨r, rs', dt', φ', is, N', rs9', dt9', an', q1, -, q3, q4⟩ := put_2 (x1 := x1) (x2 := x2)  (an9 := 0) h hF (NS_rn h) hE
  rcases q4 with ⟨a, S', v1, v2, -, v4, rfl, -, -⟩ | ⟨rfl, -, ⟨rfl, -⟩ | ⟨rfl, -⟩⟩
  · obtain ⟨τ', z1, z2, z3, z4, z9, z5, z6, z7, z8⟩ := up_put_0 q1 v4 hG
    exact ⟨_, τ', z1, z2, z3, z4.trans hI, by rw [z9]; exact hL, by rw [z7]; exact RE_RSo q3, Or.inl ⟨_, _, rfl, v4, v1, by rw [z5]; exact v2, z6⟩⟩
  · obtain ⟨τ', z1, z2, z3, z4⟩ := up_put_1 q1
    exact ⟨_, τ', z1, ce_s z2, ce_v z2, (ce_i z2).trans hI, by rw [ce_l z2]; exact hL, by rw [z3]; exact RE_RSo q3, Or.inr ⟨by decide, ce_f z2, ce_h z2 hG⟩⟩
  · obtain ⟨τ', z1, z2, z3, z4⟩ := up_put_3 q1
    exact ⟨_, τ', z1, ce_s z2, ce_v z2, (ce_i z2).trans hI, by rw [ce_l z2]; exact hL, by rw [z3]; exact RE_RSo q3, Or.inr ⟨by decide, ce_f z2, ce_h z2 hG⟩⟩
theorem up_play_1 {rs' : Int32} {dt' : Int32} {row' : AI} {cc' : Int32} {lo' : Int32} {φ' : Fo} (e : f0_tryPlay x1 x2 (t_desk_reason τ) (t_desk_detail τ) (t_mix_row τ) (t_mix_conflictCount τ) (t_mix_lowest τ) (t_forest_f τ) = some (-1, rs', dt', row', cc', lo', φ')) : ∃ τ', t_play x1 x2 τ = some (-1001, τ') ∧ ce τ' = ce τ ∧ t_desk_reason τ' = rs' ∧ t_desk_detail τ' = dt' := by
  apply Exists.intro
  refine ⟨?_, ?_, ?_, ?_⟩
  · unfold t_play fL_play f8_play
    rw [f1_become_e, bnd, e, bnd]
    dsimp only
    rw [fin_1, bnd]
    rfl
  · rfl
  · rfl
  · rfl
theorem up_play_2 {rs' : Int32} {dt' : Int32} {row' : AI} {cc' : Int32} {lo' : Int32} {φ' : Fo} (e : f0_tryPlay x1 x2 (t_desk_reason τ) (t_desk_detail τ) (t_mix_row τ) (t_mix_conflictCount τ) (t_mix_lowest τ) (t_forest_f τ) = some (-2, rs', dt', row', cc', lo', φ')) : ∃ τ', t_play x1 x2 τ = some (-1002, τ') ∧ ce τ' = ce τ ∧ t_desk_reason τ' = rs' ∧ t_desk_detail τ' = dt' := by
  apply Exists.intro
  refine ⟨?_, ?_, ?_, ?_⟩
  · unfold t_play fL_play f8_play
    rw [f1_become_e, bnd, e, bnd]
    dsimp only
    rw [fin_a, bnd]
    rfl
  · rfl
  · rfl
  · rfl
theorem up_play_3 {rs' : Int32} {dt' : Int32} {row' : AI} {cc' : Int32} {lo' : Int32} {φ' : Fo} (e : f0_tryPlay x1 x2 (t_desk_reason τ) (t_desk_detail τ) (t_mix_row τ) (t_mix_conflictCount τ) (t_mix_lowest τ) (t_forest_f τ) = some (-3, rs', dt', row', cc', lo', φ')) : ∃ τ', t_play x1 x2 τ = some (-1003, τ') ∧ ce τ' = ce τ ∧ t_desk_reason τ' = rs' ∧ t_desk_detail τ' = dt' := by
  apply Exists.intro
  refine ⟨?_, ?_, ?_, ?_⟩
  · unfold t_play fL_play f8_play
    rw [f1_become_e, bnd, e, bnd]
    dsimp only
    rw [fin_r, bnd]
    rfl
  · rfl
  · rfl
  · rfl
theorem up_play_0 {rs' : Int32} {dt' : Int32} {row' : AI} {cc' : Int32} {lo' : Int32} {φ' : Fo} {a : Nat} (e : f0_tryPlay x1 x2 (t_desk_reason τ) (t_desk_detail τ) (t_mix_row τ) (t_mix_conflictCount τ) (t_mix_lowest τ) (t_forest_f τ) = some (nI a, rs', dt', row', cc', lo', φ')) (ha : a < 2 ^ 31) (hG : HT τ u g) : ∃ τ', t_play x1 x2 τ = some (nI a, τ') ∧ t_top_isSaved τ' = t_top_isSaved τ ∧ t_saved_f τ' = t_saved_f τ ∧ t_inp_length τ' = t_inp_length τ ∧ LN τ' = LN τ ∧ t_forest_f τ' = φ' ∧ HT τ' (min (u + 1) 8) (psh (t_forest_f τ) g) ∧ t_desk_reason τ' = rs' ∧ t_desk_detail τ' = dt' := by
  obtain ⟨rows', nx', cn', k1, k2⟩ := keep_g (φ := t_forest_f τ) hG
  apply Exists.intro
  refine ⟨?_, ?_, ?_, ?_, ?_, ?_, ?_, ?_, ?_⟩
  · unfold t_play fL_play f8_play
    rw [f1_become_e, bnd, e, bnd]
    dsimp only
    rw [fin_ok ha k1, bnd]
    rfl
  · rfl
  · rfl
  · rfl
  · rfl
  · rfl
  · exact k2
  · rfl
  · rfl
theorem op_play (h : WF S) (hF : RF (t_forest_f τ) S) (hI : t_inp_length τ = nI 0) (hL : LN τ) (hR : RSo (t_desk_reason τ)) (hG : HT τ u g) : ∃ r τ', t_play x1 x2 τ = some (r, τ') ∧ St τ u g r τ' := by
  obtain ⟨rs9, dt9, hE⟩ := RSo_RE (dt := t_desk_detail τ) hR
  obtain ⟨r, rs', dt', row', cc', lo', φ', is, N', rs9', dt9', an', m', c', f', q1, -, q3, q4⟩ := play_2 (x1 := x1) (x2 := x2) (row := t_mix_row τ) (cc := t_mix_conflictCount τ) (lo := t_mix_lowest τ) (row9 := fun _ => 0) (cc9 := 0) (fc9 := 0) (an9 := 0) h hF (NS_rn h) hE
  rcases q4 with ⟨a, S', v1, v2, -, v4, rfl, -, -⟩ | ⟨rfl, -⟩ | ⟨rfl, -⟩ | ⟨rfl, -⟩
  · obtain ⟨τ', z1, z2, z3, z4, z9, z5, z6, z7, z8⟩ := up_play_0 q1 v4 hG
    exact ⟨_, τ', z1, z2, z3, z4.trans hI, by rw [z9]; exact hL, by rw [z7]; exact RE_RSo q3, Or.inl ⟨_, _, rfl, v4, v1, by rw [z5]; exact v2, z6⟩⟩
  · obtain ⟨τ', z1, z2, z3, z4⟩ := up_play_1 q1
    exact ⟨_, τ', z1, ce_s z2, ce_v z2, (ce_i z2).trans hI, by rw [ce_l z2]; exact hL, by rw [z3]; exact RE_RSo q3, Or.inr ⟨by decide, ce_f z2, ce_h z2 hG⟩⟩
  · obtain ⟨τ', z1, z2, z3, z4⟩ := up_play_2 q1
    exact ⟨_, τ', z1, ce_s z2, ce_v z2, (ce_i z2).trans hI, by rw [ce_l z2]; exact hL, by rw [z3]; exact RE_RSo q3, Or.inr ⟨by decide, ce_f z2, ce_h z2 hG⟩⟩
  · obtain ⟨τ', z1, z2, z3, z4⟩ := up_play_3 q1
    exact ⟨_, τ', z1, ce_s z2, ce_v z2, (ce_i z2).trans hI, by rw [ce_l z2]; exact hL, by rw [z3]; exact RE_RSo q3, Or.inr ⟨by decide, ce_f z2, ce_h z2 hG⟩⟩
theorem op_undo (hG : HT τ (u + 1) g) : ∃ τ', t_undo τ = some (nI u, τ') ∧ t_top_isSaved τ' = t_top_isSaved τ ∧ t_saved_f τ' = t_saved_f τ ∧ t_inp_length τ' = t_inp_length τ ∧ LN τ' = LN τ ∧ t_desk_reason τ' = t_desk_reason τ ∧ t_forest_f τ' = g 0 ∧ HT τ' u (fun t => g (t + 1)) := by
  obtain ⟨x, hu, hx, e1, e2, hr⟩ := hG
  have hlat : f2_latest (t_hist_next τ) = nI ((x + 7) % 8) := by
    unfold f2_latest
    rw [e2, nI_add, nJ_sub (by omega) (by omega), nJ_mod (by omega) (by omega) (by omega)]
    rfl
  refine ⟨(t_top_isSaved τ, t_top_wrongPosition τ, t_desk_reason τ, t_desk_detail τ, t_mix_row τ, t_mix_conflictCount τ, t_mix_lowest τ, g 0, t_before_f τ, t_saved_f τ, t_hist_rows τ, nI ((x + 7) % 8), nI u, t_walk_commits τ, t_walk_length τ, t_walk_looks τ, t_inp_signs τ, t_inp_length τ, t_ord_rows τ, t_ord_count τ, t_ord_position τ, t_ord_column τ, t_lin_signs τ, t_lin_length τ), ?_, rfl, rfl, rfl, rfl, rfl, rfl, ?_⟩
  · unfold t_undo fL_undo f8_undo f2_size f2_takeBack
    rw [hlat, e1, inb_t (by omega) (by omega), if_pos rfl, bnd, if_pos (by rw [nJ_le (by omega) (by omega)]; omega), if_pos (by rw [nJ_le (by omega) (by omega)]; omega), nJ_sub (by omega) (by omega), nJ_nat (by omega), show u + 1 - 1 = u by omega, show t_hist_rows τ ((x + 7) % 8) = g 0 from hr 0 (by omega)]
    rfl
  · refine ⟨(x + 7) % 8, by omega, by omega, rfl, rfl, fun t ht => ?_⟩
    have := hr (t + 1) (by omega)
    show t_hist_rows τ (((x + 7) % 8 + 7 - t) % 8) = g (t + 1)
    rw [← this]
    congr 1
    omega
theorem op_undo0 (hG : HT τ 0 g) : ∃ τ', t_undo τ = some (-1001, τ') ∧ ce τ' = ce τ ∧ t_desk_reason τ' = t_desk_reason τ := by
  obtain ⟨x, hu, hx, e1, e2, hr⟩ := hG
  apply Exists.intro
  refine ⟨?_, ?_, ?_⟩
  · unfold t_undo fL_undo f8_undo f2_size
    rw [bnd, if_neg (by rw [e1]; decide)]
    rfl
  · rfl
  · rfl
theorem op_restore (hF : RF (t_saved_f τ) S) (hs : t_top_isSaved τ = nI 1) (hG : HT τ u g) : ∃ τ', t_restore τ = some (nI (s_c S), τ') ∧ t_top_isSaved τ' = nI 1 ∧ t_saved_f τ' = t_saved_f τ ∧ t_inp_length τ' = t_inp_length τ ∧ LN τ' = LN τ ∧ t_desk_reason τ' = t_desk_reason τ ∧ t_forest_f τ' = t_saved_f τ ∧ HT τ' 0 g := by
  obtain ⟨x, hu, hx, e1, e2, hr⟩ := hG
  apply Exists.intro
  refine ⟨?_, ?_, ?_, ?_, ?_, ?_, ?_, ?_⟩
  · unfold t_restore fL_restore f8_restore f2_forgetAll
    rw [if_neg (by rw [hs]; decide), f1_become_e, bnd, bnd, show f1_commitCount (t_saved_f τ) = some (nI (s_c S)) from congrArg some hF.1.1, bnd]
    rfl
  · exact hs
  · rfl
  · rfl
  · rfl
  · rfl
  · rfl
  · exact ⟨x, by omega, hx, rfl, e2, fun t ht => absurd ht (by omega)⟩
theorem op_save (hF : RF (t_forest_f τ) S) : ∃ τ', t_save τ = some (nI (s_c S), τ') ∧ t_top_isSaved τ' = nI 1 ∧ t_saved_f τ' = t_forest_f τ ∧ t_inp_length τ' = t_inp_length τ ∧ LN τ' = LN τ ∧ t_desk_reason τ' = t_desk_reason τ ∧ t_forest_f τ' = t_forest_f τ ∧ (∀ u g, HT τ u g → HT τ' u g) := by
  apply Exists.intro
  refine ⟨?_, ?_, ?_, ?_, ?_, ?_, ?_, ?_⟩
  · unfold t_save f8_save
    rw [f1_become_e, bnd, show f1_commitCount (t_forest_f τ) = some (nI (s_c S)) from congrArg some hF.1.1, bnd]
    rfl
  · rfl
  · rfl
  · rfl
  · rfl
  · rfl
  · rfl
  · exact fun u g h => h
end OPS
