/-! calls whose answer is known -/
def RH (τ : TO) (S : SS) : Prop := RF (t_forest_f τ) S ∧ LN τ ∧ t_inp_length τ = nI 0
theorem RH_ce {τ τ' : TO} {S : SS} (h : ce τ' = ce τ) (hg : RH τ S) : RH τ' S := ⟨by rw [ce_f h]; exact hg.1, by rw [ce_l h]; exact hg.2.1, (ce_i h).trans hg.2.2⟩
theorem co_r {τ τ' : TO} (h : co τ' = co τ) : t_desk_reason τ' = t_desk_reason τ := congrArg (fun z => z.2.2.2.2.2.2.2.1) h
theorem co_d {τ τ' : TO} (h : co τ' = co τ) : t_desk_detail τ' = t_desk_detail τ := congrArg (fun z => z.2.2.2.2.2.2.2.2.1) h
section CD
variable {S : SS} {α β : Type} {w d e : Int32}
def Cd (S : SS) (q : TO → Option (α × TO)) (a : α) : Prop := ∀ τ, RH τ S → ∃ τ', q τ = some (a, τ') ∧ ce τ' = ce τ
def Cr (S : SS) (q : TO → Option (α × TO)) (a : α) (w d : Int32) : Prop := ∀ τ, RH τ S → ∃ τ', q τ = some (a, τ') ∧ ce τ' = ce τ ∧ t_desk_reason τ' = w ∧ t_desk_detail τ' = d
def Cp (S : SS) (q : TO → Option (α × TO)) (a : α) (e : Int32) : Prop := ∀ τ, RH τ S → ∃ τ', q τ = some (a, τ') ∧ ce τ' = ce τ ∧ t_top_wrongPosition τ' = e
def Kd (S : SS) (q : TO → Option (α × TO)) (a : α) : Prop := ∀ τ, RH τ S → ∃ τ', q τ = some (a, τ') ∧ ce τ' = ce τ ∧ RSo (t_desk_reason τ')
def Kw (S : SS) (w d : Int32) (q : TO → Option (α × TO)) (a : α) : Prop := ∀ τ, RH τ S → t_desk_reason τ = w → t_desk_detail τ = d → ∃ τ', q τ = some (a, τ') ∧ ce τ' = ce τ ∧ RSo (t_desk_reason τ')
def Kx (S : SS) (e : Int32) (q : TO → Option (α × TO)) (a : α) : Prop := ∀ τ, RH τ S → t_top_wrongPosition τ = e → ∃ τ', q τ = some (a, τ') ∧ ce τ' = ce τ ∧ RSo (t_desk_reason τ')
theorem Det.cd {q : TO → Option (α × TO)} {a : α} (h : Det S q a) : Cd S q a := fun τ hg => by
  obtain ⟨τ', e1, e2⟩ := h τ ⟨hg.1, hg.2.1⟩
  exact ⟨τ', e1, co_ce e2⟩
theorem Cd.bind {q : TO → Option (α × TO)} {a : α} {k : α × TO → Option (β × TO)} {b : β} (hq : Cd S q a) (hk : Kd S (fun τ => k (a, τ)) b) : Kd S (fun τ => (q τ).bind k) b := by
  intro τ hF
  obtain ⟨τ1, e1, e2⟩ := hq τ hF
  obtain ⟨τ2, e3, e4, e5⟩ := hk τ1 (RH_ce e2 hF)
  exact ⟨τ2, by dsimp only; rw [e1, bnd]; exact e3, e4.trans e2, e5⟩
theorem Cr.bind {q : TO → Option (α × TO)} {a : α} {k : α × TO → Option (β × TO)} {b : β} (hq : Cr S q a w d) (hk : Kw S w d (fun τ => k (a, τ)) b) : Kd S (fun τ => (q τ).bind k) b := by
  intro τ hF
  obtain ⟨τ1, e1, e2, e5, e6⟩ := hq τ hF
  obtain ⟨τ2, e3, e4, e7⟩ := hk τ1 (RH_ce e2 hF) e5 e6
  exact ⟨τ2, by dsimp only; rw [e1, bnd]; exact e3, e4.trans e2, e7⟩
theorem Cp.bind {q : TO → Option (α × TO)} {a : α} {k : α × TO → Option (β × TO)} {b : β} (hq : Cp S q a e) (hk : Kx S e (fun τ => k (a, τ)) b) : Kd S (fun τ => (q τ).bind k) b := by
  intro τ hF
  obtain ⟨τ1, e1, e2, e5⟩ := hq τ hF
  obtain ⟨τ2, e3, e4, e7⟩ := hk τ1 (RH_ce e2 hF) e5
  exact ⟨τ2, by dsimp only; rw [e1, bnd]; exact e3, e4.trans e2, e7⟩
theorem Kw.det {q : TO → Option (α × TO)} {a : α} {k : α × TO → Option (β × TO)} {b : β} (hq : Det S q a) (hk : Kw S w d (fun τ => k (a, τ)) b) : Kw S w d (fun τ => (q τ).bind k) b := by
  intro τ hF h1 h2
  obtain ⟨τ1, e1, e2⟩ := hq τ ⟨hF.1, hF.2.1⟩
  obtain ⟨τ2, e3, e4, e7⟩ := hk τ1 (RH_ce (co_ce e2) hF) ((co_r e2).trans h1) ((co_d e2).trans h2)
  exact ⟨τ2, by dsimp only; rw [e1, bnd]; exact e3, e4.trans (co_ce e2), e7⟩
theorem Kd.pos {c : Prop} {inst : TO → Decidable c} {f g : TO → Option (β × TO)} {b : β} (hc : c) (h : Kd S f b) : Kd S (fun τ => @ite _ c (inst τ) (f τ) (g τ)) b := fun τ hF => by
  dsimp only; rw [if_pos hc]; exact h τ hF
theorem Kd.neg {c : Prop} {inst : TO → Decidable c} {f g : TO → Option (β × TO)} {b : β} (hc : ¬ c) (h : Kd S g b) : Kd S (fun τ => @ite _ c (inst τ) (f τ) (g τ)) b := fun τ hF => by
  dsimp only; rw [if_neg hc]; exact h τ hF
theorem Kw.pos {c : Prop} {inst : TO → Decidable c} {f g : TO → Option (β × TO)} {b : β} (hc : c) (h : Kw S w d f b) : Kw S w d (fun τ => @ite _ c (inst τ) (f τ) (g τ)) b := fun τ hF => by
  dsimp only; rw [if_pos hc]; exact h τ hF
theorem Kw.neg {c : Prop} {inst : TO → Decidable c} {f g : TO → Option (β × TO)} {b : β} (hc : ¬ c) (h : Kw S w d g b) : Kw S w d (fun τ => @ite _ c (inst τ) (f τ) (g τ)) b := fun τ hF => by
  dsimp only; rw [if_neg hc]; exact h τ hF
theorem Kx.pos {c : Prop} {inst : TO → Decidable c} {f g : TO → Option (β × TO)} {b : β} (hc : c) (h : Kx S e f b) : Kx S e (fun τ => @ite _ c (inst τ) (f τ) (g τ)) b := fun τ hF => by
  dsimp only; rw [if_pos hc]; exact h τ hF
theorem is_e {τ : TO} (hw : ¬ w = -1) (e1 : t_desk_reason τ = w) (e2 : t_desk_detail τ = d) : fL_is w d τ = some (true, τ) := by
  have t0 : t_refusal (nI 0) τ = some (w, τ) := by
    unfold t_refusal fL_refusal f8_refusal f0_latestReason
    rw [e1, bnd, if_neg hw, if_pos (by decide), bnd]
    rfl
  have t1 : t_refusal (nI 1) τ = some (d, τ) := by
    unfold t_refusal fL_refusal f8_refusal f0_latestReason f0_latestDetail
    rw [e1, e2, bnd, if_neg hw, if_neg (by decide), bnd]
    rfl
  unfold fL_is
  rw [t0, bnd]
  dsimp only
  rw [if_pos rfl, t1, bnd]
  dsimp only
  rw [if_pos rfl]
theorem Kw.is {k : Bool × TO → Option (β × TO)} {b : β} (hw : ¬ w = -1) (hk : Kd S (fun τ => k (true, τ)) b) : Kw S w d (fun τ => (fL_is w d τ).bind k) b := by
  intro τ hF e1 e2
  obtain ⟨τ2, e3, e4⟩ := hk τ hF
  exact ⟨τ2, by dsimp only; rw [is_e hw e1 e2, bnd]; exact e3, e4⟩
theorem Kw.is2 {k : Bool × TO → Option (β × TO)} {b : β} (hw : ¬ w = -1) (hk : Kw S w d (fun τ => k (true, τ)) b) : Kw S w d (fun τ => (fL_is w d τ).bind k) b := by
  intro τ hF e1 e2
  obtain ⟨τ2, e3, e4⟩ := hk τ hF e1 e2
  exact ⟨τ2, by dsimp only; rw [is_e hw e1 e2, bnd]; exact e3, e4⟩
theorem Kx.errp {K : TO → Int32 → Option (β × TO)} {b : β} (hk : Kd S (fun τ => K τ e) b) : Kx S e (fun τ => (t_errorPosition τ).bind (K τ)) b := by
  intro τ hF e1
  obtain ⟨τ2, e3, e4⟩ := hk τ hF
  refine ⟨τ2, ?_, e4⟩
  dsimp only
  rw [show t_errorPosition τ = some e from congrArg some e1, bnd]
  exact e3
end CD
section RX
variable {S : SS} {φ : Fo} {row : AI} {x1 x2 x3 x4 rs dt cc lo : Int32} {j k i : Nat}
theorem tX_edit_b (h : WF S) (hF : RF φ S) (hb : inb x1 (s_b S) = false) : f0_tryEdit x1 x2 x3 rs dt row φ = some (-1, rs, dt, row, φ) := by
  have h5 := h.b5; have hc9 := h.c24; have hc1 := h.c1; have hb1 := h.b1
  unfold f0_tryEdit
  rw [f1_isBranch_e h hF, hb, bnd, if_pos b2iF]
theorem rx_edit_b (h : WF S) (hb : inb x1 (s_b S) = false) : Cd S (t_edit x1 x2 x3) (-1001) := fun τ hg => by
  obtain ⟨τ', a, b, -⟩ := up_edit_1 (tX_edit_b h hg.1 hb)
  exact ⟨τ', a, b⟩
theorem tX_edit_k (h : WF S) (hF : RF φ S) (hb : inb x1 (s_b S) = true) (hk : inb x2 6 = false) : f0_tryEdit x1 x2 x3 rs dt row φ = some (-1, rs, dt, row, φ) := by
  have h5 := h.b5; have hc9 := h.c24; have hc1 := h.c1; have hb1 := h.b1
  unfold f0_tryEdit
  rw [f1_isBranch_e h hF, hb, bnd, if_neg b2iT, f8_isIngredient_e, hk, bnd, if_pos b2iF]
theorem rx_edit_k (h : WF S) (hb : inb x1 (s_b S) = true) (hk : inb x2 6 = false) : Cd S (t_edit x1 x2 x3) (-1001) := fun τ hg => by
  obtain ⟨τ', a, b, -⟩ := up_edit_1 (tX_edit_k h hg.1 hb hk)
  exact ⟨τ', a, b⟩
theorem tX_edit_a (h : WF S) (hF : RF φ S) (hb : inb x1 (s_b S) = true) (hk : inb x2 6 = true) (ha : inb x3 100 = false) : f0_tryEdit x1 x2 x3 rs dt row φ = some (-2, rs, dt, row, φ) := by
  have h5 := h.b5; have hc9 := h.c24; have hc1 := h.c1; have hb1 := h.b1
  unfold f0_tryEdit
  rw [f1_isBranch_e h hF, hb, bnd, if_neg b2iT, f8_isIngredient_e, hk, bnd, if_neg b2iT, f8_isAmount_e, ha, bnd, if_pos b2iF]
theorem rx_edit_a (h : WF S) (hb : inb x1 (s_b S) = true) (hk : inb x2 6 = true) (ha : inb x3 100 = false) : Cd S (t_edit x1 x2 x3) (-1002) := fun τ hg => by
  obtain ⟨τ', a, b, -⟩ := up_edit_2 (tX_edit_a h hg.1 hb hk ha)
  exact ⟨τ', a, b⟩
theorem tX_edit_s (h : WF S) (hF : RF φ S) (hj : j < s_b S) (hk : k < 6) : f0_tryEdit (nI j) (nI k) (nI (s_am S (s_tp S j) k)) rs dt row φ = some (-3, (nI 2), (nI (s_am S (s_tp S j) k)), row, φ) := by
  have h5 := h.b5; have hc9 := h.c24; have hc1 := h.c1; have hb1 := h.b1
  have ht := h.tp hj
  have ham := h.am ht hk
  unfold f0_tryEdit
  rw [f1_isBranch_e h hF, inb_t hj (by omega), bnd, if_neg b2iT, f8_isIngredient_e, inb_t hk (by omega), bnd, if_neg b2iT, f8_isAmount_e, inb_t (show s_am S (s_tp S j) k < 100 by omega) (by omega), bnd, if_neg b2iT, f1_tipOf_e h hF hj, bnd, f1_amountIn_e h hF ht hk, bnd, if_pos rfl]
  rfl
theorem rx_edit_s (h : WF S) (hj : j < s_b S) (hk : k < 6) : Cr S (t_edit (nI j) (nI k) (nI (s_am S (s_tp S j) k))) (-1003) (nI 2) (nI (s_am S (s_tp S j) k)) := fun τ hg => by
  obtain ⟨τ', a, b, c, d⟩ := up_edit_3 (tX_edit_s h hg.1 hj hk)
  exact ⟨τ', a, b, c, d⟩
theorem tX_fork_b (h : WF S) (hF : RF φ S) (hb : inb x1 (s_b S) = false) : f0_tryFork x1 rs dt φ = some (-1, rs, dt, φ) := by
  have h5 := h.b5; have hc9 := h.c24; have hc1 := h.c1; have hb1 := h.b1
  unfold f0_tryFork
  rw [f1_isBranch_e h hF, hb, bnd, if_pos b2iF]
theorem rx_fork_b (h : WF S) (hb : inb x1 (s_b S) = false) : Cd S (t_fork x1) (-1001) := fun τ hg => by
  obtain ⟨τ', a, b, -⟩ := up_fork_1 (tX_fork_b h hg.1 hb)
  exact ⟨τ', a, b⟩
theorem tX_fork_f (h : WF S) (hF : RF φ S) (hj : j < s_b S) (h5b : s_b S = 5) : f0_tryFork (nI j) rs dt φ = some (-3, (nI 1), (nI 5), φ) := by
  have h5 := h.b5; have hc9 := h.c24; have hc1 := h.c1; have hb1 := h.b1
  unfold f0_tryFork
  rw [f1_isBranch_e h hF, inb_t hj (by omega), bnd, if_neg b2iT, show f1_branchCount φ = some (nI (s_b S)) from congrArg some hF.1.2.1, bnd, if_neg (by rw [nJ_lt (by omega) (by omega)]; omega)]
  rfl
theorem rx_fork_f (h : WF S) (hj : j < s_b S) (h5b : s_b S = 5) : Cr S (t_fork (nI j)) (-1002) (nI 1) (nI 5) := fun τ hg => by
  obtain ⟨τ', a, b, c, d⟩ := up_fork_3 (tX_fork_f h hg.1 hj h5b)
  exact ⟨τ', a, b, c, d⟩
theorem tX_reset_b (h : WF S) (hF : RF φ S) (hb : inb x1 (s_b S) = false) : f0_tryReset x1 x2 rs dt φ = some (-1, rs, dt, φ) := by
  have h5 := h.b5; have hc9 := h.c24; have hc1 := h.c1; have hb1 := h.b1
  unfold f0_tryReset
  rw [f1_isBranch_e h hF, hb, bnd, if_pos b2iF]
theorem rx_reset_b (h : WF S) (hb : inb x1 (s_b S) = false) : Cd S (t_reset x1 x2) (-1001) := fun τ hg => by
  obtain ⟨τ', a, b, -⟩ := up_reset_1 (tX_reset_b h hg.1 hb)
  exact ⟨τ', a, b⟩
theorem tX_reset_c (h : WF S) (hF : RF φ S) (hb : inb x1 (s_b S) = true) (hc : inb x2 (s_c S) = false) : f0_tryReset x1 x2 rs dt φ = some (-1, rs, dt, φ) := by
  have h5 := h.b5; have hc9 := h.c24; have hc1 := h.c1; have hb1 := h.b1
  unfold f0_tryReset
  rw [f1_isBranch_e h hF, hb, bnd, if_neg b2iT, f1_isCommit_e h hF, hc, bnd, if_pos b2iF]
theorem rx_reset_c (h : WF S) (hb : inb x1 (s_b S) = true) (hc : inb x2 (s_c S) = false) : Cd S (t_reset x1 x2) (-1001) := fun τ hg => by
  obtain ⟨τ', a, b, -⟩ := up_reset_1 (tX_reset_c h hg.1 hb hc)
  exact ⟨τ', a, b⟩
theorem tX_reset_s (h : WF S) (hF : RF φ S) (hj : j < s_b S) : f0_tryReset (nI j) (nI (s_tp S j)) rs dt φ = some (-3, (nI 3), (nI (s_tp S j)), φ) := by
  have h5 := h.b5; have hc9 := h.c24; have hc1 := h.c1; have hb1 := h.b1
  have ht := h.tp hj
  unfold f0_tryReset
  rw [f1_isBranch_e h hF, inb_t hj (by omega), bnd, if_neg b2iT, f1_isCommit_e h hF, inb_t ht (by omega), bnd, if_neg b2iT, f1_tipOf_e h hF hj, bnd, if_pos rfl]
  rfl
theorem rx_reset_s (h : WF S) (hj : j < s_b S) : Cr S (t_reset (nI j) (nI (s_tp S j))) (-1002) (nI 3) (nI (s_tp S j)) := fun τ hg => by
  obtain ⟨τ', a, b, c, d⟩ := up_reset_3 (tX_reset_s h hg.1 hj)
  exact ⟨τ', a, b, c, d⟩
theorem tX_merge_b (h : WF S) (hF : RF φ S) (hb : inb x1 (s_b S) = false) : f0_tryMerge x1 x2 x3 rs dt row cc lo φ = some (-1, rs, dt, row, cc, lo, φ) := by
  have h5 := h.b5; have hc9 := h.c24; have hc1 := h.c1; have hb1 := h.b1
  unfold f0_tryMerge
  rw [f1_isBranch_e (x := x1) h hF, hb, bnd, if_pos b2iF]
theorem rx_merge_b (h : WF S) (hb : inb x1 (s_b S) = false) : Cd S (t_merge x1 x2 x3) (-1001) := fun τ hg => by
  obtain ⟨τ', a, b, -⟩ := up_merge_1 (tX_merge_b h hg.1 hb)
  exact ⟨τ', a, b⟩
theorem tX_merge_b2 (h : WF S) (hF : RF φ S) (hb : inb x1 (s_b S) = true) (hb2 : inb x2 (s_b S) = false) : f0_tryMerge x1 x2 x3 rs dt row cc lo φ = some (-1, rs, dt, row, cc, lo, φ) := by
  have h5 := h.b5; have hc9 := h.c24; have hc1 := h.c1; have hb1 := h.b1
  unfold f0_tryMerge
  rw [f1_isBranch_e (x := x1) h hF, hb, bnd, if_neg b2iT, f1_isBranch_e (x := x2) h hF, hb2, bnd, if_pos b2iF]
theorem rx_merge_b2 (h : WF S) (hb : inb x1 (s_b S) = true) (hb2 : inb x2 (s_b S) = false) : Cd S (t_merge x1 x2 x3) (-1001) := fun τ hg => by
  obtain ⟨τ', a, b, -⟩ := up_merge_1 (tX_merge_b2 h hg.1 hb hb2)
  exact ⟨τ', a, b⟩
theorem tX_merge_r (h : WF S) (hF : RF φ S) (hb : inb x1 (s_b S) = true) (hb2 : inb x2 (s_b S) = true) (hr : inb x3 4 = false) : f0_tryMerge x1 x2 x3 rs dt row cc lo φ = some (-2, rs, dt, row, cc, lo, φ) := by
  have h5 := h.b5; have hc9 := h.c24; have hc1 := h.c1; have hb1 := h.b1
  unfold f0_tryMerge
  rw [f1_isBranch_e (x := x1) h hF, hb, bnd, if_neg b2iT, f1_isBranch_e (x := x2) h hF, hb2, bnd, if_neg b2iT, f8_isRule_e, hr, bnd, if_pos b2iF]
theorem rx_merge_r (h : WF S) (hb : inb x1 (s_b S) = true) (hb2 : inb x2 (s_b S) = true) (hr : inb x3 4 = false) : Cd S (t_merge x1 x2 x3) (-1002) := fun τ hg => by
  obtain ⟨τ', a, b, -⟩ := up_merge_2 (tX_merge_r h hg.1 hb hb2 hr)
  exact ⟨τ', a, b⟩
theorem tX_merge_s (h : WF S) (hF : RF φ S) (hj : j < s_b S) (hr : k < 4) : f0_tryMerge (nI j) (nI j) (nI k) rs dt row cc lo φ = some (-3, (nI 4), (nI (s_tp S j)), row, cc, lo, φ) := by
  have h5 := h.b5; have hc9 := h.c24; have hc1 := h.c1; have hb1 := h.b1
  have ht := h.tp hj
  unfold f0_tryMerge
  rw [f1_isBranch_e h hF, inb_t hj (by omega), bnd, if_neg b2iT, bnd, if_neg b2iT, f8_isRule_e, inb_t hr (by omega), bnd, if_neg b2iT, f1_tipOf_e h hF hj, bnd, bnd, f1_hasInFamily_e h hF ht ht, h.self ht, bnd, if_neg b2iT]
  rfl
theorem rx_merge_s (h : WF S) (hj : j < s_b S) (hr : k < 4) : Cr S (t_merge (nI j) (nI j) (nI k)) (-1003) (nI 4) (nI (s_tp S j)) := fun τ hg => by
  obtain ⟨τ', a, b, c, d⟩ := up_merge_3 (tX_merge_s h hg.1 hj hr)
  exact ⟨τ', a, b, c, d⟩
theorem tX_pick_b (h : WF S) (hF : RF φ S) (hb : inb x1 (s_b S) = false) : f0_tryPick x1 x2 x3 rs dt row cc lo φ = some (-1, rs, dt, row, cc, lo, φ) := by
  have h5 := h.b5; have hc9 := h.c24; have hc1 := h.c1; have hb1 := h.b1
  unfold f0_tryPick
  rw [f1_isBranch_e h hF, hb, bnd, if_pos b2iF]
theorem rx_pick_b (h : WF S) (hb : inb x1 (s_b S) = false) : Cd S (t_pick x1 x2 x3) (-1001) := fun τ hg => by
  obtain ⟨τ', a, b, -⟩ := up_pick_1 (tX_pick_b h hg.1 hb)
  exact ⟨τ', a, b⟩
theorem tX_pick_c (h : WF S) (hF : RF φ S) (hb : inb x1 (s_b S) = true) (hc : inb x2 (s_c S) = false) : f0_tryPick x1 x2 x3 rs dt row cc lo φ = some (-1, rs, dt, row, cc, lo, φ) := by
  have h5 := h.b5; have hc9 := h.c24; have hc1 := h.c1; have hb1 := h.b1
  unfold f0_tryPick
  rw [f1_isBranch_e h hF, hb, bnd, if_neg b2iT, f1_isCommit_e h hF, hc, bnd, if_pos b2iF]
theorem rx_pick_c (h : WF S) (hb : inb x1 (s_b S) = true) (hc : inb x2 (s_c S) = false) : Cd S (t_pick x1 x2 x3) (-1001) := fun τ hg => by
  obtain ⟨τ', a, b, -⟩ := up_pick_1 (tX_pick_c h hg.1 hb hc)
  exact ⟨τ', a, b⟩
theorem tX_pick_r (h : WF S) (hF : RF φ S) (hb : inb x1 (s_b S) = true) (hc : inb x2 (s_c S) = true) (hr : inb x3 4 = false) : f0_tryPick x1 x2 x3 rs dt row cc lo φ = some (-2, rs, dt, row, cc, lo, φ) := by
  have h5 := h.b5; have hc9 := h.c24; have hc1 := h.c1; have hb1 := h.b1
  unfold f0_tryPick
  rw [f1_isBranch_e h hF, hb, bnd, if_neg b2iT, f1_isCommit_e h hF, hc, bnd, if_neg b2iT, f8_isRule_e, hr, bnd, if_pos b2iF]
theorem rx_pick_r (h : WF S) (hb : inb x1 (s_b S) = true) (hc : inb x2 (s_c S) = true) (hr : inb x3 4 = false) : Cd S (t_pick x1 x2 x3) (-1002) := fun τ hg => by
  obtain ⟨τ', a, b, -⟩ := up_pick_2 (tX_pick_r h hg.1 hb hc hr)
  exact ⟨τ', a, b⟩
theorem tX_revert_b (h : WF S) (hF : RF φ S) (hb : inb x1 (s_b S) = false) : f0_tryRevert x1 x2 x3 rs dt row cc lo φ = some (-1, rs, dt, row, cc, lo, φ) := by
  have h5 := h.b5; have hc9 := h.c24; have hc1 := h.c1; have hb1 := h.b1
  unfold f0_tryRevert
  rw [f1_isBranch_e h hF, hb, bnd, if_pos b2iF]
theorem rx_revert_b (h : WF S) (hb : inb x1 (s_b S) = false) : Cd S (t_revert x1 x2 x3) (-1001) := fun τ hg => by
  obtain ⟨τ', a, b, -⟩ := up_revert_1 (tX_revert_b h hg.1 hb)
  exact ⟨τ', a, b⟩
theorem tX_revert_c (h : WF S) (hF : RF φ S) (hb : inb x1 (s_b S) = true) (hc : inb x2 (s_c S) = false) : f0_tryRevert x1 x2 x3 rs dt row cc lo φ = some (-1, rs, dt, row, cc, lo, φ) := by
  have h5 := h.b5; have hc9 := h.c24; have hc1 := h.c1; have hb1 := h.b1
  unfold f0_tryRevert
  rw [f1_isBranch_e h hF, hb, bnd, if_neg b2iT, f1_isCommit_e h hF, hc, bnd, if_pos b2iF]
theorem rx_revert_c (h : WF S) (hb : inb x1 (s_b S) = true) (hc : inb x2 (s_c S) = false) : Cd S (t_revert x1 x2 x3) (-1001) := fun τ hg => by
  obtain ⟨τ', a, b, -⟩ := up_revert_1 (tX_revert_c h hg.1 hb hc)
  exact ⟨τ', a, b⟩
theorem tX_revert_r (h : WF S) (hF : RF φ S) (hb : inb x1 (s_b S) = true) (hc : inb x2 (s_c S) = true) (hr : inb x3 4 = false) : f0_tryRevert x1 x2 x3 rs dt row cc lo φ = some (-2, rs, dt, row, cc, lo, φ) := by
  have h5 := h.b5; have hc9 := h.c24; have hc1 := h.c1; have hb1 := h.b1
  unfold f0_tryRevert
  rw [f1_isBranch_e h hF, hb, bnd, if_neg b2iT, f1_isCommit_e h hF, hc, bnd, if_neg b2iT, f8_isRule_e, hr, bnd, if_pos b2iF]
theorem rx_revert_r (h : WF S) (hb : inb x1 (s_b S) = true) (hc : inb x2 (s_c S) = true) (hr : inb x3 4 = false) : Cd S (t_revert x1 x2 x3) (-1002) := fun τ hg => by
  obtain ⟨τ', a, b, -⟩ := up_revert_2 (tX_revert_r h hg.1 hb hc hr)
  exact ⟨τ', a, b⟩
theorem tX_pick_s (h : WF S) (hF : RF φ S) (hj : j < s_b S) (hr : k < 4) : f0_tryPick (nI j) (nI (s_tp S j)) (nI k) rs dt row cc lo φ = some (-3, (nI 4), (nI (s_tp S j)), row, cc, lo, φ) := by
  have h5 := h.b5; have hc9 := h.c24; have hc1 := h.c1; have hb1 := h.b1
  have ht := h.tp hj
  unfold f0_tryPick
  rw [f1_isBranch_e h hF, inb_t hj (by omega), bnd, if_neg b2iT, f1_isCommit_e h hF, inb_t ht (by omega), bnd, if_neg b2iT, f8_isRule_e, inb_t hr (by omega), bnd, if_neg b2iT, f1_tipOf_e h hF hj, bnd, f1_hasInFamily_e h hF ht ht, h.self ht, bnd, if_neg b2iT]
  rfl
theorem rx_pick_s (h : WF S) (hj : j < s_b S) (hr : k < 4) : Cr S (t_pick (nI j) (nI (s_tp S j)) (nI k)) (-1003) (nI 4) (nI (s_tp S j)) := fun τ hg => by
  obtain ⟨τ', a, b, c, d⟩ := up_pick_3 (tX_pick_s h hg.1 hj hr)
  exact ⟨τ', a, b, c, d⟩
theorem tX_revert_s (h : WF S) (hF : RF φ S) (hj : j < s_b S) (hr : k < 4) : f0_tryRevert (nI j) (nI 0) (nI k) rs dt row cc lo φ = some (-3, (nI 6), (nI 0), row, cc, lo, φ) := by
  have h5 := h.b5; have hc9 := h.c24; have hc1 := h.c1; have hb1 := h.b1
  unfold f0_tryRevert
  rw [f1_isBranch_e h hF, inb_t hj (by omega), bnd, if_neg b2iT, f1_isCommit_e h hF, inb_t (show 0 < s_c S by omega) (by omega), bnd, if_neg b2iT, f8_isRule_e, inb_t hr (by omega), bnd, if_neg b2iT, f1_firstOf_e h hF (show 0 < s_c S by omega), bnd, h.1.2.2.2.2.2.1, if_pos (show oI none = -1 from rfl)]
  rfl
theorem rx_revert_s (h : WF S) (hj : j < s_b S) (hr : k < 4) : Cr S (t_revert (nI j) (nI 0) (nI k)) (-1003) (nI 6) (nI 0) := fun τ hg => by
  obtain ⟨τ', a, b, c, d⟩ := up_revert_3 (tX_revert_s h hg.1 hj hr)
  exact ⟨τ', a, b, c, d⟩
theorem rx_bundle_n (hk : inb x1 3 = false) : Cd S (t_bundle x1) (-1001) := fun τ hg => by
  obtain ⟨τ', a, b, -⟩ := up_bundle_2 (tryBundle_no hk)
  exact ⟨τ', a, b⟩
theorem tX_put_p (h : WF S) (hF : RF φ S) (hp : inb x1 4 = false) : f0_tryPut x1 x2 rs dt φ = some (-1, rs, dt, φ) := by
  have h5 := h.b5; have hc9 := h.c24; have hc1 := h.c1; have hb1 := h.b1
  unfold f0_tryPut
  rw [f8_isPlace_e, hp, bnd, if_pos b2iF]
theorem rx_put_p (h : WF S) (hp : inb x1 4 = false) : Cd S (t_put x1 x2) (-1001) := fun τ hg => by
  obtain ⟨τ', a, b, -⟩ := up_put_1 (tX_put_p h hg.1 hp)
  exact ⟨τ', a, b⟩
theorem tX_put_c (h : WF S) (hF : RF φ S) (hp : inb x1 4 = true) (hc : inb x2 (s_c S) = false) : f0_tryPut x1 x2 rs dt φ = some (-1, rs, dt, φ) := by
  have h5 := h.b5; have hc9 := h.c24; have hc1 := h.c1; have hb1 := h.b1
  unfold f0_tryPut
  rw [f8_isPlace_e, hp, bnd, if_neg b2iT, f1_isCommit_e h hF, hc, bnd, if_pos b2iF]
theorem rx_put_c (h : WF S) (hp : inb x1 4 = true) (hc : inb x2 (s_c S) = false) : Cd S (t_put x1 x2) (-1001) := fun τ hg => by
  obtain ⟨τ', a, b, -⟩ := up_put_1 (tX_put_c h hg.1 hp hc)
  exact ⟨τ', a, b⟩
theorem tX_play_b (h : WF S) (hF : RF φ S) (hb : inb x1 (s_b S) = false) : f0_tryPlay x1 x2 rs dt row cc lo φ = some (-1, rs, dt, row, cc, lo, φ) := by
  have h5 := h.b5; have hc9 := h.c24; have hc1 := h.c1; have hb1 := h.b1
  unfold f0_tryPlay
  rw [f1_isBranch_e h hF, hb, bnd, if_pos b2iF]
theorem rx_play_b (h : WF S) (hb : inb x1 (s_b S) = false) : Cd S (t_play x1 x2) (-1001) := fun τ hg => by
  obtain ⟨τ', a, b, -⟩ := up_play_1 (tX_play_b h hg.1 hb)
  exact ⟨τ', a, b⟩
theorem tX_play_r (h : WF S) (hF : RF φ S) (hb : inb x1 (s_b S) = true) (hr : inb x2 4 = false) : f0_tryPlay x1 x2 rs dt row cc lo φ = some (-2, rs, dt, row, cc, lo, φ) := by
  have h5 := h.b5; have hc9 := h.c24; have hc1 := h.c1; have hb1 := h.b1
  unfold f0_tryPlay
  rw [f1_isBranch_e h hF, hb, bnd, if_neg b2iT, f8_isRule_e, hr, bnd, if_pos b2iF]
theorem rx_play_r (h : WF S) (hb : inb x1 (s_b S) = true) (hr : inb x2 4 = false) : Cd S (t_play x1 x2) (-1002) := fun τ hg => by
  obtain ⟨τ', a, b, -⟩ := up_play_2 (tX_play_r h hg.1 hb hr)
  exact ⟨τ', a, b⟩
theorem rx_tip_b (h : WF S) (hb : inb x1 (s_b S) = false) : Cd S (t_tip x1) (-1001) := by
  refine Det.cd fun τ hg => ⟨τ, ?_, rfl⟩
  · have hF := hg.1
    unfold t_tip fL_tip f8_tip
    rw [need_b (x := x1) h hF, hb]
    rfl
theorem rx_tip_v (h : WF S) (hj : j < s_b S) : Cd S (t_tip (nI j)) (nI (s_tp S j)) := by
  refine Det.cd fun τ hg => ⟨τ, ?_, rfl⟩
  · have hF := hg.1
    unfold t_tip fL_tip f8_tip
    rw [need_b h hF, inb_t hj (by have := h.b5; omega), if_pos rfl, bnd, if_pos rfl, f1_tipOf_e h hF hj]
    rfl
theorem rx_amount_c (h : WF S) (hc : inb x1 (s_c S) = false) : Cd S (t_amount x1 x2) (-1001) := by
  refine Det.cd fun τ hg => ⟨τ, ?_, rfl⟩
  · have hF := hg.1
    unfold t_amount fL_amount f8_amount
    rw [need_c (x := x1) h hF, hc]
    rfl
theorem rx_amount_k (h : WF S) (hc : inb x1 (s_c S) = true) (hk : inb x2 6 = false) : Cd S (t_amount x1 x2) (-1001) := by
  refine Det.cd fun τ hg => ⟨τ, ?_, rfl⟩
  · have hF := hg.1
    unfold t_amount fL_amount f8_amount
    rw [need_c (x := x1) h hF, hc, need_i, hk]
    rfl
theorem rx_amount_v (h : WF S) (hi : i < s_c S) (hk : k < 6) : Cd S (t_amount (nI i) (nI k)) (nI (s_am S i k)) := by
  refine Det.cd fun τ hg => ⟨τ, ?_, rfl⟩
  · have hF := hg.1
    unfold t_amount fL_amount f8_amount
    rw [need_c h hF, inb_t hi (by have := h.c24; omega), if_pos rfl, bnd, if_pos rfl, need_i, inb_t hk (by omega), if_pos rfl, bnd, if_pos rfl, f1_amountIn_e h hF hi hk]
    rfl
theorem rx_commitOf_c (h : WF S) (hc : inb x1 (s_c S) = false) : Cd S (t_commitOf x1 x2) (-1001) := by
  refine Det.cd fun τ hg => ⟨τ, ?_, rfl⟩
  · have hF := hg.1
    unfold t_commitOf fL_commitOf f8_commitOf
    rw [need_c (x := x1) h hF, hc]
    rfl
theorem rx_commitOf_w (h : WF S) (hc : inb x1 (s_c S) = true) (hw : x2 = nI 6 ∨ x2 = -1) : Cd S (t_commitOf x1 x2) (-1002) := by
  refine Det.cd fun τ hg => ⟨τ, ?_, rfl⟩
  · have hF := hg.1
    unfold t_commitOf fL_commitOf f8_commitOf
    rw [need_c (x := x1) h hF, hc, if_pos rfl, bnd, if_pos rfl, if_neg (by rcases hw with rfl | rfl <;> decide), if_neg (by rcases hw with rfl | rfl <;> decide), if_neg (by rcases hw with rfl | rfl <;> decide), if_neg (by rcases hw with rfl | rfl <;> decide), if_neg (by rcases hw with rfl | rfl <;> decide), if_neg (by rcases hw with rfl | rfl <;> decide)]
    rfl
theorem rx_conflicts_b (h : WF S) (hb : inb x1 (s_b S) = false) : Cd S (t_conflicts x1 x2) (-1001) := by
  refine Det.cd fun τ hg => ⟨τ, ?_, rfl⟩
  · have hF := hg.1
    unfold t_conflicts fL_conflicts f8_conflicts
    rw [need_b (x := x1) h hF, hb]
    rfl
theorem rx_conflicts_b2 (h : WF S) (hb : inb x1 (s_b S) = true) (hb2 : inb x2 (s_b S) = false) : Cd S (t_conflicts x1 x2) (-1001) := by
  refine Det.cd fun τ hg => ⟨τ, ?_, rfl⟩
  · have hF := hg.1
    unfold t_conflicts fL_conflicts f8_conflicts
    rw [need_b (x := x1) h hF, hb, need_b (x := x2) h hF, hb2]
    rfl
theorem rx_in_c (h : WF S) (hc : inb x1 (s_c S) = false) : Cd S (t_in x1 x2) (-1001) := by
  refine Det.cd fun τ hg => ⟨τ, ?_, rfl⟩
  · have hF := hg.1
    unfold t_in fL_in f8_isIn
    rw [need_c (x := x1) h hF, hc]
    rfl
theorem rx_in_c2 (h : WF S) (hc : inb x1 (s_c S) = true) (hc2 : inb x2 (s_c S) = false) : Cd S (t_in x1 x2) (-1001) := by
  refine Det.cd fun τ hg => ⟨τ, ?_, rfl⟩
  · have hF := hg.1
    unfold t_in fL_in f8_isIn
    rw [need_c (x := x1) h hF, hc, need_c (x := x2) h hF, hc2]
    rfl
theorem rx_base_c (h : WF S) (hc : inb x1 (s_c S) = false) : Cd S (t_base x1 x2) (-1001) := by
  refine Det.cd fun τ hg => ⟨τ, ?_, rfl⟩
  · have hF := hg.1
    unfold t_base fL_base f8_base
    rw [need_c (x := x1) h hF, hc]
    rfl
theorem rx_base_c2 (h : WF S) (hc : inb x1 (s_c S) = true) (hc2 : inb x2 (s_c S) = false) : Cd S (t_base x1 x2) (-1001) := by
  refine Det.cd fun τ hg => ⟨τ, ?_, rfl⟩
  · have hF := hg.1
    unfold t_base fL_base f8_base
    rw [need_c (x := x1) h hF, hc, need_c (x := x2) h hF, hc2]
    rfl
theorem rx_baseAgain_c (h : WF S) (hc : inb x1 (s_c S) = false) : Cd S (t_baseAgain x1 x2) (-1001) := by
  refine Det.cd fun τ hg => ⟨τ, ?_, rfl⟩
  · have hF := hg.1
    unfold t_baseAgain fL_baseAgain f8_baseAgain
    rw [need_c (x := x1) h hF, hc]
    rfl
theorem rx_baseAgain_c2 (h : WF S) (hc : inb x1 (s_c S) = true) (hc2 : inb x2 (s_c S) = false) : Cd S (t_baseAgain x1 x2) (-1001) := by
  refine Det.cd fun τ hg => ⟨τ, ?_, rfl⟩
  · have hF := hg.1
    unfold t_baseAgain fL_baseAgain f8_baseAgain
    rw [need_c (x := x1) h hF, hc, need_c (x := x2) h hF, hc2]
    rfl
theorem rx_difference_c (h : WF S) (hc : inb x1 (s_c S) = false) : Cd S (t_difference x1 x2) (-1001) := by
  refine Det.cd fun τ hg => ⟨τ, ?_, rfl⟩
  · have hF := hg.1
    unfold t_difference fL_difference f8_difference
    rw [need_c (x := x1) h hF, hc]
    rfl
theorem rx_difference_c2 (h : WF S) (hc : inb x1 (s_c S) = true) (hc2 : inb x2 (s_c S) = false) : Cd S (t_difference x1 x2) (-1001) := by
  refine Det.cd fun τ hg => ⟨τ, ?_, rfl⟩
  · have hF := hg.1
    unfold t_difference fL_difference f8_difference
    rw [need_c (x := x1) h hF, hc, need_c (x := x2) h hF, hc2]
    rfl
theorem rx_onLine_b (h : WF S) (hb : inb x1 (s_b S) = false) : Cd S (t_onLine x1 x2) (-1001) := by
  refine Det.cd fun τ hg => ⟨τ, ?_, rfl⟩
  · have hF := hg.1
    unfold t_onLine fL_onLine f8_onLine
    rw [need_b (x := x1) h hF, hb]
    rfl
theorem rx_halve_b (h : WF S) (hb : inb x1 (s_b S) = false) : Cd S (t_halve x1 x2 x3 x4) (-1001) := by
  refine Det.cd fun τ hg => ⟨τ, ?_, rfl⟩
  · have hF := hg.1
    unfold t_halve fL_halve f8_halve
    rw [need_b (x := x1) h hF, hb]
    rfl
theorem rx_halve_k (h : WF S) (hb : inb x1 (s_b S) = true) (hk : inb x2 6 = false) : Cd S (t_halve x1 x2 x3 x4) (-1001) := by
  refine Det.cd fun τ hg => ⟨τ, ?_, rfl⟩
  · have hF := hg.1
    unfold t_halve fL_halve f8_halve
    rw [need_b (x := x1) h hF, hb, need_i, hk]
    rfl
theorem rx_halve_a (h : WF S) (hb : inb x1 (s_b S) = true) (hk : inb x2 6 = true) (ha : inb x3 100 = false) : Cd S (t_halve x1 x2 x3 x4) (-1002) := by
  refine Det.cd fun τ hg => ⟨τ, ?_, rfl⟩
  · have hF := hg.1
    unfold t_halve fL_halve f8_halve
    rw [need_b (x := x1) h hF, hb, need_i, hk, need_a, ha]
    rfl
theorem rx_halve_n (h : WF S) (hj : j < s_b S) (hk : k < 6) : Cd S (t_halve (nI j) (nI k) (nI 99) x4) (-1003) := by
  refine Det.cd fun τ hg => ⟨τ, ?_, rfl⟩
  · have hF := hg.1
    unfold t_halve fL_halve f8_halve
    rw [need_b h hF, inb_t hj (by have := h.b5; omega), if_pos rfl, bnd, if_pos rfl, need_i, inb_t hk (by omega), if_pos rfl, bnd, if_pos rfl, need_a, inb_t (show 99 < 100 by omega) (by omega), if_pos rfl, bnd, if_pos rfl, f1_tipOf_e h hF hj, bnd, f1_amountIn_e h hF (h.tp hj) hk, bnd, if_neg (by have := h.am (h.tp hj) hk; rw [nJ_lt (by omega) (by omega)]; omega)]
    rfl
theorem rx_firstBad_b (h : WF S) (hb : inb x1 (s_b S) = false) : Cd S (t_firstBad x1 x2 x3) (-1001) := by
  refine Det.cd fun τ hg => ⟨τ, ?_, rfl⟩
  · have hF := hg.1
    unfold t_firstBad fL_firstBad f8_firstBad
    rw [need_b (x := x1) h hF, hb]
    rfl
theorem rx_firstBad_a (h : WF S) (hb : inb x1 (s_b S) = true) (hk : inb x2 6 = true) (ha : inb x3 100 = false) : Cd S (t_firstBad x1 x2 x3) (-1002) := by
  refine Det.cd fun τ hg => ⟨τ, ?_, rfl⟩
  · have hF := hg.1
    unfold t_firstBad fL_firstBad f8_firstBad
    rw [need_b (x := x1) h hF, hb, need_i, hk, need_a, ha]
    rfl
theorem rx_blame_b (h : WF S) (hb : inb x1 (s_b S) = false) : Cd S (t_blame x1 x2) (-1001) := by
  refine Det.cd fun τ hg => ⟨τ, ?_, rfl⟩
  · have hF := hg.1
    unfold t_blame fL_blame f8_blame
    rw [need_b (x := x1) h hF, hb]
    rfl
theorem rx_blame_k (h : WF S) (hb : inb x1 (s_b S) = true) (hk : inb x2 6 = false) : Cd S (t_blame x1 x2) (-1001) := by
  refine Det.cd fun τ hg => ⟨τ, ?_, rfl⟩
  · have hF := hg.1
    unfold t_blame fL_blame f8_blame
    rw [need_b (x := x1) h hF, hb, need_i, hk]
    rfl
theorem rx_taste_c (h : WF S) (hc : inb x1 (s_c S) = false) : Cd S (t_taste x1) ((3296346112 : UInt32)) := by
  refine Det.cd fun τ hg => ⟨τ, ?_, rfl⟩
  · have hF := hg.1
    unfold t_taste fL_taste f8_taste
    rw [need_c (x := x1) h hF, hc]
    rfl
theorem rx_tasteBits_c (h : WF S) (hc : inb x1 (s_c S) = false) : Cd S (t_tasteBits x1) (-1001) := by
  refine Det.cd fun τ hg => ⟨τ, ?_, rfl⟩
  · have hF := hg.1
    unfold t_tasteBits fL_tasteBits f8_tasteBits
    rw [need_c (x := x1) h hF, hc]
    rfl
theorem rx_tastiest_b (h : WF S) (hb : inb x1 (s_b S) = false) : Cd S (t_tastiest x1) (-1001) := by
  refine Det.cd fun τ hg => ⟨τ, ?_, rfl⟩
  · have hF := hg.1
    unfold t_tastiest fL_tastiest f8_tastiest
    rw [need_b (x := x1) h hF, hb]
    rfl
theorem rx_inBundle_p (h : WF S) (hp : inb x1 4 = false) : Cd S (t_inBundle x1) (-1001) := by
  refine Det.cd fun τ hg => ⟨τ, ?_, rfl⟩
  · have hF := hg.1
    unfold t_inBundle fL_inBundle f8_inBundle
    rw [f8_isPlace_e, hp, bnd, if_pos b2iF]
    rfl
theorem rx_line_c (h : WF S) (hc : inb x1 (s_c S) = false) : Cd S (t_line x1) (-1001) := by
  refine Det.cd fun τ hg => ⟨τ, ?_, rfl⟩
  · have hF := hg.1
    unfold t_line fL_line f8_line
    rw [need_c (x := x1) h hF, hc]
    rfl
theorem rx_character_n (hx : x1 < 0 ∨ nI 24 ≤ x1) : Cd S (t_character x1) (-1001) := by
  refine Det.cd fun τ hg => ⟨τ, ?_, rfl⟩
  unfold t_character fL_character f8_character f4_has
  by_cases a : x1 < 0
  · rw [if_pos a, bnd, if_pos b2iF]
    rfl
  · rw [if_neg a]
    by_cases b : t_lin_length τ ≤ x1
    · rw [if_pos b, bnd, if_pos b2iF]
      rfl
    · rw [if_neg b, if_pos (hx.resolve_left a), bnd, if_pos b2iF]
      rfl
theorem rx_account_n (hw : x1 = nI 11 ∨ x1 = -1) : Cd S (t_account x1) (-1001) := by
  refine Det.cd fun τ hg => ⟨τ, ?_, rfl⟩
  unfold t_account fL_account f8_account
  rcases hw with rfl | rfl
  · rw [if_neg (by decide), if_neg (by decide), if_neg (by decide), if_neg (by decide), if_neg (by decide), if_neg (by decide), if_neg (by decide), if_neg (by decide), if_neg (by decide), if_neg (by decide), if_neg (by decide)]
    rfl
  · rw [if_neg (by decide), if_neg (by decide), if_neg (by decide), if_neg (by decide), if_neg (by decide), if_neg (by decide), if_neg (by decide), if_neg (by decide), if_neg (by decide), if_neg (by decide), if_neg (by decide)]
    rfl
theorem rx_onLine_p (h : WF S) (hj : j < s_b S) (hx : x2 = -1 ∨ x2 = nI 24) : Cd S (t_onLine (nI j) x2) (-1002) := by
  have h5 := h.b5; have hc := h.c24; have ht := h.tp hj
  refine Det.cd fun τ hg => ?_
  have hF := hg.1
  obtain ⟨L, hL2, hL⟩ := len_ex h _ ht
  have hno : inb x2 (L + 1) = false := by
    rcases hx with rfl | rfl
    · exact inb_lo (by decide)
    · exact inb_hi (m := 24) (by omega) (Int32.le_refl _) (by omega)
  obtain ⟨cm', q1, q2⟩ := f7_follow_e (cm := t_walk_commits τ) (len := t_walk_length τ) h hF ht hL hL2
  apply Exists.intro
  refine ⟨?_, ?_⟩
  · unfold t_onLine fL_onLine f8_onLine
    rw [need_b h hF, inb_t hj (by omega), if_pos rfl, bnd, if_pos rfl, f1_tipOf_e h hF hj, bnd, q1, bnd]
    dsimp only
    rw [f7_at_no (by omega) hno, bnd, if_pos rfl]
    rfl
  · rfl
theorem far_none {cm : AI} {L : Nat} (h : WF S) (hF : RF φ S) (hj : j < s_b S) (hL2 : L ≤ s_tp S j) (hcm : ∀ q, q ≤ L → cm q = nI (lin S (s_tp S j) q)) (hk : k < 6) : ∀ (p n : Nat), p ≤ L + 1 → p < n → f7_farthestBad_L8 (nI k) (nI 99) cm (nI (L + 1)) φ n (nI p - nI 1) = some (-1) := by
  have hc := h.c24; have ht := h.tp hj
  intro p
  induction p with
  | zero =>
    intro n h1 h2
    obtain ⟨n, rfl⟩ : ∃ n', n = n' + 1 := ⟨n - 1, by omega⟩
    rw [f7_farthestBad_L8, if_pos (show nI 0 - nI 1 < 0 by decide)]
  | succ p ih =>
    intro n h1 h2
    obtain ⟨n, rfl⟩ : ∃ n', n = n' + 1 := ⟨n - 1, by omega⟩
    have e0 : nI (p + 1) - nI 1 = nI p := by rw [nJ_sub (by omega) (by omega)]; rfl
    have e1 : nI p + (-1) = nI p - nI 1 := (Int32.sub_eq_add_neg (nI p) (nI 1)).symm
    have hlt := lin_lt h ht p
    have ham := h.am hlt hk
    rw [e0, f7_farthestBad_L8, if_neg (by rw [nJ_lt0 (by omega)]; exact fun q => q), f7_at_e hcm (by omega) (by omega), bnd, f1_amountIn_e h hF hlt hk, bnd, e1, if_pos (by rw [nJ_le (by omega) (by omega)]; omega)]
    exact ih n (by omega) (by omega)
theorem rx_firstBad_n (h : WF S) (hj : j < s_b S) (hk : k < 6) : Cd S (t_firstBad (nI j) (nI k) (nI 99)) (-1003) := by
  have h5 := h.b5; have hc := h.c24; have ht := h.tp hj
  refine Det.cd fun τ hg => ?_
  have hF := hg.1
  obtain ⟨L, hL2, hL⟩ := len_ex h _ ht
  obtain ⟨cm', q1, q2⟩ := f7_follow_e (cm := t_walk_commits τ) (len := t_walk_length τ) h hF ht hL hL2
  have q3 : f7_farthestBad (nI k) (nI 99) cm' (nI (L + 1)) (t_forest_f τ) = some (-1) := by
    unfold f7_farthestBad
    exact far_none h hF hj hL2 q2 hk (L + 1) fuel (by omega) (by unfold fuel; omega)
  apply Exists.intro
  refine ⟨?_, ?_⟩
  · unfold t_firstBad fL_firstBad f8_firstBad
    rw [need_b h hF, inb_t hj (by omega), if_pos rfl, bnd, if_pos rfl, need_i, inb_t hk (by omega), if_pos rfl, bnd, if_pos rfl, need_a, inb_t (show 99 < 100 by omega) (by omega), if_pos rfl, bnd, if_pos rfl, f1_tipOf_e h hF hj, bnd, q1, bnd]
    dsimp only
    rw [q3, bnd, if_pos rfl]
    rfl
  · rfl
theorem fc_self {v : UInt32} (h : FP.Core.val32 v ≠ FP.Core.Datum.nan) : Op.cmpValue (FP.fcmp v v) ClassFile.CmpOp.l = 0 := by
  rw [show FP.fcmp v v = some .eq from FP.Core.fcmp_self h]; rfl
theorem fc_1001 : Op.cmpValue (FP.fcmp (3296346112 : UInt32) (3296346112 : UInt32)) ClassFile.CmpOp.l = 0 := fc_self ((FP.Core.ne_nan32 _).mpr (by decide))
end RX
