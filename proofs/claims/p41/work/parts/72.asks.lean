/-! asks: its sum depends on the forest in numbers alone -/
section DA
variable {S : SS} {α β : Type}
def Dx (S : SS) (f : TO → Option (β × TO)) : Prop := ∃ b, Det S f b
theorem Det.bind {q : TO → Option (α × TO)} {a : α} {k : α × TO → Option (β × TO)} {b : β} (hq : Det S q a) (hk : Det S (fun τ => k (a, τ)) b) : Det S (fun τ => (q τ).bind k) b := by
  intro τ hF
  obtain ⟨τ1, e1, e2⟩ := hq τ hF
  obtain ⟨τ2, e3, e4⟩ := hk τ1 (co_g e2 hF)
  exact ⟨τ2, by dsimp only; rw [e1, bnd]; exact e3, e4.trans e2⟩
theorem Dx.bind {q : TO → Option (α × TO)} {k : α × TO → Option (β × TO)} (hq : Dx S q) (hk : ∀ a, Dx S (fun τ => k (a, τ))) : Dx S (fun τ => (q τ).bind k) := by
  obtain ⟨a, ha⟩ := hq
  obtain ⟨b, hb⟩ := hk a
  exact ⟨b, ha.bind hb⟩
theorem Dx.bindE {q : TO → Option (α × TO)} {a : α} {k : α × TO → Option (β × TO)} (hq : Det S q a) (hk : Dx S (fun τ => k (a, τ))) : Dx S (fun τ => (q τ).bind k) := by
  obtain ⟨b, hb⟩ := hk
  exact ⟨b, hq.bind hb⟩
theorem Dx.pure {q : Option α} {k : α → TO → Option (β × TO)} {a : α} (hq : q = some a) (hk : Dx S (k a)) : Dx S (fun τ => q.bind fun r => k r τ) := by
  obtain ⟨b, hb⟩ := hk
  refine ⟨b, fun τ hF => ?_⟩
  try dsimp only
  rw [hq, bnd]
  exact hb τ hF
theorem Dx.fn {q : TO → Option α} {k : α → TO → Option (β × TO)} {a : α} (hq : ∀ τ, RF (t_forest_f τ) S → q τ = some a) (hk : Dx S (k a)) : Dx S (fun τ => (q τ).bind fun r => k r τ) := by
  obtain ⟨b, hb⟩ := hk
  refine ⟨b, fun τ hF => ?_⟩
  try dsimp only
  rw [hq τ hF.1, bnd]
  exact hb τ hF
theorem Dx.pos {c : Prop} {inst : TO → Decidable c} {f g : TO → Option (β × TO)} (hc : c) (h : Dx S f) : Dx S (fun τ => @ite _ c (inst τ) (f τ) (g τ)) := by
  obtain ⟨b, hb⟩ := h
  exact ⟨b, fun τ hF => by dsimp only; rw [if_pos hc]; exact hb τ hF⟩
theorem Dx.neg {c : Prop} {inst : TO → Decidable c} {f g : TO → Option (β × TO)} (hc : ¬ c) (h : Dx S g) : Dx S (fun τ => @ite _ c (inst τ) (f τ) (g τ)) := by
  obtain ⟨b, hb⟩ := h
  exact ⟨b, fun τ hF => by dsimp only; rw [if_neg hc]; exact hb τ hF⟩
end DA
section DT
variable {S : SS} {i l : Nat}
theorem dt_tip (h : WF S) (x : Int32) : Dx S (t_tip x) := by
  obtain ⟨a, ha⟩ := dq_tip h x
  exact ⟨a, fun τ hF => ⟨τ, by unfold t_tip; rw [ha _ hF.1, bnd], rfl⟩⟩
theorem dt_amount (h : WF S) (x : Int32) (y : Int32) : Dx S (t_amount x y) := by
  obtain ⟨a, ha⟩ := dq_amount h x y
  exact ⟨a, fun τ hF => ⟨τ, by unfold t_amount; rw [ha _ hF.1, bnd], rfl⟩⟩
theorem dt_commitOf (h : WF S) (x : Int32) (y : Int32) : Dx S (t_commitOf x y) := by
  obtain ⟨a, ha⟩ := dq_commitOf h x y
  exact ⟨a, fun τ hF => ⟨τ, by unfold t_commitOf; rw [ha _ hF.1, bnd], rfl⟩⟩
theorem dt_base (h : WF S) (x : Int32) (y : Int32) : Dx S (t_base x y) := by
  obtain ⟨a, ha⟩ := dq_base h x y
  exact ⟨a, fun τ hF => ⟨τ, by unfold t_base; rw [ha _ hF.1, bnd], rfl⟩⟩
theorem dt_baseAgain (h : WF S) (x : Int32) (y : Int32) : Dx S (t_baseAgain x y) := by
  obtain ⟨a, ha⟩ := dq_baseAgain h x y
  exact ⟨a, fun τ hF => ⟨τ, by unfold t_baseAgain; rw [ha _ hF.1, bnd], rfl⟩⟩
theorem dt_difference (h : WF S) (x : Int32) (y : Int32) : Dx S (t_difference x y) := by
  obtain ⟨a, ha⟩ := dq_difference h x y
  exact ⟨a, fun τ hF => ⟨τ, by unfold t_difference; rw [ha _ hF.1, bnd], rfl⟩⟩
theorem dt_tasteBits (h : WF S) (x : Int32) : Dx S (t_tasteBits x) := by
  obtain ⟨a, ha⟩ := dq_tasteBits h x
  exact ⟨a, fun τ hF => ⟨τ, by unfold t_tasteBits; rw [ha _ hF.1, bnd], rfl⟩⟩
theorem dt_inBundle (h : WF S) (x : Int32) : Dx S (t_inBundle x) := by
  obtain ⟨a, ha⟩ := dq_inBundle h x
  exact ⟨a, fun τ hF => ⟨τ, by unfold t_inBundle; rw [ha _ hF.1, bnd], rfl⟩⟩
theorem dt_in (h : WF S) (x : Int32) (y : Int32) : Dx S (t_in x y) := by
  obtain ⟨a, ha⟩ := dq_in h x y
  exact ⟨a, fun τ hF => ⟨τ, by unfold t_in; rw [ha _ hF.1, bnd], rfl⟩⟩
theorem dt_taste (h : WF S) (x : Int32) : Dx S (t_taste x) := by
  obtain ⟨a, ha⟩ := dq_taste h x
  exact ⟨a, fun τ hF => ⟨τ, by unfold t_taste; rw [ha _ hF.1, bnd], rfl⟩⟩
theorem dt_conflicts (h : WF S) (x : Int32) (y : Int32) : Dx S (t_conflicts x y) := by
  obtain ⟨a, ha⟩ := dq_conflicts h x y
  refine ⟨a, fun τ hF => ?_⟩
  obtain ⟨z0, z1, z2, e⟩ := ha (t_forest_f τ) (t_mix_row τ) (t_mix_conflictCount τ) (t_mix_lowest τ) hF.1
  apply Exists.intro
  refine ⟨?_, ?_⟩
  · unfold t_conflicts
    rw [e, bnd]
    try rfl
  · rfl
theorem dt_onLine (h : WF S) (x : Int32) (y : Int32) : Dx S (t_onLine x y) := by
  obtain ⟨a, ha⟩ := dq_onLine h x y
  refine ⟨a, fun τ hF => ?_⟩
  obtain ⟨z0, z1, e⟩ := ha (t_forest_f τ) (t_walk_commits τ) (t_walk_length τ) hF.1
  apply Exists.intro
  refine ⟨?_, ?_⟩
  · unfold t_onLine
    rw [e, bnd]
    try rfl
  · rfl
theorem dt_halve (h : WF S) (x : Int32) (y : Int32) (z : Int32) (w : Int32) : Dx S (t_halve x y z w) := by
  obtain ⟨a, ha⟩ := dq_halve h x y z w
  refine ⟨a, fun τ hF => ?_⟩
  obtain ⟨z0, z1, z2, e⟩ := ha (t_forest_f τ) (t_walk_commits τ) (t_walk_length τ) (t_walk_looks τ) hF.1
  apply Exists.intro
  refine ⟨?_, ?_⟩
  · unfold t_halve
    rw [e, bnd]
    try rfl
  · rfl
theorem dt_firstBad (h : WF S) (x : Int32) (y : Int32) (z : Int32) : Dx S (t_firstBad x y z) := by
  obtain ⟨a, ha⟩ := dq_firstBad h x y z
  refine ⟨a, fun τ hF => ?_⟩
  obtain ⟨z0, z1, e⟩ := ha (t_forest_f τ) (t_walk_commits τ) (t_walk_length τ) hF.1
  apply Exists.intro
  refine ⟨?_, ?_⟩
  · unfold t_firstBad
    rw [e, bnd]
    try rfl
  · rfl
theorem dt_blame (h : WF S) (x : Int32) (y : Int32) : Dx S (t_blame x y) := by
  obtain ⟨a, ha⟩ := dq_blame h x y
  refine ⟨a, fun τ hF => ?_⟩
  obtain ⟨z0, z1, e⟩ := ha (t_forest_f τ) (t_walk_commits τ) (t_walk_length τ) hF.1
  apply Exists.intro
  refine ⟨?_, ?_⟩
  · unfold t_blame
    rw [e, bnd]
    try rfl
  · rfl
theorem dt_tastiest (h : WF S) (x : Int32) : Dx S (t_tastiest x) := by
  obtain ⟨a, ha⟩ := dq_tastiest h x
  refine ⟨a, fun τ hF => ?_⟩
  obtain ⟨z0, z1, e⟩ := ha (t_forest_f τ) (t_walk_commits τ) (t_walk_length τ) hF.1
  apply Exists.intro
  refine ⟨?_, ?_⟩
  · unfold t_tastiest
    rw [e, bnd]
    try rfl
  · rfl
theorem acc92 {x un ln : Int32} {N : AI} : ∀ (n : Nat) (a b t : Int32), f9_account_L92 x N un ln n a b t = f9_account_L92 x N 0 0 n a b t := by
  intro n
  induction n with
  | zero => intro a b t; rfl
  | succ n ih => intro a b t; simp only [f9_account_L92, ih]
theorem acc159 {x un ln : Int32} {N : AI} {K : Int32 → Int32 → Int32 → Option (Int32 × Int32)} : ∀ (n : Nat) (a b c t : Int32), f9_account_L159 K x N un ln n a b c t = f9_account_L159 K x N 0 0 n a b c t := by
  intro n
  induction n with
  | zero => intro a b c t; rfl
  | succ n ih => intro a b c t; simp only [f9_account_L159, ih]
theorem acc146 {x un ln : Int32} {N : AI} : ∀ (n : Nat) (a b t : Int32), f9_account_L146 x N un ln n a b t = f9_account_L146 x N 0 0 n a b t := by
  intro n
  induction n with
  | zero => intro a b t; rfl
  | succ n ih =>
    intro a b t
    rw [f9_account_L146, f9_account_L146, acc159, show f9_account_L146 x N un ln n = f9_account_L146 x N 0 0 n from funext fun a => funext fun b => funext fun c => ih a b c]
theorem acc_un {k : Nat} {N : AI} {un ln th : Int32} (hk : k < 9) : f9_account (nI k) N un ln th = f9_account (nI k) N 0 0 th := by
  unfold f9_account
  rcases (show k = 0 ∨ k = 1 ∨ k = 2 ∨ k = 3 ∨ k = 4 ∨ k = 5 ∨ k = 6 ∨ k = 7 ∨ k = 8 by omega) with rfl | rfl | rfl | rfl | rfl | rfl | rfl | rfl | rfl <;> simp only [nJ_eq, Nat.reducePow, Nat.reduceLT, Nat.reduceEqDiff, reduceIte]
  · exact acc92 _ _ _ _
  · exact acc146 _ _ _ _
theorem dt_account (h : WF S) {k : Nat} (hk : k < 9) : Dx S (t_account (nI k)) := by
  obtain ⟨j, v9, hj⟩ := det0 (α := Fo × Int32 × Int32) (Ok := fun a => RF a.1 S) (P := fun a => f8_account (nI k) a.1 a.2.1 a.2.2) (R := f9_account (nI k) (NS S) 0 0 (nI 0)) (c := cU) (m := 2) (fun a hF => by
    obtain ⟨k1, v, th, v9, q1, q2, q3⟩ := acc_q (x := nI k) (un := a.2.1) (ln := a.2.2) (th := nI 0) h hF (NS_rn h)
    rw [acc_un hk] at q2
    exact ⟨k1, v, th, v9, q1, q2, QU_Z q3⟩)
  refine ⟨if j = 0 then v9 else (-1001), fun τ hF => ⟨τ, ?_, rfl⟩⟩
  obtain ⟨h1, v, e1, e2⟩ := hj (t_forest_f τ, t_hist_count τ, t_inp_length τ) hF.1
  have e1 : f8_account (nI k) (t_forest_f τ) (t_hist_count τ) (t_inp_length τ) = some (cU j, v) := e1
  unfold t_account fL_account
  rw [e1, bnd]
  rcases (show j = 0 ∨ j = 1 by omega) with rfl | rfl
  · rw [e2 rfl]; rfl
  · rfl
theorem dt_acc0 (h : WF S) : Det S (t_account (nI 0)) (nI (s_c S)) := fun τ hF => ⟨τ, by
  unfold t_account fL_account f8_account
  rw [if_pos rfl, show f1_commitCount (t_forest_f τ) = some (nI (s_c S)) from congrArg some hF.1.1.1]
  rfl, rfl⟩
theorem dt_acc1 (h : WF S) : Det S (t_account (nI 1)) (nI (s_b S)) := fun τ hF => ⟨τ, by
  unfold t_account fL_account f8_account
  rw [if_neg (by decide), if_pos rfl, show f1_branchCount (t_forest_f τ) = some (nI (s_b S)) from congrArg some hF.1.1.2.1]
  rfl, rfl⟩
/-! a line and its characters -/
theorem line_c (h : WF S) (hi : i < s_c S) {φ : Fo} (hF : RF φ S) (p : AI) (l0 : Int32) : ∃ l' p' q', l' ≤ 23 ∧ f8_line (nI i) φ p l0 = some (0, nI l', p', nI l') ∧ f9_line (nI i) (NS S) (fun _ => 0) 0 (nI 0) = some (nI l', q', nI l', nI 0) ∧ ∀ t, t < l' → ch (p' t) = ch (q' t) := by
  have hN := NS_rn h
  have hc := h.c24
  unfold f8_line f9_line
  rw [need_c h hF, f9_isCommit_e h hN, bnd, bnd, inb_t hi (by omega)]
  obtain ⟨n1, p1, q1, w1, w2, w3, w4⟩ := num_2 (n := 0) (p := p) (q := fun _ => 0) (fun i hi => absurd hi (by omega)) (show i ≤ 99 by omega) (by omega)
  obtain ⟨y, y1, y2, y3⟩ := letter_2 (h.kd hi)
  have r1 := LR_up w3 (show ch (ch (nI 32)) = ch (nI 32) by decide +kernel)
  have r2 := LR_up r1 y3
  have r3 := LR_up r2 (show ch (ch (nI 58)) = ch (nI 58) by decide +kernel)
  obtain ⟨l', p2, q2, v1, v2, v3, v4⟩ := line_L (th := nI 0) h hF hN hi 6 0 fuel fuel _ _ _ (by omega) (by unfold fuel; omega) (by unfold fuel; omega) r3 (by omega)
  rw [if_pos (show (if true = true then 0 else 1) = 0 from rfl), if_neg b2iT]
  unfold f4_write
  rw [w1, bnd]
  try dsimp only
  rw [f4_addSign_e (by omega), bnd]
  try dsimp only
  rw [f1_kindOf_e h hF hi, bnd, y1, bnd, f4_addSign_e (by omega), bnd]
  try dsimp only
  rw [f4_addSign_e (by omega), bnd]
  try dsimp only
  rw [v1, bnd, w2, bnd]
  try dsimp only
  rw [lt_eq, inb_t (by omega) (by omega), if_pos rfl, lt_eq, lt_eq, f9_kd_e h hN hi, bnd, if_pos (show 6 < 7 by decide), y2, if_pos rfl, nI_add n1 1, inb_t (by omega) (by omega), if_pos rfl, lt_eq, lt_eq, nI_add (n1 + 1) 1, inb_t (by omega) (by omega), if_pos rfl, lt_eq, nI_add (n1 + 1 + 1) 1, nJ_nat (show n1 < 2 ^ 31 by omega), nJ_nat (show n1 + 1 < 2 ^ 31 by omega), nJ_nat (show n1 + 1 + 1 < 2 ^ 31 by omega), v2]
  exact ⟨l', p2, q2, v4, rfl, rfl, v3⟩
theorem dt_line (h : WF S) (hi : i < s_c S) : ∃ (l' : Nat) (q' : AI), l' ≤ 23 ∧ ∀ τ, RG τ S → ∃ τ', t_line (nI i) τ = some (nI l', τ') ∧ co τ' = co τ ∧ t_lin_length τ' = nI l' ∧ ∀ t, t < l' → ch (t_lin_signs τ' t) = ch (q' t) := by
  by_cases hne : ∃ φ, RF φ S
  · obtain ⟨φ0, h0⟩ := hne
    obtain ⟨l', p', q', a1, -, a3, -⟩ := line_c h hi h0 (fun _ => 0) 0
    refine ⟨l', q', a1, fun τ hF => ?_⟩
    obtain ⟨l2, p2, q2, b1, b2, b3, b4⟩ := line_c h hi hF.1 (t_lin_signs τ) (t_lin_length τ)
    rw [a3] at b3
    have e := Option.some.inj b3
    have e1 : nI l' = nI l2 := congrArg (fun z => z.1) e
    have e2 : q' = q2 := congrArg (fun z => z.2.1) e
    have e3 := (nI_eq (by omega) (by omega)).mp e1
    subst e3
    subst e2
    apply Exists.intro
    refine ⟨?_, ?_, ?_, ?_⟩
    · unfold t_line fL_line
      rw [b2, bnd]
      rfl
    · exact congrArg (fun z => (t_top_isSaved τ, t_forest_f τ, t_saved_f τ, t_hist_rows τ, t_hist_next τ, t_hist_count τ, t_inp_length τ, t_desk_reason τ, t_desk_detail τ, z)) (show (∃ l, l ≤ 24 ∧ nI l' = nI l) = LN τ from propext ⟨fun _ => hF.2, fun _ => ⟨l', by omega, rfl⟩⟩)
    · rfl
    · exact b4
  · exact ⟨0, fun _ => 0, by omega, fun τ hF => absurd ⟨_, hF.1⟩ hne⟩
theorem dt_char {q : AI} (hl : l ≤ 24) (x : Int32) : ∃ a, ∀ p, (∀ t, t < l → ch (p t) = ch (q t)) → fL_character x p (nI l) = some a := by
  obtain ⟨j, v9, hj⟩ := det0 (α := AI) (Ok := fun p => ∀ t, t < l → ch (p t) = ch (q t)) (P := fun p => (f8_character x p (nI l)).map (fun r => (r.1, ch r.2))) (R := (f9_character x q (nI l) (nI 0)).map (fun r => (ch r.1, r.2))) (c := cI) (m := 2) (fun p hp => by
    obtain ⟨k, v, th, v9, q1, q2, q3⟩ := char_q (x := x) (th := nI 0) (p := p) (q := q) (l := nI l) (m := nI l) ⟨l, hl, rfl, rfl, hp⟩
    refine ⟨k, ch v, th, ch v9, by rw [q1]; rfl, by rw [q2]; rfl, QA_Z q3⟩)
  refine ⟨if j = 0 then v9 else (-1001), fun p hp => ?_⟩
  obtain ⟨h1, v, e1, e2⟩ := hj p hp
  have e1 : (f8_character x p (nI l)).map (fun r => (r.1, ch r.2)) = some (cI j, v) := e1
  obtain ⟨k, w, th, w9, q1, q2, q3⟩ := char_q (x := x) (th := nI 0) (p := p) (q := q) (l := nI l) (m := nI l) ⟨l, hl, rfl, rfl, hp⟩
  rw [q1] at e1
  have e3 := Option.some.inj e1
  have g1 : k = j := congrArg Prod.fst e3
  have g2 : ch w = v := congrArg Prod.snd e3
  subst g1
  unfold fL_character
  rw [q1, bnd]
  try dsimp only
  rcases (show k = 0 ∨ k = 1 by omega) with rfl | rfl
  · rw [if_pos rfl, if_pos rfl, g2, e2 rfl]
  · rfl
/-! three numbers of the whole forest -/
theorem dt_mean (h : WF S) : ∃ v, ∀ φ, RF φ S → f8_meanTaste φ = some v := by
  have h5 := h.b5; have hb1 := h.b1
  by_cases hne : ∃ φ, RF φ S
  · obtain ⟨φ0, h0⟩ := hne
    have key : ∀ φ, RF φ S → ∃ v, f8_meanTaste φ = some v ∧ f9_meanTaste (NS S) (nI 0) = some (v, nI 0) := by
      intro φ hF
      obtain ⟨v, q1, q2, q3⟩ := mean_L (th := nI 0) h hF (NS_rn h) (s_b S) 0 fuel fuel FP.dconst0 (by omega) (by unfold fuel; omega) (by unfold fuel; omega) ⟨by rw [show FP.Core.val64 FP.dconst0 = _ from FP.Core.val64_dconst0]; exact FP.Core.Datum.noConfusion, by rw [show FP.Core.val64 FP.dconst0 = _ from FP.Core.val64_dconst0]; rfl⟩
      refine ⟨v, ?_, q2⟩
      unfold f8_meanTaste
      rw [show f1_branchCount φ = some (nI (s_b S)) from congrArg some hF.1.2.1, bnd, if_pos (by rw [nJ_le (by omega) (by omega)]; exact hb1)]
      exact q1
    obtain ⟨v, -, e⟩ := key φ0 h0
    refine ⟨v, fun φ hF => ?_⟩
    obtain ⟨w, e1, e2⟩ := key φ hF
    rw [e] at e2
    have e3 : v = w := congrArg Prod.fst (Option.some.inj e2)
    rw [e1, e3]
  · exact ⟨0, fun φ hF => absurd ⟨φ, hF⟩ hne⟩
theorem dt_share (h : WF S) : ∃ v, ∀ φ, RF φ S → f8_editShare φ = some v := by
  have hc := h.c24; have hc1 := h.c1
  by_cases hne : ∃ φ, RF φ S
  · obtain ⟨φ0, h0⟩ := hne
    have key : ∀ φ, RF φ S → ∃ v, f8_editShare φ = some v ∧ f9_editShare (NS S) (nI 0) = some (v, nI 0) := by
      intro φ hF
      obtain ⟨v, q1, q2⟩ := those_e (x := nI 0) h hF (NS_rn h)
      have hn := fdiv_nn (v := v) hc1 (show s_c S < 600 by omega)
      refine ⟨FP.fdiv (FP.i2f v) (FP.i2f (nI (s_c S))), ?_, ?_⟩
      · unfold f8_editShare
        rw [show f1_commitCount φ = some (nI (s_c S)) from congrArg some hF.1.1, bnd, if_pos (by rw [nJ_le (by omega) (by omega)]; exact hc1), q1, bnd, nn32_val hn, if_pos rfl]
      · unfold f9_editShare
        rw [q2, bnd, show (nI 0).toNatClampNeg = 0 from rfl, (NS_rn h).1.1, nn32_val hn, if_pos rfl]
    obtain ⟨v, -, e⟩ := key φ0 h0
    refine ⟨v, fun φ hF => ?_⟩
    obtain ⟨w, e1, e2⟩ := key φ hF
    rw [e] at e2
    have e3 : v = w := congrArg Prod.fst (Option.some.inj e2)
    rw [e1, e3]
  · exact ⟨0, fun φ hF => absurd ⟨φ, hF⟩ hne⟩
theorem f2b_tot (x : UInt32) : ∃ r, fJxf58ca_floatToIntBits_5c35a x = some r := by
  unfold fJxf58ca_floatToIntBits_5c35a fJxf58ca_isNaN_12338
  split <;> rw [bnd] <;> split <;> exact ⟨_, rfl⟩
theorem d2b_tot (x : UInt64) : ∃ r, fJxe99ae_doubleToLongBits_ccdee x = some r := by
  unfold fJxe99ae_doubleToLongBits_ccdee fJxe99ae_isNaN_b9ae7
  split <;> rw [bnd] <;> split <;> exact ⟨_, rfl⟩
/-! the loops of asks, from the inner ones outwards -/
theorem asks232 {K : Int64 → Int32 → Int32 → TO → Option (Int64 × TO)} {x3 x4 : Int32} {q : AI} (hl : l ≤ 23) (hK : ∀ s, Dx S (fun τ => K s x3 (x4 + nI 1) τ)) : ∀ (d k n : Nat) (s : Int64), k + d = l → d < n → ∃ b, ∀ τ, RG τ S → t_lin_length τ = nI l → (∀ t, t < l → ch (t_lin_signs τ t) = ch (q t)) → ∃ τ', fL_asks_L232 K n s x3 x4 (nI l) (nI k) τ = some (b, τ') ∧ co τ' = co τ := by
  intro d
  induction d with
  | zero =>
    intro k n s hk hn
    obtain ⟨n, rfl⟩ : ∃ n', n = n' + 1 := ⟨n - 1, by omega⟩
    obtain ⟨b, hb⟩ := hK s
    refine ⟨b, fun τ hF h1 h2 => ?_⟩
    rw [fL_asks_L232, if_pos (by rw [nJ_le (by omega) (by omega)]; omega)]
    exact hb τ hF
  | succ d ih =>
    intro k n s hk hn
    obtain ⟨n, rfl⟩ : ∃ n', n = n' + 1 := ⟨n - 1, by omega⟩
    obtain ⟨a, ha⟩ := dt_char (q := q) (show l ≤ 24 by omega) (nI k)
    obtain ⟨b, hb⟩ := ih (k + 1) n ((31 : Int64) * s + a.toInt64) (by omega) (by omega)
    refine ⟨b, fun τ hF h1 h2 => ?_⟩
    have e : t_character (nI k) τ = some (a, τ) := by
      unfold t_character
      rw [h1, ha _ h2, bnd]
    rw [fL_asks_L232, if_neg (by rw [nJ_le (by omega) (by omega)]; omega), e, bnd]
    try dsimp only
    rw [nI_add]
    exact hb τ hF h1 h2
theorem asks80 (h : WF S) {K : Int64 → Int32 → Int32 → TO → Option (Int64 × TO)} (hi : i < s_c S) (hK : ∀ s, Dx S (fun τ => K s (nI (s_c S)) (nI (i + 1)) τ)) : ∀ (d k n : Nat) (s : Int64), k + d = 6 → d < n → Dx S (fun τ => fL_asks_L80 K n s (nI (s_c S)) (nI i) (nI k) τ) := by
  have hc := h.c24; have hc1 := h.c1
  intro d
  induction d with
  | zero =>
    intro k n s hk hn
    obtain ⟨n, rfl⟩ : ∃ n', n = n' + 1 := ⟨n - 1, by omega⟩
    have : k = 6 := by omega
    subst this
    simp only [fL_asks_L80]
    refine Dx.pos (by decide) ?_
    refine Dx.bind (dt_tasteBits h _) fun r1 => ?_
    try dsimp only
    refine Dx.bind (dt_taste h _) fun r2 => ?_
    try dsimp only
    obtain ⟨r3, e3⟩ := f2b_tot r2
    refine Dx.pure e3 ?_
    try dsimp only
    refine Dx.neg (by rw [nJ_eq0 (by omega)]; omega) ?_
    refine Dx.bind (dt_in h _ _) fun r4 => ?_
    try dsimp only
    refine Dx.bind (dt_base h _ _) fun r5 => ?_
    try dsimp only
    refine Dx.bind (dt_baseAgain h _ _) fun r6 => ?_
    try dsimp only
    refine Dx.bind (dt_difference h _ _) fun r7 => ?_
    try dsimp only
    obtain ⟨l', q', a1, a2⟩ := dt_line h hi
    have hK2 : ∀ s, Dx S (fun τ => K s (nI (s_c S)) (nI i + nI 1) τ) := fun s => by rw [nI_add]; exact hK s
    obtain ⟨b, hb⟩ := asks232 (S := S) (q := q') a1 hK2 l' 0 25 _ (by omega) (by omega)
    refine ⟨b, fun τ hF => ?_⟩
    obtain ⟨τ1, b1, b2, b3, b4⟩ := a2 τ hF
    obtain ⟨τ2, c1, c2⟩ := hb τ1 (co_g b2 hF) b3 b4
    refine ⟨τ2, ?_, c2.trans b2⟩
    dsimp only
    rw [b1, bnd]
    exact c1
  | succ d ih =>
    intro k n s hk hn
    obtain ⟨n, rfl⟩ : ∃ n', n = n' + 1 := ⟨n - 1, by omega⟩
    simp only [fL_asks_L80]
    refine Dx.neg (by rw [nJ_le (by omega) (by omega)]; omega) ?_
    refine Dx.bind (dt_commitOf h _ _) fun r1 => ?_
    try dsimp only
    refine Dx.bind (dt_amount h _ _) fun r2 => ?_
    try dsimp only
    try dsimp only
    rw [nI_add]
    exact ih (k + 1) n _ (by omega) (by omega)
theorem asks374 (h : WF S) {K : Int64 → Int32 → TO → Option (Int64 × TO)} {x4 : Int32} (hK : ∀ s, Dx S (fun τ => K s (x4 + nI 1) τ)) : ∀ (d k n : Nat) (s : Int64), k + d = 6 → d < n → Dx S (fun τ => fL_asks_L374 K n s x4 (nI k) τ) := by
  intro d
  induction d with
  | zero =>
    intro k n s hk hn
    obtain ⟨n, rfl⟩ : ∃ n', n = n' + 1 := ⟨n - 1, by omega⟩
    have : k = 6 := by omega
    subst this
    simp only [fL_asks_L374]
    exact Dx.pos (by decide) (hK s)
  | succ d ih =>
    intro k n s hk hn
    obtain ⟨n, rfl⟩ : ∃ n', n = n' + 1 := ⟨n - 1, by omega⟩
    simp only [fL_asks_L374]
    refine Dx.neg (by rw [nJ_le (by omega) (by omega)]; omega) ?_
    refine Dx.bind (dt_blame h _ _) fun r1 => ?_
    try dsimp only
    refine Dx.bind (dt_firstBad h _ _ _) fun r2 => ?_
    try dsimp only
    refine Dx.bind (dt_halve h _ _ _ _) fun r3 => ?_
    try dsimp only
    refine Dx.bind (dt_halve h _ _ _ _) fun r4 => ?_
    try dsimp only
    try dsimp only
    rw [nI_add]
    exact ih (k + 1) n _ (by omega) (by omega)
theorem asks342 (h : WF S) {K : Int64 → Int32 → TO → Option (Int64 × TO)} {x4 : Int32} (hK : ∀ s, Dx S (fun τ => K s (x4 + nI 1) τ)) : ∀ (d k n : Nat) (s : Int64), k + d = 24 → d < n → Dx S (fun τ => fL_asks_L342 K n s x4 (nI k) τ) := by
  intro d
  induction d with
  | zero =>
    intro k n s hk hn
    obtain ⟨n, rfl⟩ : ∃ n', n = n' + 1 := ⟨n - 1, by omega⟩
    have : k = 24 := by omega
    subst this
    simp only [fL_asks_L342]
    exact Dx.pos (by decide) (asks374 h hK 6 0 7 s (by omega) (by omega))
  | succ d ih =>
    intro k n s hk hn
    obtain ⟨n, rfl⟩ : ∃ n', n = n' + 1 := ⟨n - 1, by omega⟩
    simp only [fL_asks_L342]
    refine Dx.neg (by rw [nJ_le (by omega) (by omega)]; omega) ?_
    refine Dx.bind (dt_onLine h _ _) fun r1 => ?_
    try dsimp only
    try dsimp only
    rw [nI_add]
    exact ih (k + 1) n _ (by omega) (by omega)
theorem asks307 (h : WF S) {K : Int64 → Int32 → TO → Option (Int64 × TO)} {x4 : Int32} (hK : ∀ s, Dx S (fun τ => K s (x4 + nI 1) τ)) : ∀ (d k n : Nat) (s : Int64), k + d = s_b S → d < n → Dx S (fun τ => fL_asks_L307 K n s x4 (nI k) τ) := by
  have h5 := h.b5
  intro d
  induction d with
  | zero =>
    intro k n s hk hn
    obtain ⟨n, rfl⟩ : ∃ n', n = n' + 1 := ⟨n - 1, by omega⟩
    simp only [fL_asks_L307]
    refine Dx.bindE (dt_acc1 h) ?_
    try dsimp only
    exact Dx.pos (by rw [nJ_le (by omega) (by omega)]; omega) (asks342 h hK 24 0 25 s (by omega) (by omega))
  | succ d ih =>
    intro k n s hk hn
    obtain ⟨n, rfl⟩ : ∃ n', n = n' + 1 := ⟨n - 1, by omega⟩
    simp only [fL_asks_L307]
    refine Dx.bindE (dt_acc1 h) ?_
    try dsimp only
    refine Dx.neg (by rw [nJ_le (by omega) (by omega)]; omega) ?_
    refine Dx.bind (dt_conflicts h _ _) fun r1 => ?_
    try dsimp only
    try dsimp only
    rw [nI_add]
    exact ih (k + 1) n _ (by omega) (by omega)
theorem asks462 (h : WF S) : ∀ (d k n : Nat) (s : Int64), k + d = 4 → d < n → Dx S (fun τ => fL_asks_L462 n s (nI k) τ) := by
  intro d
  induction d with
  | zero =>
    intro k n s hk hn
    obtain ⟨n, rfl⟩ : ∃ n', n = n' + 1 := ⟨n - 1, by omega⟩
    have : k = 4 := by omega
    subst this
    simp only [fL_asks_L462]
    exact Dx.pos (by decide) ⟨s, fun τ hF => ⟨τ, rfl, rfl⟩⟩
  | succ d ih =>
    intro k n s hk hn
    obtain ⟨n, rfl⟩ : ∃ n', n = n' + 1 := ⟨n - 1, by omega⟩
    simp only [fL_asks_L462]
    refine Dx.neg (by rw [nJ_le (by omega) (by omega)]; omega) ?_
    refine Dx.bind (dt_inBundle h _) fun r1 => ?_
    try dsimp only
    try dsimp only
    rw [nI_add]
    exact ih (k + 1) n _ (by omega) (by omega)
theorem asks268 (h : WF S) : ∀ (d k n : Nat) (s : Int64), k + d = s_b S → d < n → Dx S (fun τ => fL_asks_L268 n s (nI k) τ) := by
  have h5 := h.b5
  intro d
  induction d with
  | zero =>
    intro k n s hk hn
    obtain ⟨n, rfl⟩ : ∃ n', n = n' + 1 := ⟨n - 1, by omega⟩
    simp only [fL_asks_L268]
    refine Dx.bindE (dt_acc1 h) ?_
    try dsimp only
    exact Dx.pos (by rw [nJ_le (by omega) (by omega)]; omega) (asks462 h 4 0 5 s (by omega) (by omega))
  | succ d ih =>
    intro k n s hk hn
    obtain ⟨n, rfl⟩ : ∃ n', n = n' + 1 := ⟨n - 1, by omega⟩
    simp only [fL_asks_L268]
    refine Dx.bindE (dt_acc1 h) ?_
    try dsimp only
    refine Dx.neg (by rw [nJ_le (by omega) (by omega)]; omega) ?_
    refine Dx.bind (dt_tip h _) fun r1 => ?_
    try dsimp only
    refine Dx.bind (dt_tastiest h _) fun r2 => ?_
    try dsimp only
    try dsimp only
    exact asks307 h (fun s => by rw [nI_add]; exact ih (k + 1) n s (by omega) (by omega)) (s_b S) 0 6 _ (by omega) (by omega)
theorem asks71 (h : WF S) : ∀ (d k n : Nat) (s : Int64), k + d = s_c S → d < n → Dx S (fun τ => fL_asks_L71 n s (nI (s_c S)) (nI k) τ) := by
  have hc := h.c24; have h5 := h.b5
  intro d
  induction d with
  | zero =>
    intro k n s hk hn
    obtain ⟨n, rfl⟩ : ∃ n', n = n' + 1 := ⟨n - 1, by omega⟩
    simp only [fL_asks_L71]
    exact Dx.pos (by rw [nJ_le (by omega) (by omega)]; omega) (asks268 h (s_b S) 0 6 s (by omega) (by omega))
  | succ d ih =>
    intro k n s hk hn
    obtain ⟨n, rfl⟩ : ∃ n', n = n' + 1 := ⟨n - 1, by omega⟩
    simp only [fL_asks_L71]
    refine Dx.neg (by rw [nJ_le (by omega) (by omega)]; omega) ?_
    exact asks80 h (show k < s_c S by omega) (fun s => ih (k + 1) n s (by omega) (by omega)) 6 0 7 s (by omega) (by omega)
theorem asks37 (h : WF S) : ∀ (d k n : Nat) (s : Int64), k + d = 9 → d < n → Dx S (fun τ => fL_asks_L37 n s (nI k) τ) := by
  have hc := h.c24
  intro d
  induction d with
  | zero =>
    intro k n s hk hn
    obtain ⟨n, rfl⟩ : ∃ n', n = n' + 1 := ⟨n - 1, by omega⟩
    have : k = 9 := by omega
    subst this
    simp only [fL_asks_L37]
    refine Dx.pos (by decide) ?_
    refine Dx.bindE (dt_acc0 h) ?_
    try dsimp only
    exact asks71 h (s_c S) 0 25 s (by omega) (by omega)
  | succ d ih =>
    intro k n s hk hn
    obtain ⟨n, rfl⟩ : ∃ n', n = n' + 1 := ⟨n - 1, by omega⟩
    simp only [fL_asks_L37]
    refine Dx.neg (by rw [nJ_le (by omega) (by omega)]; omega) ?_
    refine Dx.bind (dt_account h (show k < 9 by omega)) fun r1 => ?_
    try dsimp only
    try dsimp only
    rw [nI_add]
    exact ih (k + 1) n _ (by omega) (by omega)
theorem asks_det (h : WF S) : ∃ A, Det S fL_asks A := by
  obtain ⟨v1, e1⟩ := dt_mean h
  obtain ⟨v2, e2⟩ := d2b_tot v1
  obtain ⟨v3, e3⟩ := dt_share h
  obtain ⟨v4, e4⟩ := f2b_tot v3
  show Dx S (fun τ => fL_asks τ)
  simp only [fL_asks]
  refine Dx.fn (fun τ hF => show t_meanTaste τ = some v1 from e1 _ hF) ?_
  try dsimp only
  refine Dx.pure e2 ?_
  try dsimp only
  refine Dx.fn (fun τ hF => show t_editShare τ = some v3 from e3 _ hF) ?_
  try dsimp only
  refine Dx.pure e4 ?_
  try dsimp only
  refine Dx.fn (fun τ hF => show t_isWell τ = some true from well_e h hF) ?_
  try dsimp only
  refine Dx.neg (by decide) ?_
  exact asks37 h 9 0 10 _ (by omega) (by omega)
end DT
