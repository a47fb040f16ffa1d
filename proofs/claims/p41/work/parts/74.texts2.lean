/-! texts: appended and read -/
def ck (τ : TO) : Int32 × Fo × Fo × (Nat → Fo) × Int32 × Int32 × Prop × Int32 × Int32 := (t_top_isSaved τ, t_forest_f τ, t_saved_f τ, t_hist_rows τ, t_hist_next τ, t_hist_count τ, LN τ, t_desk_reason τ, t_desk_detail τ)
def c6 (τ : TO) : Int32 × Fo × Fo × (Nat → Fo) × Int32 × Int32 × Prop := (t_top_isSaved τ, t_forest_f τ, t_saved_f τ, t_hist_rows τ, t_hist_next τ, t_hist_count τ, LN τ)
theorem ck_c6 {τ τ' : TO} (h : ck τ' = ck τ) : c6 τ' = c6 τ := congrArg (fun z : Int32 × Fo × Fo × (Nat → Fo) × Int32 × Int32 × Prop × Int32 × Int32 => (z.1, z.2.1, z.2.2.1, z.2.2.2.1, z.2.2.2.2.1, z.2.2.2.2.2.1, z.2.2.2.2.2.2.1)) h
theorem ck_r {τ τ' : TO} (h : ck τ' = ck τ) : t_desk_reason τ' = t_desk_reason τ := congrArg (fun z => z.2.2.2.2.2.2.2.1) h
theorem ck_d {τ τ' : TO} (h : ck τ' = ck τ) : t_desk_detail τ' = t_desk_detail τ := congrArg (fun z => z.2.2.2.2.2.2.2.2) h
theorem c6_l {τ τ' : TO} (h : c6 τ' = c6 τ) : LN τ' = LN τ := congrArg (fun z => z.2.2.2.2.2.2) h
theorem c6_s {τ τ' : TO} (h : c6 τ' = c6 τ) : t_top_isSaved τ' = t_top_isSaved τ := congrArg (fun z => z.1) h
theorem c6_f {τ τ' : TO} (h : c6 τ' = c6 τ) : t_forest_f τ' = t_forest_f τ := congrArg (fun z => z.2.1) h
theorem c6_v {τ τ' : TO} (h : c6 τ' = c6 τ) : t_saved_f τ' = t_saved_f τ := congrArg (fun z => z.2.2.1) h
theorem c6_h {τ τ' : TO} {u : Nat} {g : Nat → Fo} (h : c6 τ' = c6 τ) (hG : HT τ u g) : HT τ' u g := by
  have e1 : t_hist_rows τ' = t_hist_rows τ := congrArg (fun z => z.2.2.2.1) h
  have e2 : t_hist_next τ' = t_hist_next τ := congrArg (fun z => z.2.2.2.2.1) h
  have e3 : t_hist_count τ' = t_hist_count τ := congrArg (fun z => z.2.2.2.2.2.1) h
  unfold HT at hG ⊢
  rw [e1, e2, e3]; exact hG
theorem c6_ce {τ τ' : TO} (h : c6 τ' = c6 τ) (hi : t_inp_length τ' = t_inp_length τ) : ce τ' = ce τ := by
  have e1 := c6_s h
  have e2 := c6_f h
  have e3 := c6_v h
  have e4 : t_hist_rows τ' = t_hist_rows τ := congrArg (fun z => z.2.2.2.1) h
  have e5 : t_hist_next τ' = t_hist_next τ := congrArg (fun z => z.2.2.2.2.1) h
  have e6 : t_hist_count τ' = t_hist_count τ := congrArg (fun z => z.2.2.2.2.2.1) h
  unfold ce
  rw [e1, e2, e3, e4, e5, e6, hi, c6_l h]
section RD
variable {S : SS} {τ : TO} {u n m : Nat} {g : Nat → Fo} {c : Int32}
theorem parse_p (hn : n ≤ 60) (p rows : AI) (c0 p0 col : Int32) : (∃ e rowsF cntF posF colF, f6_parse rows c0 p0 col p (nI n) = some (nI e, rowsF, cntF, posF, colF) ∧ e ≤ 60) ∨ (∃ m rowsF posF colF, f6_parse rows c0 p0 col p (nI n) = some (-1, rowsF, nI m, posF, colF) ∧ m ≤ 21 ∧ SQ rowsF p n m 0 0) := by
  rcases parse_L (N := fun _ => 0) (M := fun _ => 0) (K := fun _ => 0) (mx := fun _ => 0) (un := 0) (er := 0) (rs := 0) (dt := 0) (an := 0) (th := 0) (cf := 0) (fc := 0) hn (p := p) (q := p) (fun _ _ => rfl) 61 0 0 fuel fuel rows col 0 (fun _ => 0) (by omega) (by omega) (by omega) (by unfold fuel; omega) (by unfold fuel; omega) with ⟨e, rowsF, cntF, posF, colF, _, _, g1, g2, -⟩ | ⟨m, rowsF, posF, colF, _, _, g1, g2, -, -, g5⟩
  · exact Or.inl ⟨e, rowsF, cntF, posF, colF, g1, g2⟩
  · rw [Nat.zero_add] at g1 g2
    exact Or.inr ⟨m, rowsF, posF, colF, g1, g2, g5⟩
theorem up_read_e {e : Nat} {rowsF : AI} {cntF posF colF : Int32} (h : f6_parse (t_ord_rows τ) (t_ord_count τ) (t_ord_position τ) (t_ord_column τ) (t_inp_signs τ) (t_inp_length τ) = some (nI e, rowsF, cntF, posF, colF)) (he : e ≤ 60) : ∃ τ', t_read τ = some (-1001, τ') ∧ ck τ' = ck τ ∧ t_inp_length τ' = nI 0 ∧ t_top_wrongPosition τ' = nI e := by
  apply Exists.intro
  refine ⟨?_, ?_, ?_, ?_⟩
  · unfold t_read fL_read f8_read
    rw [h, bnd]
    dsimp only
    rw [show f3_clear (t_inp_length τ) = some (nI 0) from rfl, bnd, if_neg (by rw [nJ_eqm (by omega)]; exact fun q => q), bnd]
    rfl
  · rfl
  · rfl
  · rfl
theorem up_read_2 {rowsF row' : AI} {cntF posF colF rs' dt' cc' lo' : Int32} {φ' : Fo} (h : f6_parse (t_ord_rows τ) (t_ord_count τ) (t_ord_position τ) (t_ord_column τ) (t_inp_signs τ) (t_inp_length τ) = some (-1, rowsF, cntF, posF, colF)) (h2 : f6_carryOut rowsF cntF (t_desk_reason τ) (t_desk_detail τ) (t_mix_row τ) (t_mix_conflictCount τ) (t_mix_lowest τ) (t_forest_f τ) = some (-2, rs', dt', row', cc', lo', φ')) : ∃ τ', t_read τ = some (-1001, τ') ∧ c6 τ' = c6 τ ∧ t_desk_reason τ' = rs' ∧ t_desk_detail τ' = dt' ∧ t_inp_length τ' = nI 0 ∧ t_top_wrongPosition τ' = -1 := by
  apply Exists.intro
  refine ⟨?_, ?_, ?_, ?_, ?_, ?_⟩
  · unfold t_read fL_read f8_read
    rw [h, bnd]
    dsimp only
    rw [show f3_clear (t_inp_length τ) = some (nI 0) from rfl, bnd, if_pos rfl, f1_become_e, bnd, h2, bnd]
    dsimp only
    rw [fin_a, bnd]
    rfl
  · rfl
  · rfl
  · rfl
  · rfl
  · rfl
theorem up_read_3 {rowsF row' : AI} {cntF posF colF rs' dt' cc' lo' : Int32} {φ' : Fo} (h : f6_parse (t_ord_rows τ) (t_ord_count τ) (t_ord_position τ) (t_ord_column τ) (t_inp_signs τ) (t_inp_length τ) = some (-1, rowsF, cntF, posF, colF)) (h2 : f6_carryOut rowsF cntF (t_desk_reason τ) (t_desk_detail τ) (t_mix_row τ) (t_mix_conflictCount τ) (t_mix_lowest τ) (t_forest_f τ) = some (-3, rs', dt', row', cc', lo', φ')) : ∃ τ', t_read τ = some (-1002, τ') ∧ c6 τ' = c6 τ ∧ t_desk_reason τ' = rs' ∧ t_desk_detail τ' = dt' ∧ t_inp_length τ' = nI 0 ∧ t_top_wrongPosition τ' = -1 := by
  apply Exists.intro
  refine ⟨?_, ?_, ?_, ?_, ?_, ?_⟩
  · unfold t_read fL_read f8_read
    rw [h, bnd]
    dsimp only
    rw [show f3_clear (t_inp_length τ) = some (nI 0) from rfl, bnd, if_pos rfl, f1_become_e, bnd, h2, bnd]
    dsimp only
    rw [fin_r, bnd]
    rfl
  · rfl
  · rfl
  · rfl
  · rfl
  · rfl
theorem up_read_0 {rowsF row' : AI} {cntF posF colF rs' dt' cc' lo' : Int32} {φ' : Fo} {a : Nat} (h : f6_parse (t_ord_rows τ) (t_ord_count τ) (t_ord_position τ) (t_ord_column τ) (t_inp_signs τ) (t_inp_length τ) = some (-1, rowsF, cntF, posF, colF)) (h2 : f6_carryOut rowsF cntF (t_desk_reason τ) (t_desk_detail τ) (t_mix_row τ) (t_mix_conflictCount τ) (t_mix_lowest τ) (t_forest_f τ) = some (nI a, rs', dt', row', cc', lo', φ')) (ha : a < 2 ^ 31) (hG : HT τ u g) : ∃ τ', t_read τ = some (nI a, τ') ∧ t_top_isSaved τ' = t_top_isSaved τ ∧ t_saved_f τ' = t_saved_f τ ∧ t_forest_f τ' = φ' ∧ HT τ' (min (u + 1) 8) (psh (t_forest_f τ) g) ∧ t_desk_reason τ' = rs' ∧ t_inp_length τ' = nI 0 ∧ LN τ' = LN τ := by
  obtain ⟨rows', nx', cn', k1, k2⟩ := keep_g (φ := t_forest_f τ) hG
  apply Exists.intro
  refine ⟨?_, ?_, ?_, ?_, ?_, ?_, ?_, ?_⟩
  · unfold t_read fL_read f8_read
    rw [h, bnd]
    dsimp only
    rw [show f3_clear (t_inp_length τ) = some (nI 0) from rfl, bnd, if_pos rfl, f1_become_e, bnd, h2, bnd]
    dsimp only
    rw [fin_ok ha k1, bnd]
    rfl
  · rfl
  · rfl
  · rfl
  · exact k2
  · rfl
  · rfl
  · rfl
theorem op_read (hn : n ≤ 60) (h : WF S) (hF : RF (t_forest_f τ) S) (hI : t_inp_length τ = nI n) (hL : LN τ) (hR : RSo (t_desk_reason τ)) (hG : HT τ u g) : ∃ r τ', t_read τ = some (r, τ') ∧ St τ u g r τ' := by
  rcases parse_p hn (t_inp_signs τ) (t_ord_rows τ) (t_ord_count τ) (t_ord_position τ) (t_ord_column τ) with ⟨e, rowsF, cntF, posF, colF, g1, g2⟩ | ⟨m, rowsF, posF, colF, g1, g2, g3⟩
  · rw [← hI] at g1
    obtain ⟨τ', z1, z2, z3, -⟩ := up_read_e g1 g2
    exact ⟨_, τ', z1, c6_s (ck_c6 z2), c6_v (ck_c6 z2), z3, by rw [c6_l (ck_c6 z2)]; exact hL, by rw [ck_r z2]; exact hR, Or.inr ⟨by decide, c6_f (ck_c6 z2), c6_h (ck_c6 z2) hG⟩⟩
  · rw [← hI] at g1
    obtain ⟨rs9, dt9, hE⟩ := RSo_RE (dt := t_desk_detail τ) hR
    obtain ⟨r, rs', dt', row', cc', lo', φ', is, N', rs9', dt9', an', mx', cf', fc', xc, at', ord', told', k9, q1, -, q3, q4⟩ := carry_L (M := fun _ => 0) (K := fun _ => 0) (un := 0) (er := 0) (th := 0) g2 m 0 0 fuel fuel S (t_forest_f τ) (NS S) (t_desk_reason τ) (t_desk_detail τ) rs9 dt9 0 (t_mix_row τ) (fun _ => 0) (t_mix_conflictCount τ) (t_mix_lowest τ) 0 0 0 (fun _ => 0) g3 (by omega) (by unfold fuel; omega) (by unfold fuel; omega) h hF (NS_rn h) hE
    have q1 : f6_carryOut rowsF (nI m) (t_desk_reason τ) (t_desk_detail τ) (t_mix_row τ) (t_mix_conflictCount τ) (t_mix_lowest τ) (t_forest_f τ) = some (r, rs', dt', row', cc', lo', φ') := q1
    rcases q4 with ⟨S', v1, v2, -, rfl, -, -⟩ | ⟨rfl, -⟩ | ⟨rfl, -⟩
    · obtain ⟨τ', z1, z2, z3, z4, z5, z6, z7, z8⟩ := up_read_0 g1 q1 (by omega) hG
      exact ⟨_, τ', z1, z2, z3, z7, by rw [z8]; exact hL, by rw [z6]; exact RE_RSo q3, Or.inl ⟨m, S', rfl, by omega, v1, by rw [z4]; exact v2, z5⟩⟩
    · obtain ⟨τ', z1, z2, z3, z4, z5, -⟩ := up_read_3 g1 q1
      exact ⟨_, τ', z1, c6_s z2, c6_v z2, z5, by rw [c6_l z2]; exact hL, by rw [z3]; exact RE_RSo q3, Or.inr ⟨by decide, c6_f z2, c6_h z2 hG⟩⟩
    · obtain ⟨τ', z1, z2, z3, z4, z5, -⟩ := up_read_2 g1 q1
      exact ⟨_, τ', z1, c6_s z2, c6_v z2, z5, by rw [c6_l z2]; exact hL, by rw [z3]; exact RE_RSo q3, Or.inr ⟨by decide, c6_f z2, c6_h z2 hG⟩⟩
theorem app_x (hn : n < 60) (hI : t_inp_length τ = nI n) : ∃ τ', t_append c τ = some (nI (n + 1), τ') ∧ ck τ' = ck τ ∧ t_inp_length τ' = nI (n + 1) ∧ t_inp_signs τ' = upd (t_inp_signs τ) n (ch c) := by
  apply Exists.intro
  refine ⟨?_, ?_, ?_, ?_⟩
  · unfold t_append fL_append f8_append f3_isFull f3_add
    rw [hI, if_pos (by rw [nJ_lt (by omega) (by omega)]; exact hn), bnd, if_pos b2iF, if_neg (by rw [nJ_lt0 (by omega)]; exact fun q => q), if_neg (by rw [nJ_le (by omega) (by omega)]; omega), inb_t hn (by omega), if_pos rfl, lt_eq, lt_eq, nI_add, nJ_nat (by omega)]
    rfl
  · rfl
  · rfl
  · rfl
def RT (f : AI) : AI := fun j => ch (f j &&& 255)
theorem reads_L {f : AI} (hn : n ≤ 60) : ∀ (d k m : Nat) (τ : TO), k + d = n → d < m → t_inp_length τ = nI k → (∀ j, j < k → t_inp_signs τ j = RT f j) → ∃ τ1, fL_reads_L2 n f m (nI k) τ = (t_read τ1).bind (fun (r2, w3) => some (r2, w3)) ∧ ck τ1 = ck τ ∧ t_inp_length τ1 = nI n ∧ ∀ j, j < n → t_inp_signs τ1 j = RT f j := by
  intro d
  induction d with
  | zero =>
    intro k m τ hk hm hI hs
    obtain ⟨m, rfl⟩ : ∃ m', m = m' + 1 := ⟨m - 1, by omega⟩
    have : k = n := by omega
    subst this
    exact ⟨τ, by rw [fL_reads_L2, if_pos (by rw [nJ_le (by omega) (by omega)]; omega)], rfl, hI, hs⟩
  | succ d ih =>
    intro k m τ hk hm hI hs
    obtain ⟨m, rfl⟩ : ∃ m', m = m' + 1 := ⟨m - 1, by omega⟩
    obtain ⟨τ', e1, e2, e3, e4⟩ := app_x (c := f k &&& 255) (show k < 60 by omega) hI
    obtain ⟨τ1, f1, f2, f3, f4⟩ := ih (k + 1) m τ' (by omega) (by omega) e3 (fun j hj => by
      rw [e4]
      by_cases e : j = k
      · rw [e, upd_s]; rfl
      · rw [upd_n _ _ e]; exact hs j (by omega))
    refine ⟨τ1, ?_, f2.trans e2, f3, f4⟩
    rw [fL_reads_L2, if_neg (by rw [nJ_le (by omega) (by omega)]; omega), inb_t (by omega) (by omega), if_pos rfl, nJ_nat (by omega), e1, bnd]
    dsimp only
    rw [nI_add, if_pos rfl]
    exact f1
theorem reads_x {f : AI} (hn : n ≤ 60) (hI : t_inp_length τ = nI 0) : ∃ τ1, (∀ r τ', t_read τ1 = some (r, τ') → fL_reads n f τ = some (r, τ')) ∧ ck τ1 = ck τ ∧ t_inp_length τ1 = nI n ∧ ∀ j, j < n → t_inp_signs τ1 j = RT f j := by
  obtain ⟨τ1, a, b⟩ := reads_L (f := f) hn n 0 62 τ (by omega) (by omega) hI (fun j hj => absurd hj (by omega))
  exact ⟨τ1, fun r τ' h => by unfold fL_reads; rw [a, h, bnd], b⟩
theorem op_reads {f : AI} (hn : n ≤ 60) (h : WF S) (hF : RF (t_forest_f τ) S) (hI : t_inp_length τ = nI 0) (hL : LN τ) (hR : RSo (t_desk_reason τ)) (hG : HT τ u g) : ∃ r τ', fL_reads n f τ = some (r, τ') ∧ St τ u g r τ' := by
  obtain ⟨τ1, a, b, b2, -⟩ := reads_x (f := f) hn hI
  have c1 := ck_c6 b
  obtain ⟨r, τ', e1, e2, e3, e4, e7, e5, e6⟩ := op_read hn h (by rw [c6_f c1]; exact hF) b2 (by rw [c6_l c1]; exact hL) (by rw [ck_r b]; exact hR) (c6_h c1 hG)
  rw [c6_f c1] at e6
  exact ⟨r, τ', a _ _ e1, e2.trans (c6_s c1), e3.trans (c6_v c1), e4, e7, e5, e6⟩
end RD
