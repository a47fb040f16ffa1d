/-! what must be refused is refused -/
section RFS
variable {S : SS}
variable {rows q : AI} {n m cnt pos p' j : Nat} {o t0 t1 rs dt cc lo : Int32} {row : AI} {φ : Fo}
theorem SQ_go (hS : SQ rows q n m cnt pos) (hn : n ≤ 60) (hp : p' ≤ 60) (e : (f9_isOrder q (nI n) (nI pos) 0 (fun _ => 0)).map (fun r => (r.2.1, r.2.2.1, r.2.2.2 0, r.2.2.2 1)) = some (nI p', o, t0, t1)) (s : (f9_sign (nI 59) q (nI n) (nI p')).map (fun r => r.1) = some true) : ∃ m', m = m' + 1 ∧ 0 < m' ∧ (∃ told', ROW rows cnt o told' ∧ told' 0 = t0 ∧ told' 1 = t1) ∧ SQ rows q n m' (cnt + 1) (p' + 1) := by
  cases m with
  | zero => exact absurd hS id
  | succ d =>
    obtain ⟨pos', hp', hord, hsg⟩ := hS
    obtain ⟨ord', told', w1, w2⟩ := hord 0 (fun _ => 0)
    rw [w1] at e
    have e := Option.some.inj e
    have e1 : nI pos' = nI p' := congrArg (fun z => z.1) e
    have e2 : ord' = o := congrArg (fun z => z.2.1) e
    have e3 : told' 0 = t0 := congrArg (fun z => z.2.2.1) e
    have e4 : told' 1 = t1 := congrArg (fun z => z.2.2.2) e
    have e5 := (nI_eq (by omega) (by omega)).mp e1
    subst e5
    subst e2
    rcases hsg with ⟨e0, s2⟩ | ⟨e0, s2, hS2⟩
    · rw [s2] at s
      exact absurd (Option.some.inj s) (show ¬ false = true by decide)
    · exact ⟨d, rfl, e0, ⟨told', w2, e3, e4⟩, hS2⟩
theorem SQ_last (hS : SQ rows q n m cnt pos) (hn : n ≤ 60) (hp : p' ≤ 60) (e : (f9_isOrder q (nI n) (nI pos) 0 (fun _ => 0)).map (fun r => (r.2.1, r.2.2.1, r.2.2.2 0, r.2.2.2 1)) = some (nI p', o, t0, t1)) (s : (f9_sign (nI 59) q (nI n) (nI p')).map (fun r => r.1) = some false) : m = 1 ∧ ∃ told', ROW rows cnt o told' ∧ told' 0 = t0 ∧ told' 1 = t1 := by
  cases m with
  | zero => exact absurd hS id
  | succ d =>
    obtain ⟨pos', hp', hord, hsg⟩ := hS
    obtain ⟨ord', told', w1, w2⟩ := hord 0 (fun _ => 0)
    rw [w1] at e
    have e := Option.some.inj e
    have e1 : nI pos' = nI p' := congrArg (fun z => z.1) e
    have e2 : ord' = o := congrArg (fun z => z.2.1) e
    have e3 : told' 0 = t0 := congrArg (fun z => z.2.2.1) e
    have e4 : told' 1 = t1 := congrArg (fun z => z.2.2.2) e
    have e5 := (nI_eq (by omega) (by omega)).mp e1
    subst e5
    subst e2
    rcases hsg with ⟨e0, s2⟩ | ⟨e0, s2, hS2⟩
    · exact ⟨by omega, told', w2, e3, e4⟩
    · rw [s2] at s
      exact absurd (Option.some.inj s) (show ¬ true = false by decide)
theorem row_ar {ord : Int32} {told : AI} {ar : Nat} (hR : ROW rows cnt ord told) (ho : ch ord = nI 102 ∧ ar = 1 ∨ ch ord = nI 114 ∧ ar = 2) : rows (4 * cnt + 0) = ch ord ∧ ∀ i, i < ar → rows (4 * cnt + (1 + i)) = told i := by
  obtain ⟨h1, ar', h2, h3⟩ := hR
  refine ⟨h1, ?_⟩
  have : ar' = ar := by
    rcases ho with ⟨e, rfl⟩ | ⟨e, rfl⟩ <;> rw [e] at h2 <;> rcases h2 with ⟨a, b⟩ | ⟨a, b⟩ | ⟨a, b⟩ | ⟨a, b⟩ | ⟨a, b⟩ | ⟨a, b⟩ <;> first | exact b | exact absurd a (by decide)
  rw [← this]
  exact h3
theorem ord_f {ord : Int32} {told : AI} (hR : ROW rows cnt ord told) (hc : cnt ≤ 20) (ho : ch ord = nI 102) : f6_carryOutOrder (nI cnt) rows rs dt row cc lo φ = (f0_tryFork (told 0) rs dt φ).bind fun (r17, w18, w19, w20) => some (r17, w18, w19, row, cc, lo, w20) := by
  obtain ⟨h1, h3⟩ := row_ar hR (Or.inl ⟨ho, rfl⟩)
  unfold f6_carryOutOrder
  rw [numAt hc (by omega), numAt hc (by omega), numAt hc (by omega), numAt hc (by omega), bnd, bnd, bnd, bnd, h1, ho, if_neg (by decide), if_pos rfl, show rows (4 * cnt + 1) = told 0 from h3 0 (by omega)]
theorem ord_r {ord : Int32} {told : AI} (hR : ROW rows cnt ord told) (hc : cnt ≤ 20) (ho : ch ord = nI 114) : f6_carryOutOrder (nI cnt) rows rs dt row cc lo φ = (f0_tryReset (told 0) (told 1) rs dt φ).bind fun (r17, w18, w19, w20) => some (r17, w18, w19, row, cc, lo, w20) := by
  obtain ⟨h1, h3⟩ := row_ar hR (Or.inr ⟨ho, rfl⟩)
  unfold f6_carryOutOrder
  rw [numAt hc (by omega), numAt hc (by omega), numAt hc (by omega), numAt hc (by omega), bnd, bnd, bnd, bnd, h1, ho, if_neg (by decide), if_neg (by decide), if_neg (by decide), if_neg (by decide), if_pos rfl, show rows (4 * cnt + 1) = told 0 from h3 0 (by omega), show rows (4 * cnt + 2) = told 1 from h3 1 (by omega)]
theorem fork_ok (h : WF S) (hF : RF φ S) (hj : j < s_b S) (hb : s_b S < 5) : ∃ φ', f0_tryFork (nI j) rs dt φ = some (nI (s_b S), rs, dt, φ') ∧ RF φ' (forkS S j) := by
  obtain ⟨φ', q1, q2⟩ := f1_addBranch_e h hF hj hb
  refine ⟨φ', ?_, q2⟩
  unfold f0_tryFork
  rw [f1_isBranch_e h hF, inb_t hj (by omega), bnd, if_neg b2iT, show f1_branchCount φ = some (nI (s_b S)) from congrArg some hF.1.2.1, bnd, if_pos (by rw [nJ_lt (by omega) (by omega)]; exact hb), f1_tipOf_e h hF hj, bnd, q1, bnd]
theorem reset_ok (h : WF S) (hF : RF φ S) {c : Nat} (hj : j < s_b S) (hc : c < s_c S) (hne : s_tp S j ≠ c) : ∃ φ', f0_tryReset (nI j) (nI c) rs dt φ = some (nI (s_tp S j), rs, dt, φ') ∧ RF φ' (moveS S j c) := by
  have hc9 := h.c24; have h5 := h.b5; have ht := h.tp hj
  obtain ⟨φ', q1, q2⟩ := f1_moveTip_e (c := c) h hF hj
  refine ⟨φ', ?_, q2⟩
  unfold f0_tryReset
  rw [f1_isBranch_e h hF, inb_t hj (by omega), bnd, if_neg b2iT, f1_isCommit_e h hF, inb_t hc (by omega), bnd, if_neg b2iT, f1_tipOf_e h hF hj, bnd, if_neg (by rw [nJ_eq (by omega) (by omega)]; exact hne), q1, bnd]
theorem cst_0 {tot : Nat} {rs' dt' cc' lo' : Int32} {row' : AI} {φ' : Fo} {a n' : Nat} (hc : cnt < tot) (ht : tot ≤ 21) (e : f6_carryOutOrder (nI cnt) rows rs dt row cc lo φ = some (nI a, rs', dt', row', cc', lo', φ')) (ha : a < 2 ^ 31) : f6_carryOut_L2 rows (nI tot) (n' + 1) (nI cnt) rs dt row cc lo φ = f6_carryOut_L2 rows (nI tot) n' (nI (cnt + 1)) rs' dt' row' cc' lo' φ' := by
  rw [f6_carryOut_L2, if_neg (by rw [nJ_le (by omega) (by omega)]; omega), e, bnd]
  dsimp only
  rw [if_pos (show (0 : Int32) ≤ nI a from nI_pos' ha), nI_add]
theorem cst_1 {tot : Nat} {rs' dt' cc' lo' : Int32} {row' : AI} {φ' : Fo} {n' : Nat} (hc : cnt < tot) (ht : tot ≤ 21) (e : f6_carryOutOrder (nI cnt) rows rs dt row cc lo φ = some (-1, rs', dt', row', cc', lo', φ')) : f6_carryOut_L2 rows (nI tot) (n' + 1) (nI cnt) rs dt row cc lo φ = some (-2, rs', dt', row', cc', lo', φ') := by
  rw [f6_carryOut_L2, if_neg (by rw [nJ_le (by omega) (by omega)]; omega), e, bnd]
  dsimp only
  rw [if_neg (by decide), if_neg (by decide)]
theorem cst_3 {tot : Nat} {rs' dt' cc' lo' : Int32} {row' : AI} {φ' : Fo} {n' : Nat} (hc : cnt < tot) (ht : tot ≤ 21) (e : f6_carryOutOrder (nI cnt) rows rs dt row cc lo φ = some (-3, rs', dt', row', cc', lo', φ')) : f6_carryOut_L2 rows (nI tot) (n' + 1) (nI cnt) rs dt row cc lo φ = some (-3, rs', dt', row', cc', lo', φ') := by
  rw [f6_carryOut_L2, if_neg (by rw [nJ_le (by omega) (by omega)]; omega), e, bnd]
  dsimp only
  rw [if_neg (by decide), if_pos rfl]
/-- the k-th text of the table -/
def TX (k : Nat) : AI := fun j => (sByt.getD k []).getD j 0
theorem tx_parse {k : Nat} {τ : TO} (hn : n ≤ 60) (hI : t_inp_length τ = nI 0) (er : Int32) : ∃ τ1, (∀ r τ', t_read τ1 = some (r, τ') → fL_reads n (TX k) τ = some (r, τ')) ∧ ck τ1 = ck τ ∧ ((∃ e rowsF cntF posF colF ordF toldF, f6_parse (t_ord_rows τ1) (t_ord_count τ1) (t_ord_position τ1) (t_ord_column τ1) (t_inp_signs τ1) (t_inp_length τ1) = some (nI e, rowsF, cntF, posF, colF) ∧ e ≤ 60 ∧ R1 (RT (TX k)) n fuel 0 0 (fun _ => 0) (fun _ => 0) (fun _ => 0) (fun _ => 0) 0 er 0 0 0 0 (fun _ => 0) 0 0 = some (nI 0, (fun _ => 0), (fun _ => 0), (fun _ => 0), 0, nI 0, nI e, ordF, toldF, nI e, 0, 0, 0, nI 1, (fun _ => 0), 0, 0)) ∨ (∃ m rowsF posF colF, f6_parse (t_ord_rows τ1) (t_ord_count τ1) (t_ord_position τ1) (t_ord_column τ1) (t_inp_signs τ1) (t_inp_length τ1) = some (-1, rowsF, nI m, posF, colF) ∧ m ≤ 21 ∧ SQ rowsF (RT (TX k)) n m 0 0)) := by
  obtain ⟨τ1, a, b, b2, b3⟩ := reads_x (f := TX k) hn hI
  refine ⟨τ1, a, b, ?_⟩
  rw [b2]
  rcases parse_L (N := fun _ => 0) (M := fun _ => 0) (K := fun _ => 0) (mx := fun _ => 0) (un := 0) (er := er) (rs := 0) (dt := 0) (an := 0) (th := 0) (cf := 0) (fc := 0) hn (p := t_inp_signs τ1) (q := RT (TX k)) (fun i hi => by rw [b3 i hi]) 61 0 0 fuel fuel (t_ord_rows τ1) (t_ord_column τ1) 0 (fun _ => 0) (by omega) (by omega) (by omega) (by unfold fuel; omega) (by unfold fuel; omega) with ⟨e, rowsF, cntF, posF, colF, oF, tF, g1, g2, g3⟩ | ⟨m, rowsF, posF, colF, _, _, g1, g2, -, -, g5⟩
  · exact Or.inl ⟨e, rowsF, cntF, posF, colF, oF, tF, g1, g2, g3⟩
  · rw [Nat.zero_add] at g1 g2
    exact Or.inr ⟨m, rowsF, posF, colF, g1, g2, g5⟩
theorem rd_13 (h : WF S) : Cp S (fL_reads (sLen.getD 13 0) (fun j => (sByt.getD 13 []).getD j 0)) (-1001) (nI 0) := by
  intro τ hg
  have hio : (f9_isOrder (RT (TX 13)) (nI 1) (nI 0) 0 (fun _ => 0)).map (fun r => (r.1, r.2.1)) = some (false, nI 0) := by decide +kernel
  obtain ⟨⟨ok, at_, ord, told⟩, hr, hr2⟩ := Option.map_eq_some_iff.mp hio
  have hk : ok = false := congrArg (fun z => z.1) hr2
  have ha : at_ = nI 0 := congrArg (fun z => z.2) hr2
  subst hk
  subst ha
  obtain ⟨τ1, a, b, ⟨e, rowsF, cntF, posF, colF, oF, tF, g1, g2, g3⟩ | ⟨m, rowsF, posF, colF, g1, g2, g3⟩⟩ := tx_parse (n := 1) (k := 13) (by omega) hg.2.2 0
  · have g4 : R1 (RT (TX 13)) 1 fuel 0 0 (fun _ => 0) (fun _ => 0) (fun _ => 0) (fun _ => 0) 0 0 0 0 0 0 (fun _ => 0) 0 0 = some (nI 0, (fun _ => 0), (fun _ => 0), (fun _ => 0), 0, nI 0, nI 0, ord, told, nI 0, 0, 0, 0, nI 1, (fun _ => 0), 0, 0) := by
      unfold R1
      rw [hr, bnd]
      exact L19_no (f := 1999)
    rw [g4] at g3
    have g5 : nI 0 = nI e := congrArg (fun z => z.2.2.2.2.2.2.1) (Option.some.inj g3)
    have g6 := (nI_eq (by omega) (by omega)).mp g5
    subst g6
    obtain ⟨τ', z1, z2, z3, z4⟩ := up_read_e g1 g2
    exact ⟨τ', a _ _ z1, c6_ce ((ck_c6 z2).trans (ck_c6 b)) (z3.trans hg.2.2.symm), z4⟩
  · cases m with
    | zero => exact absurd g3 id
    | succ d =>
      obtain ⟨pos', hp', hord, hsg⟩ := g3
      obtain ⟨ord', told', w1, w2⟩ := hord 0 (fun _ => 0)
      rw [hr] at w1
      exact absurd (congrArg (fun z => z.1) (Option.some.inj w1)) (show ¬ false = true by decide)
theorem er_no {k n : Nat} {z : Int32 × AI × AI × AI × Int32 × Int32 × Int32 × Int32 × AI × Int32 × Int32 × Int32 × Int32 × Int32 × AI × Int32 × Int32} {e : Nat} (he : e ≤ 60) (hz : z.2.2.2.2.2.2.2.2.2.1 = nI e) (hd : (R1 (RT (TX k)) n fuel 0 0 (fun _ => 0) (fun _ => 0) (fun _ => 0) (fun _ => 0) 0 (nI 99) 0 0 0 0 (fun _ => 0) 0 0).map (fun z => z.2.2.2.2.2.2.2.2.2.1) = some (nI 99)) (h : R1 (RT (TX k)) n fuel 0 0 (fun _ => 0) (fun _ => 0) (fun _ => 0) (fun _ => 0) 0 (nI 99) 0 0 0 0 (fun _ => 0) 0 0 = some z) : False := by
  rw [h] at hd
  have h2 : z.2.2.2.2.2.2.2.2.2.1 = nI 99 := Option.some.inj hd
  rw [hz] at h2
  have := (nI_eq (by omega) (by omega)).mp h2
  omega
theorem rd_14 (h : WF S) (hb : s_b S = 3) : Cp S (fL_reads (sLen.getD 14 0) (fun j => (sByt.getD 14 []).getD j 0)) (-1001) (-1) := by
  intro τ hg
  obtain ⟨τ1, a, b, ⟨e, rowsF, cntF, posF, colF, oF, tF, g1, g2, g3⟩ | ⟨m, rowsF, posF, colF, g1, g2, g3⟩⟩ := tx_parse (n := 5) (k := 14) (by omega) hg.2.2 (nI 99)
  · exact (er_no g2 rfl (by decide +kernel) g3).elim
  · obtain ⟨m1, rfl, hm1, ⟨t1, r1, u1, v1⟩, S1⟩ := SQ_go (p' := 2) (o := nI 102) (t0 := nI 0) (t1 := 0) g3 (by omega) (by omega) (by decide +kernel) (by decide +kernel)
    obtain ⟨rfl, t2, r2, u2, v2⟩ := SQ_last (p' := 5) (o := nI 102) (t0 := nI 9) (t1 := 0) S1 (by omega) (by omega) (by decide +kernel) (by decide +kernel)
    have hF : RF (t_forest_f τ1) S := by rw [c6_f (ck_c6 b)]; exact hg.1
    obtain ⟨φ1, f1, F1⟩ := fork_ok (rs := t_desk_reason τ1) (dt := t_desk_detail τ1) h hF (show 0 < s_b S by omega) (by omega)
    have w1 := forkS_wf h (show 0 < s_b S by omega) (by omega)
    have o1 := ord_f (rs := t_desk_reason τ1) (dt := t_desk_detail τ1) (row := t_mix_row τ1) (cc := t_mix_conflictCount τ1) (lo := t_mix_lowest τ1) (φ := t_forest_f τ1) r1 (by omega) (by decide +kernel)
    rw [u1, f1, bnd] at o1
    have o2 := ord_f (rs := t_desk_reason τ1) (dt := t_desk_detail τ1) (row := t_mix_row τ1) (cc := t_mix_conflictCount τ1) (lo := t_mix_lowest τ1) (φ := φ1) r2 (by omega) (by decide +kernel)
    rw [u2, tX_fork_b w1 F1 (show inb (nI 9) (s_b (forkS S 0)) = false from inb_hi (m := 9) (by omega) (Int32.le_refl _) (by show s_b S + 1 ≤ 9; omega)), bnd] at o2
    have o3 : f6_carryOut rowsF (nI (1 + 1)) (t_desk_reason τ1) (t_desk_detail τ1) (t_mix_row τ1) (t_mix_conflictCount τ1) (t_mix_lowest τ1) (t_forest_f τ1) = _ := (cst_0 (n' := 1999) (by omega) (by omega) o1 (by omega)).trans (cst_1 (n' := 1998) (by omega) (by omega) o2)
    obtain ⟨τ', z1, z2, z3, z4, z5, z6⟩ := up_read_2 g1 o3
    exact ⟨τ', a _ _ z1, c6_ce (z2.trans (ck_c6 b)) (z5.trans hg.2.2.symm), z6⟩
theorem rd_15 (h : WF S) (hb : s_b S = 3) : Cr S (fL_reads (sLen.getD 15 0) (fun j => (sByt.getD 15 []).getD j 0)) (-1002) (nI 1) (nI 5) := by
  intro τ hg
  obtain ⟨τ1, a, b, ⟨e, rowsF, cntF, posF, colF, oF, tF, g1, g2, g3⟩ | ⟨m, rowsF, posF, colF, g1, g2, g3⟩⟩ := tx_parse (n := 14) (k := 15) (by omega) hg.2.2 (nI 99)
  · exact (er_no g2 rfl (by decide +kernel) g3).elim
  · obtain ⟨m1, rfl, hm1, ⟨t1, r1, u1, v1⟩, S1⟩ := SQ_go (p' := 2) (o := nI 102) (t0 := nI 0) (t1 := 0) g3 (by omega) (by omega) (by decide +kernel) (by decide +kernel)
    obtain ⟨m2, rfl, hm2, ⟨t2, r2, u2, v2⟩, S2⟩ := SQ_go (p' := 5) (o := nI 102) (t0 := nI 0) (t1 := 0) S1 (by omega) (by omega) (by decide +kernel) (by decide +kernel)
    obtain ⟨m3, rfl, hm3, ⟨t3, r3, u3, v3⟩, S3⟩ := SQ_go (p' := 8) (o := nI 102) (t0 := nI 0) (t1 := 0) S2 (by omega) (by omega) (by decide +kernel) (by decide +kernel)
    have hF : RF (t_forest_f τ1) S := by rw [c6_f (ck_c6 b)]; exact hg.1
    obtain ⟨φ1, f1, F1⟩ := fork_ok (rs := t_desk_reason τ1) (dt := t_desk_detail τ1) h hF (show 0 < s_b S by omega) (by omega)
    have w1 := forkS_wf h (show 0 < s_b S by omega) (by omega)
    have e1 : s_b (forkS S 0) = 4 := by show s_b S + 1 = 4; omega
    obtain ⟨φ2, f2, F2⟩ := fork_ok (rs := t_desk_reason τ1) (dt := t_desk_detail τ1) w1 F1 (show 0 < s_b (forkS S 0) by omega) (by omega)
    have w2 := forkS_wf w1 (show 0 < s_b (forkS S 0) by omega) (by omega)
    have e2 : s_b (forkS (forkS S 0) 0) = 5 := by show s_b (forkS S 0) + 1 = 5; omega
    have o1 := ord_f (rs := t_desk_reason τ1) (dt := t_desk_detail τ1) (row := t_mix_row τ1) (cc := t_mix_conflictCount τ1) (lo := t_mix_lowest τ1) (φ := t_forest_f τ1) r1 (by omega) (by decide +kernel)
    rw [u1, f1, bnd] at o1
    have o2 := ord_f (rs := t_desk_reason τ1) (dt := t_desk_detail τ1) (row := t_mix_row τ1) (cc := t_mix_conflictCount τ1) (lo := t_mix_lowest τ1) (φ := φ1) r2 (by omega) (by decide +kernel)
    rw [u2, f2, bnd] at o2
    have o3 := ord_f (rs := t_desk_reason τ1) (dt := t_desk_detail τ1) (row := t_mix_row τ1) (cc := t_mix_conflictCount τ1) (lo := t_mix_lowest τ1) (φ := φ2) r3 (by omega) (by decide +kernel)
    rw [u3, tX_fork_f w2 F2 (show 0 < s_b (forkS (forkS S 0) 0) by omega) e2, bnd] at o3
    have o4 : f6_carryOut rowsF (nI (m3 + 1 + 1 + 1)) (t_desk_reason τ1) (t_desk_detail τ1) (t_mix_row τ1) (t_mix_conflictCount τ1) (t_mix_lowest τ1) (t_forest_f τ1) = _ := (cst_0 (n' := 1999) (by omega) (by omega) o1 (by omega)).trans ((cst_0 (n' := 1998) (by omega) (by omega) o2 (by omega)).trans (cst_3 (n' := 1997) (by omega) (by omega) o3))
    obtain ⟨τ', z1, z2, z3, z4, z5, z6⟩ := up_read_3 g1 o4
    exact ⟨τ', a _ _ z1, c6_ce (z2.trans (ck_c6 b)) (z5.trans hg.2.2.symm), z3, z4⟩
theorem rd_16 (h : WF S) : Cr S (fL_reads (sLen.getD 16 0) (fun j => (sByt.getD 16 []).getD j 0)) (-1002) (nI 3) (nI 0) := by
  intro τ hg
  have hb1 := h.b1; have hc1 := h.c1; have hc9 := h.c24
  obtain ⟨τ1, a, b, ⟨e, rowsF, cntF, posF, colF, oF, tF, g1, g2, g3⟩ | ⟨m, rowsF, posF, colF, g1, g2, g3⟩⟩ := tx_parse (n := 9) (k := 16) (by omega) hg.2.2 (nI 99)
  · exact (er_no g2 rfl (by decide +kernel) g3).elim
  · obtain ⟨m1, rfl, hm1, ⟨t1, r1, u1, v1⟩, S1⟩ := SQ_go (p' := 4) (o := nI 114) (t0 := nI 0) (t1 := nI 0) g3 (by omega) (by omega) (by decide +kernel) (by decide +kernel)
    obtain ⟨rfl, t2, r2, u2, v2⟩ := SQ_last (p' := 9) (o := nI 114) (t0 := nI 0) (t1 := nI 0) S1 (by omega) (by omega) (by decide +kernel) (by decide +kernel)
    have hF : RF (t_forest_f τ1) S := by rw [c6_f (ck_c6 b)]; exact hg.1
    have o1 := ord_r (rs := t_desk_reason τ1) (dt := t_desk_detail τ1) (row := t_mix_row τ1) (cc := t_mix_conflictCount τ1) (lo := t_mix_lowest τ1) (φ := t_forest_f τ1) r1 (by omega) (by decide +kernel)
    by_cases e0 : s_tp S 0 = 0
    · have q := tX_reset_s (rs := t_desk_reason τ1) (dt := t_desk_detail τ1) h hF (show 0 < s_b S by omega)
      rw [e0] at q
      rw [u1, v1, q, bnd] at o1
      have o4 : f6_carryOut rowsF (nI (1 + 1)) (t_desk_reason τ1) (t_desk_detail τ1) (t_mix_row τ1) (t_mix_conflictCount τ1) (t_mix_lowest τ1) (t_forest_f τ1) = _ := cst_3 (n' := 1999) (by omega) (by omega) o1
      obtain ⟨τ', z1, z2, z3, z4, z5, z6⟩ := up_read_3 g1 o4
      exact ⟨τ', a _ _ z1, c6_ce (z2.trans (ck_c6 b)) (z5.trans hg.2.2.symm), z3, z4⟩
    · obtain ⟨φ1, f1, F1⟩ := reset_ok (rs := t_desk_reason τ1) (dt := t_desk_detail τ1) h hF (show 0 < s_b S by omega) (show 0 < s_c S by omega) e0
      have w1 := moveS_wf h (show 0 < s_b S by omega) (show 0 < s_c S by omega)
      have ht := h.tp (show 0 < s_b S by omega)
      rw [u1, v1, f1, bnd] at o1
      have q := tX_reset_s (rs := t_desk_reason τ1) (dt := t_desk_detail τ1) w1 F1 (show 0 < s_b S by omega)
      rw [show s_tp (moveS S 0 0) 0 = 0 from upN_s (s_tp S) 0 0] at q
      have o2 := ord_r (rs := t_desk_reason τ1) (dt := t_desk_detail τ1) (row := t_mix_row τ1) (cc := t_mix_conflictCount τ1) (lo := t_mix_lowest τ1) (φ := φ1) r2 (by omega) (by decide +kernel)
      rw [u2, v2, q, bnd] at o2
      have o4 : f6_carryOut rowsF (nI (1 + 1)) (t_desk_reason τ1) (t_desk_detail τ1) (t_mix_row τ1) (t_mix_conflictCount τ1) (t_mix_lowest τ1) (t_forest_f τ1) = _ := (cst_0 (n' := 1999) (by omega) (by omega) o1 (by omega)).trans (cst_3 (n' := 1998) (by omega) (by omega) o2)
      obtain ⟨τ', z1, z2, z3, z4, z5, z6⟩ := up_read_3 g1 o4
      exact ⟨τ', a _ _ z1, c6_ce (z2.trans (ck_c6 b)) (z5.trans hg.2.2.symm), z3, z4⟩
set_option maxRecDepth 20000 in
set_option maxHeartbeats 4000000 in
theorem refused987 (h : WF S) (hb : s_b S = 3) {A : Int64} (hA : Det S fL_asks A) : Kd S (fun τ => fL_refused_L987 A (nI 1) τ) true := by
  have h5 := h.b5; have hb1 := h.b1; have hc := h.c24; have hc1 := h.c1
  have h0T : inb (nI 0) (s_b S) = true := inb_t (by omega) (by omega)
  have h0C : inb (nI 0) (s_c S) = true := inb_t (by omega) (by omega)
  have hmF : inb (nI (s_b S)) (s_b S) = false := inb_hi (m := s_b S) (by omega) (Int32.le_refl _) (Nat.le_refl _)
  have hnF : inb (nI (s_c S)) (s_c S) = false := inb_hi (m := s_c S) (by omega) (Int32.le_refl _) (Nat.le_refl _)
  have hmN : inb (-1) (s_b S) = false := inb_lo (by decide)
  have hnN : inb (-1) (s_c S) = false := inb_lo (by decide)
  unfold fL_refused_L987
  refine Kd.neg (by decide) ?_
  refine Cp.bind (rd_13 h) ?_
  refine Kx.pos rfl ?_
  refine Kx.errp ?_
  refine Kd.pos (by decide) ?_
  refine Cp.bind (rd_14 h hb) ?_
  refine Kx.pos rfl ?_
  refine Kx.errp ?_
  refine Kd.pos (by decide) ?_
  refine Cr.bind (rd_15 h hb) ?_
  refine Kw.pos rfl ?_
  refine Kw.is (by decide) ?_
  refine Kd.neg (by decide) ?_
  refine Cr.bind (rd_16 h) ?_
  refine Kw.pos rfl ?_
  refine Kw.is2 (by decide) ?_
  refine Kw.neg (by decide) ?_
  refine Kw.det hA ?_
  refine Kw.pos (lg_self A) ?_
  exact fun τ hg e1 e2 => ⟨τ, rfl, rfl, by rw [e1]; exact Or.inr ⟨3, by omega, by omega, rfl⟩⟩
set_option maxRecDepth 20000 in
set_option maxHeartbeats 4000000 in
theorem refused509 (h : WF S) (hb : s_b S = 3) {A : Int64} (hA : Det S fL_asks A) : Kd S (fun τ => fL_refused_L509 A (nI (s_c S)) (nI (s_b S)) (nI 1) τ) true := by
  have h5 := h.b5; have hb1 := h.b1; have hc := h.c24; have hc1 := h.c1
  have h0T : inb (nI 0) (s_b S) = true := inb_t (by omega) (by omega)
  have h0C : inb (nI 0) (s_c S) = true := inb_t (by omega) (by omega)
  have hmF : inb (nI (s_b S)) (s_b S) = false := inb_hi (m := s_b S) (by omega) (Int32.le_refl _) (Nat.le_refl _)
  have hnF : inb (nI (s_c S)) (s_c S) = false := inb_hi (m := s_c S) (by omega) (Int32.le_refl _) (Nat.le_refl _)
  have hmN : inb (-1) (s_b S) = false := inb_lo (by decide)
  have hnN : inb (-1) (s_c S) = false := inb_lo (by decide)
  unfold fL_refused_L509
  refine Kd.neg (by decide) ?_
  refine Cd.bind (rx_tip_b h hmF) ?_
  refine Kd.pos rfl ?_
  refine Cd.bind (rx_tip_b h hmN) ?_
  refine Kd.pos rfl ?_
  refine Cd.bind (rx_amount_c h hnF) ?_
  refine Kd.pos rfl ?_
  refine Cd.bind (rx_amount_k h h0C (show inb (nI 6) 6 = false by decide)) ?_
  refine Kd.pos rfl ?_
  refine Cd.bind (rx_commitOf_c h hnF) ?_
  refine Kd.pos rfl ?_
  refine Cd.bind (rx_commitOf_w h h0C (Or.inl rfl)) ?_
  refine Kd.pos rfl ?_
  refine Cd.bind (rx_commitOf_w h h0C (Or.inr rfl)) ?_
  refine Kd.pos rfl ?_
  refine Cd.bind (rx_conflicts_b h hmF) ?_
  refine Kd.pos rfl ?_
  refine Cd.bind (rx_conflicts_b2 h h0T hmN) ?_
  refine Kd.pos rfl ?_
  refine Cd.bind (rx_in_c h hnF) ?_
  refine Kd.pos rfl ?_
  refine Cd.bind (rx_in_c2 h h0C hnN) ?_
  refine Kd.pos rfl ?_
  refine Cd.bind (rx_base_c h hnF) ?_
  refine Kd.pos rfl ?_
  refine Cd.bind (rx_baseAgain_c2 h h0C hnF) ?_
  refine Kd.pos rfl ?_
  refine Cd.bind (rx_difference_c h hnN) ?_
  refine Kd.pos rfl ?_
  refine Cd.bind (rx_onLine_b h hmF) ?_
  refine Kd.pos rfl ?_
  refine Cd.bind (rx_onLine_p h (show 0 < s_b S by omega) (Or.inl rfl)) ?_
  refine Kd.pos rfl ?_
  refine Cd.bind (rx_onLine_p h (show 0 < s_b S by omega) (Or.inr rfl)) ?_
  refine Kd.pos rfl ?_
  refine Cd.bind (rx_halve_b h hmF) ?_
  refine Kd.pos rfl ?_
  refine Cd.bind (rx_halve_k h h0T (show inb (nI 6) 6 = false by decide)) ?_
  refine Kd.pos rfl ?_
  refine Cd.bind (rx_halve_a h h0T (show inb (nI 0) 6 = true by decide) (show inb (nI 100) 100 = false by decide)) ?_
  refine Kd.pos rfl ?_
  refine Cd.bind (rx_halve_a h h0T (show inb (nI 0) 6 = true by decide) (show inb (-1) 100 = false by decide)) ?_
  refine Kd.pos rfl ?_
  refine Cd.bind (rx_halve_n h (show 0 < s_b S by omega) (show 0 < 6 by omega)) ?_
  refine Kd.pos rfl ?_
  refine Cd.bind (rx_firstBad_b h hmF) ?_
  refine Kd.pos rfl ?_
  refine Cd.bind (rx_firstBad_a h h0T (show inb (nI 0) 6 = true by decide) (show inb (nI 100) 100 = false by decide)) ?_
  refine Kd.pos rfl ?_
  refine Cd.bind (rx_firstBad_n h (show 0 < s_b S by omega) (show 0 < 6 by omega)) ?_
  refine Kd.pos rfl ?_
  refine Cd.bind (rx_blame_b h hmF) ?_
  refine Kd.pos rfl ?_
  refine Cd.bind (rx_blame_k h h0T (show inb (-1) 6 = false by decide)) ?_
  refine Kd.pos rfl ?_
  refine Cd.bind (rx_taste_c h hnF) ?_
  refine Kd.pos fc_1001 ?_
  refine Cd.bind (rx_tasteBits_c h hnN) ?_
  refine Kd.pos rfl ?_
  refine Cd.bind (rx_tastiest_b h hmF) ?_
  refine Kd.pos rfl ?_
  refine Cd.bind (rx_inBundle_p h (show inb (nI 4) 4 = false by decide)) ?_
  refine Kd.pos rfl ?_
  refine Cd.bind (rx_inBundle_p h (show inb (-1) 4 = false by decide)) ?_
  refine Kd.pos rfl ?_
  refine Cd.bind (rx_line_c h hnF) ?_
  refine Kd.pos rfl ?_
  refine Cd.bind (rx_character_n (Or.inl (by decide))) ?_
  refine Kd.pos rfl ?_
  refine Cd.bind (rx_character_n (Or.inr (by decide))) ?_
  refine Kd.pos rfl ?_
  refine Cd.bind (rx_account_n (Or.inl rfl)) ?_
  refine Kd.pos rfl ?_
  refine Cd.bind (rx_account_n (Or.inr rfl)) ?_
  refine Kd.pos rfl ?_
  exact refused987 h hb hA
set_option maxRecDepth 20000 in
set_option maxHeartbeats 4000000 in
theorem refused_t (h : WF S) (hb : s_b S = 3) {A : Int64} (hA : Det S fL_asks A) : Kd S fL_refused true := by
  have h5 := h.b5; have hb1 := h.b1; have hc := h.c24; have hc1 := h.c1
  have h0T : inb (nI 0) (s_b S) = true := inb_t (by omega) (by omega)
  have h0C : inb (nI 0) (s_c S) = true := inb_t (by omega) (by omega)
  have hmF : inb (nI (s_b S)) (s_b S) = false := inb_hi (m := s_b S) (by omega) (Int32.le_refl _) (Nat.le_refl _)
  have hnF : inb (nI (s_c S)) (s_c S) = false := inb_hi (m := s_c S) (by omega) (Int32.le_refl _) (Nat.le_refl _)
  have hmN : inb (-1) (s_b S) = false := inb_lo (by decide)
  have hnN : inb (-1) (s_c S) = false := inb_lo (by decide)
  show Kd S (fun τ => fL_refused τ) true
  unfold fL_refused
  refine Cd.bind hA.cd ?_
  refine Cd.bind (dt_acc0 h).cd ?_
  refine Cd.bind (dt_acc1 h).cd ?_
  refine Cd.bind (rx_tip_v h (show 0 < s_b S by omega)) ?_
  refine Cd.bind (rx_amount_v h (h.tp (show 0 < s_b S by omega)) (show 2 < 6 by omega)) ?_
  refine Cd.bind (rx_edit_b h hmF) ?_
  refine Kd.pos rfl ?_
  refine Cd.bind (rx_edit_k h h0T (show inb (nI 6) 6 = false by decide)) ?_
  refine Kd.pos rfl ?_
  refine Cd.bind (rx_edit_k h h0T (show inb (-1) 6 = false by decide)) ?_
  refine Kd.pos rfl ?_
  refine Cd.bind (rx_edit_a h h0T (show inb (nI 0) 6 = true by decide) (show inb (nI 100) 100 = false by decide)) ?_
  refine Kd.pos rfl ?_
  refine Cd.bind (rx_edit_a h h0T (show inb (nI 0) 6 = true by decide) (show inb (-1) 100 = false by decide)) ?_
  refine Kd.pos rfl ?_
  refine Cr.bind (rx_edit_s h (show 0 < s_b S by omega) (show 2 < 6 by omega)) ?_
  refine Kw.pos rfl ?_
  refine Kw.is (by decide) ?_
  refine Kd.neg (by decide) ?_
  refine Cd.bind (rx_fork_b h hmF) ?_
  refine Kd.pos rfl ?_
  refine Cd.bind (rx_fork_b h hmN) ?_
  refine Kd.pos rfl ?_
  refine Cd.bind (rx_reset_b h hmF) ?_
  refine Kd.pos rfl ?_
  refine Cd.bind (rx_reset_c h h0T hnF) ?_
  refine Kd.pos rfl ?_
  refine Cr.bind (rx_reset_s h (show 0 < s_b S by omega)) ?_
  refine Kw.pos rfl ?_
  refine Kw.is (by decide) ?_
  refine Kd.neg (by decide) ?_
  refine Cd.bind (rx_merge_b h hmF) ?_
  refine Kd.pos rfl ?_
  refine Cd.bind (rx_merge_b2 h h0T hmN) ?_
  refine Kd.pos rfl ?_
  refine Cd.bind (rx_merge_r h h0T h0T (show inb (nI 4) 4 = false by decide)) ?_
  refine Kd.pos rfl ?_
  refine Cd.bind (rx_merge_r h h0T h0T (show inb (-1) 4 = false by decide)) ?_
  refine Kd.pos rfl ?_
  refine Cr.bind (rx_merge_s h (show 0 < s_b S by omega) (show 0 < 4 by omega)) ?_
  refine Kw.pos rfl ?_
  refine Kw.is (by decide) ?_
  refine Kd.neg (by decide) ?_
  refine Cd.bind (rx_pick_b h hmF) ?_
  refine Kd.pos rfl ?_
  refine Cd.bind (rx_pick_c h h0T hnF) ?_
  refine Kd.pos rfl ?_
  refine Cd.bind (rx_pick_r h h0T h0C (show inb (nI 4) 4 = false by decide)) ?_
  refine Kd.pos rfl ?_
  refine Cr.bind (rx_pick_s h (show 0 < s_b S by omega) (show 0 < 4 by omega)) ?_
  refine Kw.pos rfl ?_
  refine Kw.is (by decide) ?_
  refine Kd.neg (by decide) ?_
  refine Cd.bind (rx_revert_b h hmF) ?_
  refine Kd.pos rfl ?_
  refine Cd.bind (rx_revert_c h h0T hnN) ?_
  refine Kd.pos rfl ?_
  refine Cd.bind (rx_revert_r h h0T h0C (show inb (nI 4) 4 = false by decide)) ?_
  refine Kd.pos rfl ?_
  refine Cr.bind (rx_revert_s h (show 0 < s_b S by omega) (show 0 < 4 by omega)) ?_
  refine Kw.pos rfl ?_
  refine Kw.is (by decide) ?_
  refine Kd.neg (by decide) ?_
  refine Cd.bind (rx_bundle_n (show inb (nI 3) 3 = false by decide)) ?_
  refine Kd.pos rfl ?_
  refine Cd.bind (rx_bundle_n (show inb (-1) 3 = false by decide)) ?_
  refine Kd.pos rfl ?_
  refine Cd.bind (rx_put_p h (show inb (nI 4) 4 = false by decide)) ?_
  refine Kd.pos rfl ?_
  refine Cd.bind (rx_put_c h (show inb (nI 0) 4 = true by decide) hnF) ?_
  refine Kd.pos rfl ?_
  refine Cd.bind (rx_put_p h (show inb (-1) 4 = false by decide)) ?_
  refine Kd.pos rfl ?_
  refine Cd.bind (rx_play_b h hmF) ?_
  refine Kd.pos rfl ?_
  refine Cd.bind (rx_play_r h h0T (show inb (nI 4) 4 = false by decide)) ?_
  refine Kd.pos rfl ?_
  refine Cd.bind (rx_play_r h h0T (show inb (-1) 4 = false by decide)) ?_
  refine Kd.pos rfl ?_
  exact refused509 h hb hA
end RFS
