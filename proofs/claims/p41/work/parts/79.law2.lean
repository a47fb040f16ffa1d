/-! the law's second and third piece -/
section LW
variable {S : SS} {τ : TO} {L : LX} {A : Int64} {u : Nat} {g : Nat → Fo}
/-- an object whose forest is S, with what is needed to ask -/
theorem ask_x (hA : Det S fL_asks A) (hM : MK S τ) : ∃ τ', fL_asks τ = some (A, τ') ∧ co τ' = co τ ∧ MK S τ' := by
  obtain ⟨h, hF, hI, hL, hR, u, g, hG⟩ := hM
  obtain ⟨τ', e1, e2⟩ := hA τ ⟨hF, hL⟩
  exact ⟨τ', e1, e2, h, by rw [co_f e2]; exact hF, (ce_i (co_ce e2)).trans hI, by rw [co_l e2]; exact hL, by rw [co_r e2]; exact hR, u, g, ce_h (co_ce e2) hG⟩
theorem fw_o_S (hlen : L.1.2.1 < 2 ^ 31) (hM : MK S0 τ) : ∃ A τ' S, fw_o L τ = some (A, nI (s_c S), τ') ∧ Det S fL_asks A ∧ MK S τ' ∧ t_top_isSaved τ' = nI 1 ∧ t_saved_f τ' = t_forest_f τ' := by
  obtain ⟨τ1, S, a1, M1, hb⟩ := makes_S (L := L) hlen hM
  obtain ⟨A, hA⟩ := asks_det M1.1
  obtain ⟨τ2, a2, -, M2⟩ := ask_x hA M1
  obtain ⟨τ3, a3, -, M3⟩ := ask_x hA M2
  obtain ⟨τ4, a4, b4, c4⟩ := refused_t M3.1 hb hA τ3 ⟨M3.2.1, M3.2.2.2.1, M3.2.2.1⟩
  have M4 : MK S τ4 := MK_ce M3 b4 c4
  obtain ⟨τ5, a5, b5, d5, e5, f5, g5, h5, i5⟩ := op_save M4.2.1
  obtain ⟨w4, F4, I4, L4, R4, u, g, G4⟩ := M4
  have F5 : RF (t_forest_f τ5) S := by rw [h5]; exact F4
  have M5 : MK S τ5 := ⟨w4, F5, e5.trans I4, by rw [f5]; exact L4, by rw [g5]; exact R4, u, g, i5 u g G4⟩
  have a6 := acc0_x F5
  obtain ⟨τ7, a7, b7, M7⟩ := ask_x hA M5
  refine ⟨A, τ7, S, ?_, hA, M7, (ce_s (co_ce b7)).trans b5, ?_⟩
  · unfold fw_o
    rw [a1, bnd]
    dsimp only
    rw [if_neg b2iT, a2, bnd]
    dsimp only
    rw [a3, bnd]
    dsimp only
    rw [if_pos (lg_self A), a4, bnd]
    dsimp only
    rw [if_neg b2iT, a5, bnd]
    dsimp only
    rw [a6, bnd]
    dsimp only
    rw [if_pos rfl, a7, bnd]
    dsimp only
    rw [if_pos (lg_self A)]
  · rw [ce_v (co_ce b7), d5, co_f b7, h5]
/-- the object while the law works on it: what was saved, and what can be taken back -/
def OB (Z : SS) (τ : TO) (S : SS) (u : Nat) (g : Nat → Fo) : Prop := WF S ∧ RF (t_forest_f τ) S ∧ t_inp_length τ = nI 0 ∧ LN τ ∧ RSo (t_desk_reason τ) ∧ HT τ u g ∧ t_top_isSaved τ = nI 1 ∧ RF (t_saved_f τ) Z
theorem OB_co {Z : SS} {τ' : TO} (h : OB Z τ S u g) (e : co τ' = co τ) : OB Z τ' S u g := by
  obtain ⟨a, b, c, d, f, i, j, k⟩ := h
  have e2 := co_ce e
  exact ⟨a, by rw [co_f e]; exact b, (ce_i e2).trans c, by rw [co_l e]; exact d, by rw [co_r e]; exact f, ce_h e2 i, (ce_s e2).trans j, by rw [ce_v e2]; exact k⟩
theorem asks_OB {Z : SS} (h : OB Z τ S u g) (hA : Det S fL_asks A) : ∃ τ', fL_asks τ = some (A, τ') ∧ OB Z τ' S u g := by
  obtain ⟨τ', e1, e2⟩ := hA τ ⟨h.2.1, h.2.2.2.1⟩
  exact ⟨τ', e1, OB_co h e2⟩
/-- the last entries of the history hold what was written down -/
def HW (was : Nat → Int64) (done m : Nat) (g : Nat → Fo) : Prop := ∀ t, t < m → ∃ S, WF S ∧ RF (g t) S ∧ Det S fL_asks (was (done - 1 - t))
theorem undo_OB {Z : SS} {was : Nat → Int64} {done m : Nat} (h : OB Z τ S (u + 1) g) (hw : HW was done (m + 1) g) : ∃ τ' S', t_undo τ = some (nI u, τ') ∧ OB Z τ' S' u (fun t => g (t + 1)) ∧ Det S' fL_asks (was (done - 1)) := by
  obtain ⟨a, b, c, d, f, i, j, k⟩ := h
  obtain ⟨τ', z1, z2, z3, z4, z5, z6, z7, z8⟩ := op_undo i
  obtain ⟨S', w1, w2, w3⟩ := hw 0 (by omega)
  exact ⟨τ', S', z1, ⟨w1, by rw [z7]; exact w2, z4.trans c, by rw [z5]; exact d, by rw [z6]; exact f, z8, z2.trans j, by rw [z3]; exact k⟩, w3⟩
theorem fin_w {Z : SS} (hZ : WF Z) (hA : Det Z fL_asks A) (h : OB Z τ S u g) : ∃ τ1 τ2 τ3 τ4 τ5, t_restore τ = some (nI (s_c Z), τ1) ∧ t_undo τ1 = some (-1001, τ2) ∧ fL_asks τ2 = some (A, τ3) ∧ t_restore τ3 = some (nI (s_c Z), τ4) ∧ fL_asks τ4 = some (A, τ5) := by
  obtain ⟨a, b, c, d, f, i, j, k⟩ := h
  obtain ⟨τ1, z1, z2, z3, z4, z5, z6, z7, z8⟩ := op_restore k j i
  obtain ⟨τ2, y1, y2, y3⟩ := op_undo0 z8
  have F2 : RF (t_forest_f τ2) Z := by rw [ce_f y2, z7]; exact k
  have L2 : LN τ2 := by rw [ce_l y2, z5]; exact d
  obtain ⟨τ3, x1, x2⟩ := hA τ2 ⟨F2, L2⟩
  have k3 : RF (t_saved_f τ3) Z := by rw [ce_v (co_ce x2), ce_v y2, z3]; exact k
  have s3 : t_top_isSaved τ3 = nI 1 := (ce_s (co_ce x2)).trans ((ce_s y2).trans z2)
  obtain ⟨τ4, w1, w2, w3, w4, w5, w6, w7, w8⟩ := op_restore k3 s3 (ce_h (co_ce x2) (ce_h y2 z8))
  obtain ⟨τ5, v1, v2⟩ := hA τ4 ⟨by rw [w7]; exact k3, by rw [w5, co_l x2]; exact L2⟩
  exact ⟨τ1, τ2, τ3, τ4, τ5, z1, y1, x1, w1, v1⟩
theorem L781_S {Z : SS} {was : Nat → Int64} {done can : Nat} (hZ : WF Z) (hA : Det Z fL_asks A) (hcan : can ≤ 8) (hd : can ≤ done) (hd2 : done ≤ 10) : ∀ (d k n u : Nat) (τ : TO) (S : SS) (g : Nat → Fo), k + d = can + 1 → 1 ≤ k → d < n → OB Z τ S u g → d ≤ u → u + k ≤ 9 → HW was (done + 1 - k) d g → fw_w_L781 L n A (nI (s_c Z)) (nI done) (nI can) (nI k) τ was = some () := by
  intro d
  induction d with
  | zero =>
    intro k n u τ S g hk h1 hn hO hu hu2 hW
    obtain ⟨n, rfl⟩ : ∃ n', n = n' + 1 := ⟨n - 1, by omega⟩
    obtain ⟨τ1, τ2, τ3, τ4, τ5, a1, a2, a3, a4, a5⟩ := fin_w hZ hA hO
    rw [fw_w_L781, if_pos (by rw [nJ_lt (by omega) (by omega)]; omega), a1, bnd]
    dsimp only
    rw [if_pos rfl, a2, bnd]
    dsimp only
    rw [if_pos rfl, a3, bnd]
    dsimp only
    rw [if_pos (lg_self A), a4, bnd]
    dsimp only
    rw [if_pos rfl, a5, bnd]
    dsimp only
    rw [if_pos (lg_self A)]
  | succ d ih =>
    intro k n u τ S g hk h1 hn hO hu hu2 hW
    obtain ⟨n, rfl⟩ : ∃ n', n = n' + 1 := ⟨n - 1, by omega⟩
    obtain ⟨u, rfl⟩ : ∃ u', u = u' + 1 := ⟨u - 1, by omega⟩
    obtain ⟨τ1, S1, a1, O1, D1⟩ := undo_OB hO hW
    obtain ⟨τ2, a2, O2⟩ := asks_OB O1 D1
    rw [fw_w_L781, if_neg (by rw [nJ_lt (by omega) (by omega)]; omega), a1, bnd]
    dsimp only
    rw [nJ_sub (by omega) (by omega), if_neg (by rw [nJ_lt (by omega) (by omega)]; omega), nJ_sub (by omega) (by omega), if_neg (by rw [nJ_lt (by omega) (by omega)]; omega), a2, bnd]
    dsimp only
    rw [nJ_sub (by omega) (by omega), inb_t (by omega) (by omega), if_pos rfl, nJ_nat (by omega), show done + 1 - k - 1 = done - k by omega, if_pos (lg_self _), nI_add]
    refine ih (k + 1) n u τ2 S1 _ (by omega) (by omega) (by omega) O2 (by omega) (by omega) (fun t ht => ?_)
    obtain ⟨S', w1, w2, w3⟩ := hW (t + 1) (by omega)
    exact ⟨S', w1, w2, by rw [show done + 1 - (k + 1) - 1 - t = done + 1 - k - 1 - (t + 1) by omega]; exact w3⟩
theorem L702_S {Z : SS} (hlen : L.1.2.1 < 2 ^ 31) (hZ : WF Z) (hA : Det Z fL_asks A) : ∀ (d k n done u : Nat) (τ : TO) (S : SS) (g : Nat → Fo) (was : Nat → Int64), k + d = 10 → d < n → done ≤ k → OB Z τ S u g → min 8 done ≤ u → HW was done (min 8 done) g → fw_w_L702 L n A (nI (s_c Z)) (nI done) (nI k) τ was = some () := by
  intro d
  induction d with
  | zero =>
    intro k n done u τ S g was hk hn hdk hO hu hW
    obtain ⟨n, rfl⟩ : ∃ n', n = n' + 1 := ⟨n - 1, by omega⟩
    have hu8 : u ≤ 8 := by obtain ⟨x, h8, -⟩ := hO.2.2.2.2.2.1; exact h8
    have hm : (if nI done < nI 8 then nI done else nI 8) = nI (min 8 done) := by
      by_cases e : done < 8
      · rw [if_pos (by rw [nJ_lt (by omega) (by omega)]; exact e), Nat.min_eq_right (by omega)]
      · rw [if_neg (by rw [nJ_lt (by omega) (by omega)]; exact e), Nat.min_eq_left (by omega)]
    rw [fw_w_L702, if_pos (by rw [nJ_le (by omega) (by omega)]; omega), hm]
    exact L781_S hZ hA (by omega) (by omega) (by omega) (min 8 done) 1 10 u τ S g (by omega) (by omega) (by omega) hO hu (by omega) hW
  | succ d ih =>
    intro k n done u τ S g was hk hn hdk hO hu hW
    obtain ⟨n, rfl⟩ : ∃ n', n = n' + 1 := ⟨n - 1, by omega⟩
    obtain ⟨A1, hA1⟩ := asks_det hO.1
    obtain ⟨τ1, a1, O1⟩ := asks_OB hO hA1
    obtain ⟨v, a2⟩ := at_e hlen (20 + k) (by omega)
    obtain ⟨w1, w2, w3, w4, w5, w6, w7, w8⟩ := O1
    obtain ⟨b, τ2, a3, c1, c2, c3, c4, c5, ⟨rfl, S2, v1, v2, v3⟩ | ⟨rfl, v1, v2⟩⟩ := changes_S (L := L) (x := v ^^^ nI k * nI 977) w1 w2 w3 w4 w5 w6
    · rw [fw_w_L702, if_neg (by rw [nJ_le (by omega) (by omega)]; omega), a1, bnd]
      dsimp only
      rw [nI_add, a2, bnd, a3, bnd]
      dsimp only
      rw [if_neg b2iT, inb_t (by omega) (by omega), if_pos rfl, nI_add, nI_add, nJ_nat (by omega)]
      refine ih (k + 1) n (done + 1) _ τ2 S2 _ _ (by omega) (by omega) (by omega) ⟨v1, v2, c3, c4, c5, v3, c1.trans w7, by rw [c2]; exact w8⟩ (by omega) (fun t ht => ?_)
      by_cases e : t = 0
      · subst e
        refine ⟨S, w1, ?_, ?_⟩
        · show RF (if 0 = 0 then t_forest_f τ1 else _) S
          rw [if_pos rfl]; exact w2
        · rw [show done + 1 - 1 - 0 = done by omega, show vp_updL was done A1 done = A1 from if_pos rfl]; exact hA1
      · obtain ⟨S', x1, x2, x3⟩ := hW (t - 1) (by omega)
        refine ⟨S', x1, ?_, ?_⟩
        · show RF (if t = 0 then t_forest_f τ1 else g (t - 1)) S'
          rw [if_neg e]; exact x2
        · rw [show done + 1 - 1 - t = done - 1 - (t - 1) by omega, show vp_updL was done A1 (done - 1 - (t - 1)) = was (done - 1 - (t - 1)) from if_neg (by omega)]; exact x3
    · have O2 : OB Z τ2 S u g := ⟨w1, by rw [v1]; exact w2, c3, c4, c5, v2, c1.trans w7, by rw [c2]; exact w8⟩
      obtain ⟨τ3, a4, O3⟩ := asks_OB O2 hA1
      rw [fw_w_L702, if_neg (by rw [nJ_le (by omega) (by omega)]; omega), a1, bnd]
      dsimp only
      rw [nI_add, a2, bnd, a3, bnd]
      dsimp only
      rw [if_pos b2iF, a4, bnd]
      dsimp only
      rw [if_pos (lg_self A1), nI_add]
      exact ih (k + 1) n done u τ3 S g was (by omega) (by omega) (by omega) O3 hu hW
theorem fw_w_S (hlen : L.1.2.1 < 2 ^ 31) (hA : Det S fL_asks A) (hM : MK S τ) (hs : t_top_isSaved τ = nI 1) (hv : t_saved_f τ = t_forest_f τ) {was : Nat → Int64} : fw_w L A (nI (s_c S)) τ was = some () := by
  obtain ⟨h, hF, hI, hL, hR, u, g, hG⟩ := hM
  unfold fw_w
  exact L702_S hlen h hA 10 0 11 0 u τ S g was (by omega) (by omega) (by omega) ⟨h, hF, hI, hL, hR, hG, hs, by rw [hv]; exact hF⟩ (by omega) (fun t ht => absurd ht (by omega))
end LW
