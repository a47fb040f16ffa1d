/-! a text that was made, as one String more -/
theorem inb_cl {r : Int32} {x n : Nat} (hi : inb r n = true) (hn : n < 2 ^ 31) (ex : x = r.toNatClampNeg) : x < n ∧ r = nI x := by
  obtain ⟨j, hj, rfl⟩ := vp_in_of (inb_in hi) hn
  rw [nI_clamp (by omega)] at ex
  subst ex
  exact ⟨hj, rfl⟩
theorem dgs_le (x : Nat) : dgs x ≤ 2 := by unfold dgs; split <;> omega
theorem sB_len : ∀ i : Fin 17, (sByt.getD i.1 []).length = sLen.getD i.1 0 ∧ sLen.getD i.1 0 ≤ 16 ∧ ∀ j : Fin 16, fits .byte (.int ((sByt.getD i.1 []).getD j.1 0)) = true := by decide +kernel
theorem sB_fit {i : Nat} (hi : i < 17) : sb_Fit (fun j => (sByt.getD i []).getD j 0) := by
  intro j
  obtain ⟨h1, h2, h3⟩ := sB_len ⟨i, hi⟩
  by_cases hj : j < 16
  · exact h3 ⟨j, hj⟩
  · have e : (sByt.getD i []).getD j 0 = 0 := by
      rw [List.getD_eq_getElem?_getD, List.getElem?_eq_none (by show (sByt.getD i []).length ≤ j; rw [h1]; exact Nat.le_trans h2 (by omega))]
      rfl
    show fits .byte (.int ((sByt.getD i []).getD j 0)) = true
    rw [e]
    decide +kernel
section PXS2
variable {s : State} {args : Array Value} {H : Heap} {E : PE} {L : LX} {X : PX} {A0 : Nat → Prop} {gs gc : List va_W} {t r k : Nat} {f : AI}
theorem px_strOf (hts : ∀ w ∈ lw_all, w.before args s = true) (hK : va_K E.1 vwCl (tyE E) s) (hKB : va_K E.1 vwCl (tyE E ++ [(L.2.2.2, .byte)]) s) (hP : va_P E.1 vwCl gs.flatten H) (hD : va_D A0 gs.flatten) (iS : Nat) (hiS : gs[iS]? = some (gS L t r k f)) (iC : List Nat) (hC : iC.map (fun i => gs[i]?) = gc.map some) (hn : va_nd (iC ++ [iS]) = true) (hk : k < 2 ^ 31) : px_Str (t, r, k, f) (va_A gc.flatten H.size) s H := by
  have hCS : (iC ++ [iS]).map (fun i => gs[i]?) = (gc ++ [gS L t r k f]).map some := by rw [List.map_append, List.map_append, hC]; simp [hiS]
  have hP' := g_P hP (iC ++ [iS]) hCS
  have hD' := g_D hD (iC ++ [iS]) hn hCS
  have hPS : va_P E.1 vwCl (gS L t r k f) H := by
    have h := g_P hP [iS] (gs' := [gS L t r k f]) (by simp [hiS])
    rwa [fl1] at h
  rw [List.flatten_append, fl1] at hD'
  have hpw := List.pairwise_append.mp (px_D_iff.mp hD').1
  have hout : ∀ x ∈ gS L t r k f, x.1 < H.size → ¬ va_A gc.flatten H.size x.1 := by
    intro x hx hlt h
    rcases px_A_mem.mp h with ⟨z, hz, he⟩ | h
    · exact hpw.2.2 z hz x hx he
    · omega
  have c1 := hPS 0 _ rfl
  have c2 := hPS 1 _ rfl
  obtain ⟨q, h1, cell, q1, q2, q3, q4⟩ := c1
  have hq : q = (RJ0, TJ0, 4) := Option.some.inj (h1.symm.trans rfl)
  subst hq
  obtain ⟨hSl, hfc, kC, hkC, hkind⟩ := hK.1 9 _ rfl
  have n1 : ¬ va_A gc.flatten H.size t := hout _ (List.mem_cons_self) (Array.getElem?_eq_some_iff.mp q1).1
  have n2 : ¬ va_A gc.flatten H.size r := hout _ (List.mem_cons_of_mem _ List.mem_cons_self) (Array.getElem?_eq_some_iff.mp (show H[r]? = some (vp_cell L.2.2.2 (k, .inl f)) from c2)).1
  have fld : ∀ j, (hj : j < 4) → va_OF (TJ0 j).1 (TJ0 j).2.1 (TJ0 j).2.2.1 (vp_V [.ref r, .int 0, .int 0, .int 0] j) t (va_A gc.flatten H.size) s H := by
    intro j hj
    obtain ⟨cf, kf, fi, fd, hi, hsl⟩ := hSl j hj
    refine ⟨cf, kf, fi, fd, cell, hi, (u_facts hfc hkC (u_lays (args := args) hts iJ0 hj) hi).1, q1, by rw [q3]; exact fun h => by cases h, ?_, n1⟩
    rw [hsl]
    exact q4 j hj
  refine ⟨⟨cell, q1, by rw [q3]; rfl, by rw [q2]; exact hfc, n1⟩, fld 1 (by decide), fld 0 (by decide), ?_⟩
  have c2 : H[r]? = some (vp_cell L.2.2.2 (k, .inl f)) := c2
  refine ⟨_, c2, ?_, ?_, ?_, ?_, ?_, n2⟩
  · rw [vp_cell_i]; exact (hKB.2 3 _ rfl).1 _ _
  · rw [vp_cell_i]; exact fun h => by cases h
  · rw [vp_cell_i, arrV_size]; exact Nat.le_refl _
  · rw [vp_cell_i, arrV_size]; rfl
  · intro j hj
    rw [vp_cell_i]
    show (Array.ofFn (n := k) fun j => Value.int (f j.val))[j]? = _
    simp [hj]
theorem px_one (hX : px_X X A0 s H) {d : PS} (hd : px_Str d A0 s H) : px_X (X.1, X.2.1, [d]) A0 s H := by
  obtain ⟨h1, ⟨h2, h3⟩, h4⟩ := hX
  exact ⟨h1, ⟨h2, fun d' hd' => by rw [List.mem_singleton.mp hd']; exact hd⟩, h4⟩
end PXS2
def fL_changes (L : LX) (x1 : Int32) (τ_o : TO) : Option (Bool × TO) := ((t_account ((nI 1)) (τ_o)).bind fun (r1, w2) => ((fL_some ((x1 >>> ((nI 4) &&& 31))) ((r1 + (nI 1)))).bind fun r4 => ((t_account ((nI 0)) (w2)).bind fun (r6, w7) => ((fL_some ((x1 >>> ((nI 6) &&& 31))) ((r6 + (nI 1)))).bind fun r9 => ((fL_some ((x1 >>> ((nI 9) &&& 31))) ((nI 5))).bind fun r11 => ((fL_some (x1) ((nI 18))).bind fun r13 => (if r13 = nI 0 then ((fL_some ((x1 >>> ((nI 7) &&& 31))) ((nI 7))).bind fun r16 => ((fL_some ((x1 >>> ((nI 5) &&& 31))) ((nI 101))).bind fun r18 => ((t_edit (r4) (r16) (r18) (w7)).bind fun (r20, w21) => (if r20 < 0 then (some (false, w21)) else (some (true, w21)))))) else (if r13 = nI 1 then ((fL_some ((x1 >>> ((nI 7) &&& 31))) ((nI 7))).bind fun r25 => ((fL_some ((x1 >>> ((nI 5) &&& 31))) ((nI 101))).bind fun r27 => ((t_edit (r4) (r25) (r27) (w7)).bind fun (r29, w30) => (if r29 < 0 then (some (false, w30)) else (some (true, w30)))))) else (if r13 = nI 2 then ((fL_some ((x1 >>> ((nI 7) &&& 31))) ((nI 7))).bind fun r34 => ((fL_some ((x1 >>> ((nI 5) &&& 31))) ((nI 101))).bind fun r36 => ((t_edit (r4) (r34) (r36) (w7)).bind fun (r38, w39) => (if r38 < 0 then (some (false, w39)) else (some (true, w39)))))) else (if r13 = nI 3 then ((fL_some ((x1 >>> ((nI 7) &&& 31))) ((nI 7))).bind fun r43 => ((fL_some ((x1 >>> ((nI 5) &&& 31))) ((nI 101))).bind fun r45 => ((t_edit (r4) (r43) (r45) (w7)).bind fun (r47, w48) => (if r47 < 0 then (some (false, w48)) else (some (true, w48)))))) else (if r13 = nI 4 then ((t_fork (r4) (w7)).bind fun (r52, w53) => (if r52 < 0 then (some (false, w53)) else (some (true, w53)))) else (if r13 = nI 5 then ((t_reset (r4) (r9) (w7)).bind fun (r57, w58) => (if r57 < 0 then (some (false, w58)) else (some (true, w58)))) else (if r13 = nI 6 then ((t_account ((nI 1)) (w7)).bind fun (r62, w63) => ((fL_some ((x1 >>> ((nI 11) &&& 31))) ((r62 + (nI 1)))).bind fun r65 => ((t_merge (r4) (r65) (r11) (w63)).bind fun (r67, w68) => (if r67 < 0 then (some (false, w68)) else (some (true, w68)))))) else (if r13 = nI 7 then ((t_account ((nI 1)) (w7)).bind fun (r72, w73) => ((fL_some ((x1 >>> ((nI 11) &&& 31))) ((r72 + (nI 1)))).bind fun r75 => ((t_merge (r4) (r75) (r11) (w73)).bind fun (r77, w78) => (if r77 < 0 then (some (false, w78)) else (some (true, w78)))))) else (if r13 = nI 8 then ((t_pick (r4) (r9) (r11) (w7)).bind fun (r82, w83) => (if r82 < 0 then (some (false, w83)) else (some (true, w83)))) else (if r13 = nI 9 then ((t_pick (r4) (r9) (r11) (w7)).bind fun (r87, w88) => (if r87 < 0 then (some (false, w88)) else (some (true, w88)))) else (if r13 = nI 10 then ((t_revert (r4) (r9) (r11) (w7)).bind fun (r92, w93) => (if r92 < 0 then (some (false, w93)) else (some (true, w93)))) else (if r13 = nI 11 then ((t_revert (r4) (r9) (r11) (w7)).bind fun (r97, w98) => (if r97 < 0 then (some (false, w98)) else (some (true, w98)))) else (if r13 = nI 12 then ((fL_some ((x1 >>> ((nI 4) &&& 31))) ((nI 4))).bind fun r102 => ((t_bundle (r102) (w7)).bind fun (r104, w105) => (if r104 < 0 then (some (false, w105)) else (some (true, w105))))) else (if r13 = nI 13 then ((fL_some ((x1 >>> ((nI 4) &&& 31))) ((nI 5))).bind fun r109 => ((t_put (r109) (r9) (w7)).bind fun (r111, w112) => (if r111 < 0 then (some (false, w112)) else (some (true, w112))))) else (if r13 = nI 14 then ((fL_some ((x1 >>> ((nI 4) &&& 31))) ((nI 5))).bind fun r116 => ((t_put (r116) (r9) (w7)).bind fun (r118, w119) => (if r118 < 0 then (some (false, w119)) else (some (true, w119))))) else (if r13 = nI 15 then ((t_play (r4) (r11) (w7)).bind fun (r123, w124) => (if r123 < 0 then (some (false, w124)) else (some (true, w124)))) else (if ((x1 >>> ((nI 6) &&& 31)) &&& (nI 1)) = 0 then ((fL_some ((x1 >>> ((nI 4) &&& 31))) ((nI 3))).bind fun r150 => (if inb r150 100 = true then (lt ((r150).toNatClampNeg) fun xs153 => ((fL_some ((x1 >>> ((nI 7) &&& 31))) ((nI 6))).bind fun r156 => (if inb r156 100 = true then (lt ((r156).toNatClampNeg) fun xs159 => ((fL_some ((x1 >>> ((nI 5) &&& 31))) ((nI 100))).bind fun r162 => (if inb r162 100 = true then (lt ((r162).toNatClampNeg) fun xs165 => ((fL_reads ((0 + (sLen.getD 6 0) + dgs xs153 + (sLen.getD 7 0) + dgs xs159 + (sLen.getD 8 0) + dgs xs165 + (sLen.getD 9 0))) ((va_cpy (va_cpy (fun j => (sByt.getD 9 []).getD j 0) (gff L (va_cpy (fun j => (sByt.getD 8 []).getD j 0) (gff L (va_cpy (fun j => (sByt.getD 7 []).getD j 0) (gff L (va_cpy (fun j => (sByt.getD 6 []).getD j 0) (fun _ => 0) 0 (0) (sLen.getD 6 0)) (0 + (sLen.getD 6 0) + dgs xs153) xs153) 0 (0 + (sLen.getD 6 0) + dgs xs153) (sLen.getD 7 0)) (0 + (sLen.getD 6 0) + dgs xs153 + (sLen.getD 7 0) + dgs xs159) xs159) 0 (0 + (sLen.getD 6 0) + dgs xs153 + (sLen.getD 7 0) + dgs xs159) (sLen.getD 8 0)) (0 + (sLen.getD 6 0) + dgs xs153 + (sLen.getD 7 0) + dgs xs159 + (sLen.getD 8 0) + dgs xs165) xs165) 0 (0 + (sLen.getD 6 0) + dgs xs153 + (sLen.getD 7 0) + dgs xs159 + (sLen.getD 8 0) + dgs xs165) (sLen.getD 9 0)) (fun _ => 0) 0 0 (0 + (sLen.getD 6 0) + dgs xs153 + (sLen.getD 7 0) + dgs xs159 + (sLen.getD 8 0) + dgs xs165 + (sLen.getD 9 0)))) (w7)).bind fun (r168, w169) => (if r168 < 0 then (some (false, w169)) else (some (true, w169))))) else none))) else none))) else none)) else ((fL_some ((x1 >>> ((nI 4) &&& 31))) ((nI 3))).bind fun r128 => (if inb r128 100 = true then (lt ((r128).toNatClampNeg) fun xs131 => ((fL_some ((x1 >>> ((nI 7) &&& 31))) ((nI 3))).bind fun r134 => (if inb r134 100 = true then (lt ((r134).toNatClampNeg) fun xs137 => ((fL_some ((x1 >>> ((nI 9) &&& 31))) ((nI 4))).bind fun r140 => (if inb r140 100 = true then (lt ((r140).toNatClampNeg) fun xs143 => ((fL_reads ((0 + (sLen.getD 10 0) + dgs xs131 + (sLen.getD 11 0) + dgs xs137 + (sLen.getD 12 0) + dgs xs143)) ((va_cpy (gff L (va_cpy (fun j => (sByt.getD 12 []).getD j 0) (gff L (va_cpy (fun j => (sByt.getD 11 []).getD j 0) (gff L (va_cpy (fun j => (sByt.getD 10 []).getD j 0) (fun _ => 0) 0 (0) (sLen.getD 10 0)) (0 + (sLen.getD 10 0) + dgs xs131) xs131) 0 (0 + (sLen.getD 10 0) + dgs xs131) (sLen.getD 11 0)) (0 + (sLen.getD 10 0) + dgs xs131 + (sLen.getD 11 0) + dgs xs137) xs137) 0 (0 + (sLen.getD 10 0) + dgs xs131 + (sLen.getD 11 0) + dgs xs137) (sLen.getD 12 0)) (0 + (sLen.getD 10 0) + dgs xs131 + (sLen.getD 11 0) + dgs xs137 + (sLen.getD 12 0) + dgs xs143) xs143) (fun _ => 0) 0 0 (0 + (sLen.getD 10 0) + dgs xs131 + (sLen.getD 11 0) + dgs xs137 + (sLen.getD 12 0) + dgs xs143))) (w7)).bind fun (r146, w147) => (if r146 < 0 then (some (false, w147)) else (some (true, w147))))) else none))) else none))) else none)))))))))))))))))))))))))
set_option maxHeartbeats 4000000 in
set_option maxRecDepth 100000 in
theorem mL_changes (l : Launch) (hlt : l.stackTraces = false) (E : PE) (X : PX) (L : LX) (b_o : Nat → Nat → Nat)  (x1 : Int32) (τ_o : TO) (r : Bool) (z_o_τ : TO) (h : fL_changes L x1 τ_o = some (r, z_o_τ)) : MZ l yL_changes cL_changes 5 (some .boolean) { frames := 10, cells := 69, slots := 430, locals := 211 } E X L [.ref (b_o 0 0), .int x1] ([gO E b_o τ_o] : List va_W).flatten 69 430 (some (.int (b2i r))) ([gO E b_o z_o_τ] : List va_W).flatten := by
  refine px_startZ (by decide +kernel) (Nat.le_of_ble_eq_true rfl) ?_
  intro p e s m args below meth c R Q A ls hC hX hL hA0 hQ
  obtain ⟨hx, hb, hr, hml, hts, hown, hlocks, hR, hK, hN, hP, hD, hA, hl, hin⟩ := hC
  have hl : lv_has ls 5 [(0, .ref (b_o 0 0)), (1, .int x1)] := hl
  suffices key : ∀ (H : Heap) (locs : List Loc), va_P E.1 vwCl ([gO E b_o τ_o] : List va_W).flatten H → va_S A s.heap H locs → W p l e R s m args below meth c H locs 0 0 Q (F0 m 0 ls []) from key s.heap [] hP va_S.rf
  unfold fL_changes at h
  intro H locs hP hS
  refine lv_iload_n hx hb dL_changes_0 rfl (lv_at hl 1 rfl) ?_
  refine lv_iconst (v := (nI 4)) hx hb dL_changes_1 (by decide) ?_
  refine lv_ishr hx hb dL_changes_2 ?_
  refine lv_aload_n hx hb dL_changes_3 rfl (lv_at hl 0 rfl) ?_
  refine lv_iconst (v := (nI 1)) hx hb dL_changes_4 (by decide) ?_
  obtain ⟨⟨r1, w2⟩, hr3, h⟩ := ob h
  dsimp only at h
  refine px_SL (As := [.ref (b_o 0 0), .int (nI 1)]) (rest := [.int (x1 >>> ((nI 4) &&& 31))]) (gs := ([gO E b_o τ_o] : List va_W)) (gr := ([] : List va_W)) (gc := ([gO E b_o τ_o] : List va_W)) (g1 := ([gO E b_o w2] : List va_W)) (g2 := ([gO E b_o w2] : List va_W)) ⟨hx, hb, hml, hown, hts⟩ (mT_account l hlt E X L b_o ((nI 1))  (τ_o) r1 w2 hr3) (vx_cwSW 2 hts (wsw_s q848 q849 q17 q850) rfl rfl rfl hdS_L_account (by rw [hR]; first | exact ⟨Nat.le_of_ble_eq_true rfl, Nat.le_of_ble_eq_true rfl⟩ | exact ⟨by show _ ≤ (69 : Nat); omega, by show _ ≤ (430 : Nat); omega⟩)) hK hN hX hL hP hD hS hA [] [0] [0] rfl rfl (by decide) (by decide) rfl (by decide) rfl hl.1 rfl (Nat.le_of_ble_eq_true rfl) dL_changes_5 (by rw [hR]; first | exact ⟨Nat.le_of_ble_eq_true rfl, Nat.le_of_ble_eq_true rfl⟩ | exact ⟨by show _ ≤ (69 : Nat); omega, by show _ ≤ (430 : Nat); omega⟩) (fun H locs hP hD hS => ?_)
  refine W.eq (g2 := F0 m 8 ls [.int r1, .int (x1 >>> ((nI 4) &&& 31))]) rfl ?_
  refine lv_iconst (v := (nI 1)) hx hb dL_changes_8 (by decide) ?_
  refine lv_iadd hx hb dL_changes_9 ?_
  obtain ⟨r4, hr5, h⟩ := ob h
  refine px_Sp (As := [.int (x1 >>> ((nI 4) &&& 31)), .int (r1 + (nI 1))]) (rest := []) (gs := ([gO E b_o w2] : List va_W)) (gc := ([] : List va_W)) ⟨hx, hb, hml, hown, hts⟩ (mL_some l E   ((x1 >>> ((nI 4) &&& 31))) ((r1 + (nI 1)))  r4 hr5) (va_cwS 2 hts (ws_s q931 q932 q17 q933) rfl rfl rfl hdS_L_some (by rw [hR]; first | exact ⟨Nat.le_of_ble_eq_true rfl, Nat.le_of_ble_eq_true rfl⟩ | exact ⟨by show _ ≤ (69 : Nat); omega, by show _ ≤ (430 : Nat); omega⟩)) hK hN hP hD [] rfl (by decide) rfl hl.1 rfl (Nat.le_of_ble_eq_true rfl) dL_changes_10 (by rw [hR]; first | exact ⟨Nat.le_of_ble_eq_true rfl, Nat.le_of_ble_eq_true rfl⟩ | exact ⟨by show _ ≤ (69 : Nat); omega, by show _ ≤ (430 : Nat); omega⟩) ?_
  refine W.eq (g2 := F0 m 13 ls [.int r4]) rfl ?_
  refine lv_istore_n (lv' := [(2, .int r4), (0, .ref (b_o 0 0)), (1, .int x1)]) hx hb dL_changes_13 rfl hl (by decide) rfl (fun ls hl => ?_)
  refine lv_iload_n hx hb dL_changes_14 rfl (lv_at hl 2 rfl) ?_
  refine lv_bipush (v := (nI 6)) hx hb dL_changes_15 (by decide) ?_
  refine lv_ishr hx hb dL_changes_17 ?_
  refine lv_aload_n hx hb dL_changes_18 rfl (lv_at hl 1 rfl) ?_
  refine lv_iconst (v := (nI 0)) hx hb dL_changes_19 (by decide) ?_
  obtain ⟨⟨r6, w7⟩, hr8, h⟩ := ob h
  dsimp only at h
  refine px_SL (As := [.ref (b_o 0 0), .int (nI 0)]) (rest := [.int (x1 >>> ((nI 6) &&& 31))]) (gs := ([gO E b_o w2] : List va_W)) (gr := ([] : List va_W)) (gc := ([gO E b_o w2] : List va_W)) (g1 := ([gO E b_o w7] : List va_W)) (g2 := ([gO E b_o w7] : List va_W)) ⟨hx, hb, hml, hown, hts⟩ (mT_account l hlt E X L b_o ((nI 0))  (w2) r6 w7 hr8) (vx_cwSW 2 hts (wsw_s q848 q849 q17 q850) rfl rfl rfl hdS_L_account (by rw [hR]; first | exact ⟨Nat.le_of_ble_eq_true rfl, Nat.le_of_ble_eq_true rfl⟩ | exact ⟨by show _ ≤ (69 : Nat); omega, by show _ ≤ (430 : Nat); omega⟩)) hK hN hX hL hP hD hS hA [] [0] [0] rfl rfl (by decide) (by decide) rfl (by decide) rfl hl.1 rfl (Nat.le_of_ble_eq_true rfl) dL_changes_20 (by rw [hR]; first | exact ⟨Nat.le_of_ble_eq_true rfl, Nat.le_of_ble_eq_true rfl⟩ | exact ⟨by show _ ≤ (69 : Nat); omega, by show _ ≤ (430 : Nat); omega⟩) (fun H locs hP hD hS => ?_)
  refine W.eq (g2 := F0 m 23 ls [.int r6, .int (x1 >>> ((nI 6) &&& 31))]) rfl ?_
  refine lv_iconst (v := (nI 1)) hx hb dL_changes_23 (by decide) ?_
  refine lv_iadd hx hb dL_changes_24 ?_
  obtain ⟨r9, hr10, h⟩ := ob h
  refine px_Sp (As := [.int (x1 >>> ((nI 6) &&& 31)), .int (r6 + (nI 1))]) (rest := []) (gs := ([gO E b_o w7] : List va_W)) (gc := ([] : List va_W)) ⟨hx, hb, hml, hown, hts⟩ (mL_some l E   ((x1 >>> ((nI 6) &&& 31))) ((r6 + (nI 1)))  r9 hr10) (va_cwS 2 hts (ws_s q931 q932 q17 q933) rfl rfl rfl hdS_L_some (by rw [hR]; first | exact ⟨Nat.le_of_ble_eq_true rfl, Nat.le_of_ble_eq_true rfl⟩ | exact ⟨by show _ ≤ (69 : Nat); omega, by show _ ≤ (430 : Nat); omega⟩)) hK hN hP hD [] rfl (by decide) rfl hl.1 rfl (Nat.le_of_ble_eq_true rfl) dL_changes_25 (by rw [hR]; first | exact ⟨Nat.le_of_ble_eq_true rfl, Nat.le_of_ble_eq_true rfl⟩ | exact ⟨by show _ ≤ (69 : Nat); omega, by show _ ≤ (430 : Nat); omega⟩) ?_
  refine W.eq (g2 := F0 m 28 ls [.int r9]) rfl ?_
  refine lv_istore_n (lv' := [(3, .int r9), (2, .int r4), (0, .ref (b_o 0 0)), (1, .int x1)]) hx hb dL_changes_28 rfl hl (by decide) rfl (fun ls hl => ?_)
  refine lv_iload_n hx hb dL_changes_29 rfl (lv_at hl 3 rfl) ?_
  refine lv_bipush (v := (nI 9)) hx hb dL_changes_30 (by decide) ?_
  refine lv_ishr hx hb dL_changes_32 ?_
  refine lv_iconst (v := (nI 5)) hx hb dL_changes_33 (by decide) ?_
  obtain ⟨r11, hr12, h⟩ := ob h
  refine px_Sp (As := [.int (x1 >>> ((nI 9) &&& 31)), .int (nI 5)]) (rest := []) (gs := ([gO E b_o w7] : List va_W)) (gc := ([] : List va_W)) ⟨hx, hb, hml, hown, hts⟩ (mL_some l E   ((x1 >>> ((nI 9) &&& 31))) ((nI 5))  r11 hr12) (va_cwS 2 hts (ws_s q931 q932 q17 q933) rfl rfl rfl hdS_L_some (by rw [hR]; first | exact ⟨Nat.le_of_ble_eq_true rfl, Nat.le_of_ble_eq_true rfl⟩ | exact ⟨by show _ ≤ (69 : Nat); omega, by show _ ≤ (430 : Nat); omega⟩)) hK hN hP hD [] rfl (by decide) rfl hl.1 rfl (Nat.le_of_ble_eq_true rfl) dL_changes_34 (by rw [hR]; first | exact ⟨Nat.le_of_ble_eq_true rfl, Nat.le_of_ble_eq_true rfl⟩ | exact ⟨by show _ ≤ (69 : Nat); omega, by show _ ≤ (430 : Nat); omega⟩) ?_
  refine W.eq (g2 := F0 m 37 ls [.int r11]) rfl ?_
  refine lv_istore (lv' := [(4, .int r11), (3, .int r9), (2, .int r4), (0, .ref (b_o 0 0)), (1, .int x1)]) hx hb dL_changes_37 hl (by decide) rfl (fun ls hl => ?_)
  refine lv_iload_n hx hb dL_changes_39 rfl (lv_at hl 4 rfl) ?_
  refine lv_bipush (v := (nI 18)) hx hb dL_changes_40 (by decide) ?_
  obtain ⟨r13, hr14, h⟩ := ob h
  refine px_Sp (As := [.int x1, .int (nI 18)]) (rest := []) (gs := ([gO E b_o w7] : List va_W)) (gc := ([] : List va_W)) ⟨hx, hb, hml, hown, hts⟩ (mL_some l E   (x1) ((nI 18))  r13 hr14) (va_cwS 2 hts (ws_s q931 q932 q17 q933) rfl rfl rfl hdS_L_some (by rw [hR]; first | exact ⟨Nat.le_of_ble_eq_true rfl, Nat.le_of_ble_eq_true rfl⟩ | exact ⟨by show _ ≤ (69 : Nat); omega, by show _ ≤ (430 : Nat); omega⟩)) hK hN hP hD [] rfl (by decide) rfl hl.1 rfl (Nat.le_of_ble_eq_true rfl) dL_changes_42 (by rw [hR]; first | exact ⟨Nat.le_of_ble_eq_true rfl, Nat.le_of_ble_eq_true rfl⟩ | exact ⟨by show _ ≤ (69 : Nat); omega, by show _ ≤ (430 : Nat); omega⟩) ?_
  refine W.eq (g2 := F0 m 45 ls [.int r13]) rfl ?_
  by_cases c15 : r13 = nI 0
  · rw [if_pos c15] at h
    refine lv_tableIn (off := 79) (tgt := 124) hx hb dL_changes_45 (by rw [c15]; decide) (by rw [c15]; decide) (by rw [c15]; rfl) (by decide) ?_
    refine lv_aload_n hx hb dL_changes_124 rfl (lv_at hl 3 rfl) ?_
    refine lv_iload_n hx hb dL_changes_125 rfl (lv_at hl 2 rfl) ?_
    refine lv_iload_n hx hb dL_changes_126 rfl (lv_at hl 4 rfl) ?_
    refine lv_bipush (v := (nI 7)) hx hb dL_changes_127 (by decide) ?_
    refine lv_ishr hx hb dL_changes_129 ?_
    refine lv_bipush (v := (nI 7)) hx hb dL_changes_130 (by decide) ?_
    obtain ⟨r16, hr17, h⟩ := ob h
    refine px_Sp (As := [.int (x1 >>> ((nI 7) &&& 31)), .int (nI 7)]) (rest := [.int r4, .ref (b_o 0 0)]) (gs := ([gO E b_o w7] : List va_W)) (gc := ([] : List va_W)) ⟨hx, hb, hml, hown, hts⟩ (mL_some l E   ((x1 >>> ((nI 7) &&& 31))) ((nI 7))  r16 hr17) (va_cwS 2 hts (ws_s q931 q932 q17 q933) rfl rfl rfl hdS_L_some (by rw [hR]; first | exact ⟨Nat.le_of_ble_eq_true rfl, Nat.le_of_ble_eq_true rfl⟩ | exact ⟨by show _ ≤ (69 : Nat); omega, by show _ ≤ (430 : Nat); omega⟩)) hK hN hP hD [] rfl (by decide) rfl hl.1 rfl (Nat.le_of_ble_eq_true rfl) dL_changes_132 (by rw [hR]; first | exact ⟨Nat.le_of_ble_eq_true rfl, Nat.le_of_ble_eq_true rfl⟩ | exact ⟨by show _ ≤ (69 : Nat); omega, by show _ ≤ (430 : Nat); omega⟩) ?_
    refine W.eq (g2 := F0 m 135 ls [.int r16, .int r4, .ref (b_o 0 0)]) rfl ?_
    refine lv_iload_n hx hb dL_changes_135 rfl (lv_at hl 4 rfl) ?_
    refine lv_iconst (v := (nI 5)) hx hb dL_changes_136 (by decide) ?_
    refine lv_ishr hx hb dL_changes_137 ?_
    refine lv_bipush (v := (nI 101)) hx hb dL_changes_138 (by decide) ?_
    obtain ⟨r18, hr19, h⟩ := ob h
    refine px_Sp (As := [.int (x1 >>> ((nI 5) &&& 31)), .int (nI 101)]) (rest := [.int r16, .int r4, .ref (b_o 0 0)]) (gs := ([gO E b_o w7] : List va_W)) (gc := ([] : List va_W)) ⟨hx, hb, hml, hown, hts⟩ (mL_some l E   ((x1 >>> ((nI 5) &&& 31))) ((nI 101))  r18 hr19) (va_cwS 2 hts (ws_s q931 q932 q17 q933) rfl rfl rfl hdS_L_some (by rw [hR]; first | exact ⟨Nat.le_of_ble_eq_true rfl, Nat.le_of_ble_eq_true rfl⟩ | exact ⟨by show _ ≤ (69 : Nat); omega, by show _ ≤ (430 : Nat); omega⟩)) hK hN hP hD [] rfl (by decide) rfl hl.1 rfl (Nat.le_of_ble_eq_true rfl) dL_changes_140 (by rw [hR]; first | exact ⟨Nat.le_of_ble_eq_true rfl, Nat.le_of_ble_eq_true rfl⟩ | exact ⟨by show _ ≤ (69 : Nat); omega, by show _ ≤ (430 : Nat); omega⟩) ?_
    refine W.eq (g2 := F0 m 143 ls [.int r18, .int r16, .int r4, .ref (b_o 0 0)]) rfl ?_
    obtain ⟨⟨r20, w21⟩, hr22, h⟩ := ob h
    dsimp only at h
    refine px_SL (As := [.ref (b_o 0 0), .int r4, .int r16, .int r18]) (rest := []) (gs := ([gO E b_o w7] : List va_W)) (gr := ([] : List va_W)) (gc := ([gO E b_o w7] : List va_W)) (g1 := ([gO E b_o w21] : List va_W)) (g2 := ([gO E b_o w21] : List va_W)) ⟨hx, hb, hml, hown, hts⟩ (mT_edit l hlt E X L b_o (r4) (r16) (r18)  (w7) r20 w21 hr22) (vx_cwSW 4 hts (wsw_s q270 q271 q17 q272) rfl rfl rfl hdS_L_edit (by rw [hR]; first | exact ⟨Nat.le_of_ble_eq_true rfl, Nat.le_of_ble_eq_true rfl⟩ | exact ⟨by show _ ≤ (69 : Nat); omega, by show _ ≤ (430 : Nat); omega⟩)) hK hN hX hL hP hD hS hA [] [0] [0] rfl rfl (by decide) (by decide) rfl (by decide) rfl hl.1 rfl (Nat.le_of_ble_eq_true rfl) dL_changes_143 (by rw [hR]; first | exact ⟨Nat.le_of_ble_eq_true rfl, Nat.le_of_ble_eq_true rfl⟩ | exact ⟨by show _ ≤ (69 : Nat); omega, by show _ ≤ (430 : Nat); omega⟩) (fun H locs hP hD hS => ?_)
    refine W.eq (g2 := F0 m 146 ls [.int r20]) rfl ?_
    refine lv_if_lt (tgt := 153) hx hb dL_changes_146 (by decide) (fun c23 => ?_) (fun c23 => ?_)
    · rw [if_pos c23] at h
      refine lv_iconst (v := (nI 0)) hx hb dL_changes_153 (by decide) ?_
      cases h
      refine W.eq (g2 := F0 m 154 ls [.int (b2i false)]) rfl ?_
      refine W.widen (k := 69) (n := 430) (by omega) (by omega) ?_
      exact px_eWz (b2i_n _) hA0 hQ hP hD hS hx hb hr hlocks dL_changes_154
    · rw [if_neg c23] at h
      refine lv_iconst (v := (nI 1)) hx hb dL_changes_149 (by decide) ?_
      refine lv_goto (tgt := 154) hx hb dL_changes_150 (by decide) ?_
      cases h
      refine W.eq (g2 := F0 m 154 ls [.int (b2i true)]) rfl ?_
      refine W.widen (k := 69) (n := 430) (by omega) (by omega) ?_
      exact px_eWz (b2i_n _) hA0 hQ hP hD hS hx hb hr hlocks dL_changes_154
  · rw [if_neg c15] at h
    by_cases c24 : r13 = nI 1
    · rw [if_pos c24] at h
      refine lv_tableIn (off := 79) (tgt := 124) hx hb dL_changes_45 (by rw [c24]; decide) (by rw [c24]; decide) (by rw [c24]; rfl) (by decide) ?_
      refine lv_aload_n hx hb dL_changes_124 rfl (lv_at hl 3 rfl) ?_
      refine lv_iload_n hx hb dL_changes_125 rfl (lv_at hl 2 rfl) ?_
      refine lv_iload_n hx hb dL_changes_126 rfl (lv_at hl 4 rfl) ?_
      refine lv_bipush (v := (nI 7)) hx hb dL_changes_127 (by decide) ?_
      refine lv_ishr hx hb dL_changes_129 ?_
      refine lv_bipush (v := (nI 7)) hx hb dL_changes_130 (by decide) ?_
      obtain ⟨r25, hr26, h⟩ := ob h
      refine px_Sp (As := [.int (x1 >>> ((nI 7) &&& 31)), .int (nI 7)]) (rest := [.int r4, .ref (b_o 0 0)]) (gs := ([gO E b_o w7] : List va_W)) (gc := ([] : List va_W)) ⟨hx, hb, hml, hown, hts⟩ (mL_some l E   ((x1 >>> ((nI 7) &&& 31))) ((nI 7))  r25 hr26) (va_cwS 2 hts (ws_s q931 q932 q17 q933) rfl rfl rfl hdS_L_some (by rw [hR]; first | exact ⟨Nat.le_of_ble_eq_true rfl, Nat.le_of_ble_eq_true rfl⟩ | exact ⟨by show _ ≤ (69 : Nat); omega, by show _ ≤ (430 : Nat); omega⟩)) hK hN hP hD [] rfl (by decide) rfl hl.1 rfl (Nat.le_of_ble_eq_true rfl) dL_changes_132 (by rw [hR]; first | exact ⟨Nat.le_of_ble_eq_true rfl, Nat.le_of_ble_eq_true rfl⟩ | exact ⟨by show _ ≤ (69 : Nat); omega, by show _ ≤ (430 : Nat); omega⟩) ?_
      refine W.eq (g2 := F0 m 135 ls [.int r25, .int r4, .ref (b_o 0 0)]) rfl ?_
      refine lv_iload_n hx hb dL_changes_135 rfl (lv_at hl 4 rfl) ?_
      refine lv_iconst (v := (nI 5)) hx hb dL_changes_136 (by decide) ?_
      refine lv_ishr hx hb dL_changes_137 ?_
      refine lv_bipush (v := (nI 101)) hx hb dL_changes_138 (by decide) ?_
      obtain ⟨r27, hr28, h⟩ := ob h
      refine px_Sp (As := [.int (x1 >>> ((nI 5) &&& 31)), .int (nI 101)]) (rest := [.int r25, .int r4, .ref (b_o 0 0)]) (gs := ([gO E b_o w7] : List va_W)) (gc := ([] : List va_W)) ⟨hx, hb, hml, hown, hts⟩ (mL_some l E   ((x1 >>> ((nI 5) &&& 31))) ((nI 101))  r27 hr28) (va_cwS 2 hts (ws_s q931 q932 q17 q933) rfl rfl rfl hdS_L_some (by rw [hR]; first | exact ⟨Nat.le_of_ble_eq_true rfl, Nat.le_of_ble_eq_true rfl⟩ | exact ⟨by show _ ≤ (69 : Nat); omega, by show _ ≤ (430 : Nat); omega⟩)) hK hN hP hD [] rfl (by decide) rfl hl.1 rfl (Nat.le_of_ble_eq_true rfl) dL_changes_140 (by rw [hR]; first | exact ⟨Nat.le_of_ble_eq_true rfl, Nat.le_of_ble_eq_true rfl⟩ | exact ⟨by show _ ≤ (69 : Nat); omega, by show _ ≤ (430 : Nat); omega⟩) ?_
      refine W.eq (g2 := F0 m 143 ls [.int r27, .int r25, .int r4, .ref (b_o 0 0)]) rfl ?_
      obtain ⟨⟨r29, w30⟩, hr31, h⟩ := ob h
      dsimp only at h
      refine px_SL (As := [.ref (b_o 0 0), .int r4, .int r25, .int r27]) (rest := []) (gs := ([gO E b_o w7] : List va_W)) (gr := ([] : List va_W)) (gc := ([gO E b_o w7] : List va_W)) (g1 := ([gO E b_o w30] : List va_W)) (g2 := ([gO E b_o w30] : List va_W)) ⟨hx, hb, hml, hown, hts⟩ (mT_edit l hlt E X L b_o (r4) (r25) (r27)  (w7) r29 w30 hr31) (vx_cwSW 4 hts (wsw_s q270 q271 q17 q272) rfl rfl rfl hdS_L_edit (by rw [hR]; first | exact ⟨Nat.le_of_ble_eq_true rfl, Nat.le_of_ble_eq_true rfl⟩ | exact ⟨by show _ ≤ (69 : Nat); omega, by show _ ≤ (430 : Nat); omega⟩)) hK hN hX hL hP hD hS hA [] [0] [0] rfl rfl (by decide) (by decide) rfl (by decide) rfl hl.1 rfl (Nat.le_of_ble_eq_true rfl) dL_changes_143 (by rw [hR]; first | exact ⟨Nat.le_of_ble_eq_true rfl, Nat.le_of_ble_eq_true rfl⟩ | exact ⟨by show _ ≤ (69 : Nat); omega, by show _ ≤ (430 : Nat); omega⟩) (fun H locs hP hD hS => ?_)
      refine W.eq (g2 := F0 m 146 ls [.int r29]) rfl ?_
      refine lv_if_lt (tgt := 153) hx hb dL_changes_146 (by decide) (fun c32 => ?_) (fun c32 => ?_)
      · rw [if_pos c32] at h
        refine lv_iconst (v := (nI 0)) hx hb dL_changes_153 (by decide) ?_
        cases h
        refine W.eq (g2 := F0 m 154 ls [.int (b2i false)]) rfl ?_
        refine W.widen (k := 69) (n := 430) (by omega) (by omega) ?_
        exact px_eWz (b2i_n _) hA0 hQ hP hD hS hx hb hr hlocks dL_changes_154
      · rw [if_neg c32] at h
        refine lv_iconst (v := (nI 1)) hx hb dL_changes_149 (by decide) ?_
        refine lv_goto (tgt := 154) hx hb dL_changes_150 (by decide) ?_
        cases h
        refine W.eq (g2 := F0 m 154 ls [.int (b2i true)]) rfl ?_
        refine W.widen (k := 69) (n := 430) (by omega) (by omega) ?_
        exact px_eWz (b2i_n _) hA0 hQ hP hD hS hx hb hr hlocks dL_changes_154
    · rw [if_neg c24] at h
      by_cases c33 : r13 = nI 2
      · rw [if_pos c33] at h
        refine lv_tableIn (off := 79) (tgt := 124) hx hb dL_changes_45 (by rw [c33]; decide) (by rw [c33]; decide) (by rw [c33]; rfl) (by decide) ?_
        refine lv_aload_n hx hb dL_changes_124 rfl (lv_at hl 3 rfl) ?_
        refine lv_iload_n hx hb dL_changes_125 rfl (lv_at hl 2 rfl) ?_
        refine lv_iload_n hx hb dL_changes_126 rfl (lv_at hl 4 rfl) ?_
        refine lv_bipush (v := (nI 7)) hx hb dL_changes_127 (by decide) ?_
        refine lv_ishr hx hb dL_changes_129 ?_
        refine lv_bipush (v := (nI 7)) hx hb dL_changes_130 (by decide) ?_
        obtain ⟨r34, hr35, h⟩ := ob h
        refine px_Sp (As := [.int (x1 >>> ((nI 7) &&& 31)), .int (nI 7)]) (rest := [.int r4, .ref (b_o 0 0)]) (gs := ([gO E b_o w7] : List va_W)) (gc := ([] : List va_W)) ⟨hx, hb, hml, hown, hts⟩ (mL_some l E   ((x1 >>> ((nI 7) &&& 31))) ((nI 7))  r34 hr35) (va_cwS 2 hts (ws_s q931 q932 q17 q933) rfl rfl rfl hdS_L_some (by rw [hR]; first | exact ⟨Nat.le_of_ble_eq_true rfl, Nat.le_of_ble_eq_true rfl⟩ | exact ⟨by show _ ≤ (69 : Nat); omega, by show _ ≤ (430 : Nat); omega⟩)) hK hN hP hD [] rfl (by decide) rfl hl.1 rfl (Nat.le_of_ble_eq_true rfl) dL_changes_132 (by rw [hR]; first | exact ⟨Nat.le_of_ble_eq_true rfl, Nat.le_of_ble_eq_true rfl⟩ | exact ⟨by show _ ≤ (69 : Nat); omega, by show _ ≤ (430 : Nat); omega⟩) ?_
        refine W.eq (g2 := F0 m 135 ls [.int r34, .int r4, .ref (b_o 0 0)]) rfl ?_
        refine lv_iload_n hx hb dL_changes_135 rfl (lv_at hl 4 rfl) ?_
        refine lv_iconst (v := (nI 5)) hx hb dL_changes_136 (by decide) ?_
        refine lv_ishr hx hb dL_changes_137 ?_
        refine lv_bipush (v := (nI 101)) hx hb dL_changes_138 (by decide) ?_
        obtain ⟨r36, hr37, h⟩ := ob h
        refine px_Sp (As := [.int (x1 >>> ((nI 5) &&& 31)), .int (nI 101)]) (rest := [.int r34, .int r4, .ref (b_o 0 0)]) (gs := ([gO E b_o w7] : List va_W)) (gc := ([] : List va_W)) ⟨hx, hb, hml, hown, hts⟩ (mL_some l E   ((x1 >>> ((nI 5) &&& 31))) ((nI 101))  r36 hr37) (va_cwS 2 hts (ws_s q931 q932 q17 q933) rfl rfl rfl hdS_L_some (by rw [hR]; first | exact ⟨Nat.le_of_ble_eq_true rfl, Nat.le_of_ble_eq_true rfl⟩ | exact ⟨by show _ ≤ (69 : Nat); omega, by show _ ≤ (430 : Nat); omega⟩)) hK hN hP hD [] rfl (by decide) rfl hl.1 rfl (Nat.le_of_ble_eq_true rfl) dL_changes_140 (by rw [hR]; first | exact ⟨Nat.le_of_ble_eq_true rfl, Nat.le_of_ble_eq_true rfl⟩ | exact ⟨by show _ ≤ (69 : Nat); omega, by show _ ≤ (430 : Nat); omega⟩) ?_
        refine W.eq (g2 := F0 m 143 ls [.int r36, .int r34, .int r4, .ref (b_o 0 0)]) rfl ?_
        obtain ⟨⟨r38, w39⟩, hr40, h⟩ := ob h
        dsimp only at h
        refine px_SL (As := [.ref (b_o 0 0), .int r4, .int r34, .int r36]) (rest := []) (gs := ([gO E b_o w7] : List va_W)) (gr := ([] : List va_W)) (gc := ([gO E b_o w7] : List va_W)) (g1 := ([gO E b_o w39] : List va_W)) (g2 := ([gO E b_o w39] : List va_W)) ⟨hx, hb, hml, hown, hts⟩ (mT_edit l hlt E X L b_o (r4) (r34) (r36)  (w7) r38 w39 hr40) (vx_cwSW 4 hts (wsw_s q270 q271 q17 q272) rfl rfl rfl hdS_L_edit (by rw [hR]; first | exact ⟨Nat.le_of_ble_eq_true rfl, Nat.le_of_ble_eq_true rfl⟩ | exact ⟨by show _ ≤ (69 : Nat); omega, by show _ ≤ (430 : Nat); omega⟩)) hK hN hX hL hP hD hS hA [] [0] [0] rfl rfl (by decide) (by decide) rfl (by decide) rfl hl.1 rfl (Nat.le_of_ble_eq_true rfl) dL_changes_143 (by rw [hR]; first | exact ⟨Nat.le_of_ble_eq_true rfl, Nat.le_of_ble_eq_true rfl⟩ | exact ⟨by show _ ≤ (69 : Nat); omega, by show _ ≤ (430 : Nat); omega⟩) (fun H locs hP hD hS => ?_)
        refine W.eq (g2 := F0 m 146 ls [.int r38]) rfl ?_
        refine lv_if_lt (tgt := 153) hx hb dL_changes_146 (by decide) (fun c41 => ?_) (fun c41 => ?_)
        · rw [if_pos c41] at h
          refine lv_iconst (v := (nI 0)) hx hb dL_changes_153 (by decide) ?_
          cases h
          refine W.eq (g2 := F0 m 154 ls [.int (b2i false)]) rfl ?_
          refine W.widen (k := 69) (n := 430) (by omega) (by omega) ?_
          exact px_eWz (b2i_n _) hA0 hQ hP hD hS hx hb hr hlocks dL_changes_154
        · rw [if_neg c41] at h
          refine lv_iconst (v := (nI 1)) hx hb dL_changes_149 (by decide) ?_
          refine lv_goto (tgt := 154) hx hb dL_changes_150 (by decide) ?_
          cases h
          refine W.eq (g2 := F0 m 154 ls [.int (b2i true)]) rfl ?_
          refine W.widen (k := 69) (n := 430) (by omega) (by omega) ?_
          exact px_eWz (b2i_n _) hA0 hQ hP hD hS hx hb hr hlocks dL_changes_154
      · rw [if_neg c33] at h
        by_cases c42 : r13 = nI 3
        · rw [if_pos c42] at h
          refine lv_tableIn (off := 79) (tgt := 124) hx hb dL_changes_45 (by rw [c42]; decide) (by rw [c42]; decide) (by rw [c42]; rfl) (by decide) ?_
          refine lv_aload_n hx hb dL_changes_124 rfl (lv_at hl 3 rfl) ?_
          refine lv_iload_n hx hb dL_changes_125 rfl (lv_at hl 2 rfl) ?_
          refine lv_iload_n hx hb dL_changes_126 rfl (lv_at hl 4 rfl) ?_
          refine lv_bipush (v := (nI 7)) hx hb dL_changes_127 (by decide) ?_
          refine lv_ishr hx hb dL_changes_129 ?_
          refine lv_bipush (v := (nI 7)) hx hb dL_changes_130 (by decide) ?_
          obtain ⟨r43, hr44, h⟩ := ob h
          refine px_Sp (As := [.int (x1 >>> ((nI 7) &&& 31)), .int (nI 7)]) (rest := [.int r4, .ref (b_o 0 0)]) (gs := ([gO E b_o w7] : List va_W)) (gc := ([] : List va_W)) ⟨hx, hb, hml, hown, hts⟩ (mL_some l E   ((x1 >>> ((nI 7) &&& 31))) ((nI 7))  r43 hr44) (va_cwS 2 hts (ws_s q931 q932 q17 q933) rfl rfl rfl hdS_L_some (by rw [hR]; first | exact ⟨Nat.le_of_ble_eq_true rfl, Nat.le_of_ble_eq_true rfl⟩ | exact ⟨by show _ ≤ (69 : Nat); omega, by show _ ≤ (430 : Nat); omega⟩)) hK hN hP hD [] rfl (by decide) rfl hl.1 rfl (Nat.le_of_ble_eq_true rfl) dL_changes_132 (by rw [hR]; first | exact ⟨Nat.le_of_ble_eq_true rfl, Nat.le_of_ble_eq_true rfl⟩ | exact ⟨by show _ ≤ (69 : Nat); omega, by show _ ≤ (430 : Nat); omega⟩) ?_
          refine W.eq (g2 := F0 m 135 ls [.int r43, .int r4, .ref (b_o 0 0)]) rfl ?_
          refine lv_iload_n hx hb dL_changes_135 rfl (lv_at hl 4 rfl) ?_
          refine lv_iconst (v := (nI 5)) hx hb dL_changes_136 (by decide) ?_
          refine lv_ishr hx hb dL_changes_137 ?_
          refine lv_bipush (v := (nI 101)) hx hb dL_changes_138 (by decide) ?_
          obtain ⟨r45, hr46, h⟩ := ob h
          refine px_Sp (As := [.int (x1 >>> ((nI 5) &&& 31)), .int (nI 101)]) (rest := [.int r43, .int r4, .ref (b_o 0 0)]) (gs := ([gO E b_o w7] : List va_W)) (gc := ([] : List va_W)) ⟨hx, hb, hml, hown, hts⟩ (mL_some l E   ((x1 >>> ((nI 5) &&& 31))) ((nI 101))  r45 hr46) (va_cwS 2 hts (ws_s q931 q932 q17 q933) rfl rfl rfl hdS_L_some (by rw [hR]; first | exact ⟨Nat.le_of_ble_eq_true rfl, Nat.le_of_ble_eq_true rfl⟩ | exact ⟨by show _ ≤ (69 : Nat); omega, by show _ ≤ (430 : Nat); omega⟩)) hK hN hP hD [] rfl (by decide) rfl hl.1 rfl (Nat.le_of_ble_eq_true rfl) dL_changes_140 (by rw [hR]; first | exact ⟨Nat.le_of_ble_eq_true rfl, Nat.le_of_ble_eq_true rfl⟩ | exact ⟨by show _ ≤ (69 : Nat); omega, by show _ ≤ (430 : Nat); omega⟩) ?_
          refine W.eq (g2 := F0 m 143 ls [.int r45, .int r43, .int r4, .ref (b_o 0 0)]) rfl ?_
          obtain ⟨⟨r47, w48⟩, hr49, h⟩ := ob h
          dsimp only at h
          refine px_SL (As := [.ref (b_o 0 0), .int r4, .int r43, .int r45]) (rest := []) (gs := ([gO E b_o w7] : List va_W)) (gr := ([] : List va_W)) (gc := ([gO E b_o w7] : List va_W)) (g1 := ([gO E b_o w48] : List va_W)) (g2 := ([gO E b_o w48] : List va_W)) ⟨hx, hb, hml, hown, hts⟩ (mT_edit l hlt E X L b_o (r4) (r43) (r45)  (w7) r47 w48 hr49) (vx_cwSW 4 hts (wsw_s q270 q271 q17 q272) rfl rfl rfl hdS_L_edit (by rw [hR]; first | exact ⟨Nat.le_of_ble_eq_true rfl, Nat.le_of_ble_eq_true rfl⟩ | exact ⟨by show _ ≤ (69 : Nat); omega, by show _ ≤ (430 : Nat); omega⟩)) hK hN hX hL hP hD hS hA [] [0] [0] rfl rfl (by decide) (by decide) rfl (by decide) rfl hl.1 rfl (Nat.le_of_ble_eq_true rfl) dL_changes_143 (by rw [hR]; first | exact ⟨Nat.le_of_ble_eq_true rfl, Nat.le_of_ble_eq_true rfl⟩ | exact ⟨by show _ ≤ (69 : Nat); omega, by show _ ≤ (430 : Nat); omega⟩) (fun H locs hP hD hS => ?_)
          refine W.eq (g2 := F0 m 146 ls [.int r47]) rfl ?_
          refine lv_if_lt (tgt := 153) hx hb dL_changes_146 (by decide) (fun c50 => ?_) (fun c50 => ?_)
          · rw [if_pos c50] at h
            refine lv_iconst (v := (nI 0)) hx hb dL_changes_153 (by decide) ?_
            cases h
            refine W.eq (g2 := F0 m 154 ls [.int (b2i false)]) rfl ?_
            refine W.widen (k := 69) (n := 430) (by omega) (by omega) ?_
            exact px_eWz (b2i_n _) hA0 hQ hP hD hS hx hb hr hlocks dL_changes_154
          · rw [if_neg c50] at h
            refine lv_iconst (v := (nI 1)) hx hb dL_changes_149 (by decide) ?_
            refine lv_goto (tgt := 154) hx hb dL_changes_150 (by decide) ?_
            cases h
            refine W.eq (g2 := F0 m 154 ls [.int (b2i true)]) rfl ?_
            refine W.widen (k := 69) (n := 430) (by omega) (by omega) ?_
            exact px_eWz (b2i_n _) hA0 hQ hP hD hS hx hb hr hlocks dL_changes_154
        · rw [if_neg c42] at h
          by_cases c51 : r13 = nI 4
          · rw [if_pos c51] at h
            refine lv_tableIn (off := 110) (tgt := 155) hx hb dL_changes_45 (by rw [c51]; decide) (by rw [c51]; decide) (by rw [c51]; rfl) (by decide) ?_
            refine lv_aload_n hx hb dL_changes_155 rfl (lv_at hl 3 rfl) ?_
            refine lv_iload_n hx hb dL_changes_156 rfl (lv_at hl 2 rfl) ?_
            obtain ⟨⟨r52, w53⟩, hr54, h⟩ := ob h
            dsimp only at h
            refine px_SL (As := [.ref (b_o 0 0), .int r4]) (rest := []) (gs := ([gO E b_o w7] : List va_W)) (gr := ([] : List va_W)) (gc := ([gO E b_o w7] : List va_W)) (g1 := ([gO E b_o w53] : List va_W)) (g2 := ([gO E b_o w53] : List va_W)) ⟨hx, hb, hml, hown, hts⟩ (mT_fork l hlt E X L b_o (r4)  (w7) r52 w53 hr54) (vx_cwSW 2 hts (wsw_s q456 q457 q17 q458) rfl rfl rfl hdS_L_fork (by rw [hR]; first | exact ⟨Nat.le_of_ble_eq_true rfl, Nat.le_of_ble_eq_true rfl⟩ | exact ⟨by show _ ≤ (69 : Nat); omega, by show _ ≤ (430 : Nat); omega⟩)) hK hN hX hL hP hD hS hA [] [0] [0] rfl rfl (by decide) (by decide) rfl (by decide) rfl hl.1 rfl (Nat.le_of_ble_eq_true rfl) dL_changes_157 (by rw [hR]; first | exact ⟨Nat.le_of_ble_eq_true rfl, Nat.le_of_ble_eq_true rfl⟩ | exact ⟨by show _ ≤ (69 : Nat); omega, by show _ ≤ (430 : Nat); omega⟩) (fun H locs hP hD hS => ?_)
            refine W.eq (g2 := F0 m 160 ls [.int r52]) rfl ?_
            refine lv_if_lt (tgt := 167) hx hb dL_changes_160 (by decide) (fun c55 => ?_) (fun c55 => ?_)
            · rw [if_pos c55] at h
              refine lv_iconst (v := (nI 0)) hx hb dL_changes_167 (by decide) ?_
              cases h
              refine W.eq (g2 := F0 m 168 ls [.int (b2i false)]) rfl ?_
              refine W.widen (k := 69) (n := 430) (by omega) (by omega) ?_
              exact px_eWz (b2i_n _) hA0 hQ hP hD hS hx hb hr hlocks dL_changes_168
            · rw [if_neg c55] at h
              refine lv_iconst (v := (nI 1)) hx hb dL_changes_163 (by decide) ?_
              refine lv_goto (tgt := 168) hx hb dL_changes_164 (by decide) ?_
              cases h
              refine W.eq (g2 := F0 m 168 ls [.int (b2i true)]) rfl ?_
              refine W.widen (k := 69) (n := 430) (by omega) (by omega) ?_
              exact px_eWz (b2i_n _) hA0 hQ hP hD hS hx hb hr hlocks dL_changes_168
          · rw [if_neg c51] at h
            by_cases c56 : r13 = nI 5
            · rw [if_pos c56] at h
              refine lv_tableIn (off := 124) (tgt := 169) hx hb dL_changes_45 (by rw [c56]; decide) (by rw [c56]; decide) (by rw [c56]; rfl) (by decide) ?_
              refine lv_aload_n hx hb dL_changes_169 rfl (lv_at hl 3 rfl) ?_
              refine lv_iload_n hx hb dL_changes_170 rfl (lv_at hl 2 rfl) ?_
              refine lv_iload_n hx hb dL_changes_171 rfl (lv_at hl 1 rfl) ?_
              obtain ⟨⟨r57, w58⟩, hr59, h⟩ := ob h
              dsimp only at h
              refine px_SL (As := [.ref (b_o 0 0), .int r4, .int r9]) (rest := []) (gs := ([gO E b_o w7] : List va_W)) (gr := ([] : List va_W)) (gc := ([gO E b_o w7] : List va_W)) (g1 := ([gO E b_o w58] : List va_W)) (g2 := ([gO E b_o w58] : List va_W)) ⟨hx, hb, hml, hown, hts⟩ (mT_reset l hlt E X L b_o (r4) (r9)  (w7) r57 w58 hr59) (vx_cwSW 3 hts (wsw_s q475 q476 q17 q477) rfl rfl rfl hdS_L_reset (by rw [hR]; first | exact ⟨Nat.le_of_ble_eq_true rfl, Nat.le_of_ble_eq_true rfl⟩ | exact ⟨by show _ ≤ (69 : Nat); omega, by show _ ≤ (430 : Nat); omega⟩)) hK hN hX hL hP hD hS hA [] [0] [0] rfl rfl (by decide) (by decide) rfl (by decide) rfl hl.1 rfl (Nat.le_of_ble_eq_true rfl) dL_changes_172 (by rw [hR]; first | exact ⟨Nat.le_of_ble_eq_true rfl, Nat.le_of_ble_eq_true rfl⟩ | exact ⟨by show _ ≤ (69 : Nat); omega, by show _ ≤ (430 : Nat); omega⟩) (fun H locs hP hD hS => ?_)
              refine W.eq (g2 := F0 m 175 ls [.int r57]) rfl ?_
              refine lv_if_lt (tgt := 182) hx hb dL_changes_175 (by decide) (fun c60 => ?_) (fun c60 => ?_)
              · rw [if_pos c60] at h
                refine lv_iconst (v := (nI 0)) hx hb dL_changes_182 (by decide) ?_
                cases h
                refine W.eq (g2 := F0 m 183 ls [.int (b2i false)]) rfl ?_
                refine W.widen (k := 69) (n := 430) (by omega) (by omega) ?_
                exact px_eWz (b2i_n _) hA0 hQ hP hD hS hx hb hr hlocks dL_changes_183
              · rw [if_neg c60] at h
                refine lv_iconst (v := (nI 1)) hx hb dL_changes_178 (by decide) ?_
                refine lv_goto (tgt := 183) hx hb dL_changes_179 (by decide) ?_
                cases h
                refine W.eq (g2 := F0 m 183 ls [.int (b2i true)]) rfl ?_
                refine W.widen (k := 69) (n := 430) (by omega) (by omega) ?_
                exact px_eWz (b2i_n _) hA0 hQ hP hD hS hx hb hr hlocks dL_changes_183
            · rw [if_neg c56] at h
              by_cases c61 : r13 = nI 6
              · rw [if_pos c61] at h
                refine lv_tableIn (off := 139) (tgt := 184) hx hb dL_changes_45 (by rw [c61]; decide) (by rw [c61]; decide) (by rw [c61]; rfl) (by decide) ?_
                refine lv_aload_n hx hb dL_changes_184 rfl (lv_at hl 3 rfl) ?_
                refine lv_iload_n hx hb dL_changes_185 rfl (lv_at hl 2 rfl) ?_
                refine lv_iload_n hx hb dL_changes_186 rfl (lv_at hl 4 rfl) ?_
                refine lv_bipush (v := (nI 11)) hx hb dL_changes_187 (by decide) ?_
                refine lv_ishr hx hb dL_changes_189 ?_
                refine lv_aload_n hx hb dL_changes_190 rfl (lv_at hl 3 rfl) ?_
                refine lv_iconst (v := (nI 1)) hx hb dL_changes_191 (by decide) ?_
                obtain ⟨⟨r62, w63⟩, hr64, h⟩ := ob h
                dsimp only at h
                refine px_SL (As := [.ref (b_o 0 0), .int (nI 1)]) (rest := [.int (x1 >>> ((nI 11) &&& 31)), .int r4, .ref (b_o 0 0)]) (gs := ([gO E b_o w7] : List va_W)) (gr := ([] : List va_W)) (gc := ([gO E b_o w7] : List va_W)) (g1 := ([gO E b_o w63] : List va_W)) (g2 := ([gO E b_o w63] : List va_W)) ⟨hx, hb, hml, hown, hts⟩ (mT_account l hlt E X L b_o ((nI 1))  (w7) r62 w63 hr64) (vx_cwSW 2 hts (wsw_s q848 q849 q17 q850) rfl rfl rfl hdS_L_account (by rw [hR]; first | exact ⟨Nat.le_of_ble_eq_true rfl, Nat.le_of_ble_eq_true rfl⟩ | exact ⟨by show _ ≤ (69 : Nat); omega, by show _ ≤ (430 : Nat); omega⟩)) hK hN hX hL hP hD hS hA [] [0] [0] rfl rfl (by decide) (by decide) rfl (by decide) rfl hl.1 rfl (Nat.le_of_ble_eq_true rfl) dL_changes_192 (by rw [hR]; first | exact ⟨Nat.le_of_ble_eq_true rfl, Nat.le_of_ble_eq_true rfl⟩ | exact ⟨by show _ ≤ (69 : Nat); omega, by show _ ≤ (430 : Nat); omega⟩) (fun H locs hP hD hS => ?_)
                refine W.eq (g2 := F0 m 195 ls [.int r62, .int (x1 >>> ((nI 11) &&& 31)), .int r4, .ref (b_o 0 0)]) rfl ?_
                refine lv_iconst (v := (nI 1)) hx hb dL_changes_195 (by decide) ?_
                refine lv_iadd hx hb dL_changes_196 ?_
                obtain ⟨r65, hr66, h⟩ := ob h
                refine px_Sp (As := [.int (x1 >>> ((nI 11) &&& 31)), .int (r62 + (nI 1))]) (rest := [.int r4, .ref (b_o 0 0)]) (gs := ([gO E b_o w63] : List va_W)) (gc := ([] : List va_W)) ⟨hx, hb, hml, hown, hts⟩ (mL_some l E   ((x1 >>> ((nI 11) &&& 31))) ((r62 + (nI 1)))  r65 hr66) (va_cwS 2 hts (ws_s q931 q932 q17 q933) rfl rfl rfl hdS_L_some (by rw [hR]; first | exact ⟨Nat.le_of_ble_eq_true rfl, Nat.le_of_ble_eq_true rfl⟩ | exact ⟨by show _ ≤ (69 : Nat); omega, by show _ ≤ (430 : Nat); omega⟩)) hK hN hP hD [] rfl (by decide) rfl hl.1 rfl (Nat.le_of_ble_eq_true rfl) dL_changes_197 (by rw [hR]; first | exact ⟨Nat.le_of_ble_eq_true rfl, Nat.le_of_ble_eq_true rfl⟩ | exact ⟨by show _ ≤ (69 : Nat); omega, by show _ ≤ (430 : Nat); omega⟩) ?_
                refine W.eq (g2 := F0 m 200 ls [.int r65, .int r4, .ref (b_o 0 0)]) rfl ?_
                refine lv_iload hx hb dL_changes_200 (lv_at hl 0 rfl) ?_
                obtain ⟨⟨r67, w68⟩, hr69, h⟩ := ob h
                dsimp only at h
                refine px_SL (As := [.ref (b_o 0 0), .int r4, .int r65, .int r11]) (rest := []) (gs := ([gO E b_o w63] : List va_W)) (gr := ([] : List va_W)) (gc := ([gO E b_o w63] : List va_W)) (g1 := ([gO E b_o w68] : List va_W)) (g2 := ([gO E b_o w68] : List va_W)) ⟨hx, hb, hml, hown, hts⟩ (mT_merge l hlt E X L b_o (r4) (r65) (r11)  (w63) r67 w68 hr69) (vx_cwSW 4 hts (wsw_s q548 q549 q17 q550) rfl rfl rfl hdS_L_merge (by rw [hR]; first | exact ⟨Nat.le_of_ble_eq_true rfl, Nat.le_of_ble_eq_true rfl⟩ | exact ⟨by show _ ≤ (69 : Nat); omega, by show _ ≤ (430 : Nat); omega⟩)) hK hN hX hL hP hD hS hA [] [0] [0] rfl rfl (by decide) (by decide) rfl (by decide) rfl hl.1 rfl (Nat.le_of_ble_eq_true rfl) dL_changes_202 (by rw [hR]; first | exact ⟨Nat.le_of_ble_eq_true rfl, Nat.le_of_ble_eq_true rfl⟩ | exact ⟨by show _ ≤ (69 : Nat); omega, by show _ ≤ (430 : Nat); omega⟩) (fun H locs hP hD hS => ?_)
                refine W.eq (g2 := F0 m 205 ls [.int r67]) rfl ?_
                refine lv_if_lt (tgt := 212) hx hb dL_changes_205 (by decide) (fun c70 => ?_) (fun c70 => ?_)
                · rw [if_pos c70] at h
                  refine lv_iconst (v := (nI 0)) hx hb dL_changes_212 (by decide) ?_
                  cases h
                  refine W.eq (g2 := F0 m 213 ls [.int (b2i false)]) rfl ?_
                  refine W.widen (k := 69) (n := 430) (by omega) (by omega) ?_
                  exact px_eWz (b2i_n _) hA0 hQ hP hD hS hx hb hr hlocks dL_changes_213
                · rw [if_neg c70] at h
                  refine lv_iconst (v := (nI 1)) hx hb dL_changes_208 (by decide) ?_
                  refine lv_goto (tgt := 213) hx hb dL_changes_209 (by decide) ?_
                  cases h
                  refine W.eq (g2 := F0 m 213 ls [.int (b2i true)]) rfl ?_
                  refine W.widen (k := 69) (n := 430) (by omega) (by omega) ?_
                  exact px_eWz (b2i_n _) hA0 hQ hP hD hS hx hb hr hlocks dL_changes_213
              · rw [if_neg c61] at h
                by_cases c71 : r13 = nI 7
                · rw [if_pos c71] at h
                  refine lv_tableIn (off := 139) (tgt := 184) hx hb dL_changes_45 (by rw [c71]; decide) (by rw [c71]; decide) (by rw [c71]; rfl) (by decide) ?_
                  refine lv_aload_n hx hb dL_changes_184 rfl (lv_at hl 3 rfl) ?_
                  refine lv_iload_n hx hb dL_changes_185 rfl (lv_at hl 2 rfl) ?_
                  refine lv_iload_n hx hb dL_changes_186 rfl (lv_at hl 4 rfl) ?_
                  refine lv_bipush (v := (nI 11)) hx hb dL_changes_187 (by decide) ?_
                  refine lv_ishr hx hb dL_changes_189 ?_
                  refine lv_aload_n hx hb dL_changes_190 rfl (lv_at hl 3 rfl) ?_
                  refine lv_iconst (v := (nI 1)) hx hb dL_changes_191 (by decide) ?_
                  obtain ⟨⟨r72, w73⟩, hr74, h⟩ := ob h
                  dsimp only at h
                  refine px_SL (As := [.ref (b_o 0 0), .int (nI 1)]) (rest := [.int (x1 >>> ((nI 11) &&& 31)), .int r4, .ref (b_o 0 0)]) (gs := ([gO E b_o w7] : List va_W)) (gr := ([] : List va_W)) (gc := ([gO E b_o w7] : List va_W)) (g1 := ([gO E b_o w73] : List va_W)) (g2 := ([gO E b_o w73] : List va_W)) ⟨hx, hb, hml, hown, hts⟩ (mT_account l hlt E X L b_o ((nI 1))  (w7) r72 w73 hr74) (vx_cwSW 2 hts (wsw_s q848 q849 q17 q850) rfl rfl rfl hdS_L_account (by rw [hR]; first | exact ⟨Nat.le_of_ble_eq_true rfl, Nat.le_of_ble_eq_true rfl⟩ | exact ⟨by show _ ≤ (69 : Nat); omega, by show _ ≤ (430 : Nat); omega⟩)) hK hN hX hL hP hD hS hA [] [0] [0] rfl rfl (by decide) (by decide) rfl (by decide) rfl hl.1 rfl (Nat.le_of_ble_eq_true rfl) dL_changes_192 (by rw [hR]; first | exact ⟨Nat.le_of_ble_eq_true rfl, Nat.le_of_ble_eq_true rfl⟩ | exact ⟨by show _ ≤ (69 : Nat); omega, by show _ ≤ (430 : Nat); omega⟩) (fun H locs hP hD hS => ?_)
                  refine W.eq (g2 := F0 m 195 ls [.int r72, .int (x1 >>> ((nI 11) &&& 31)), .int r4, .ref (b_o 0 0)]) rfl ?_
                  refine lv_iconst (v := (nI 1)) hx hb dL_changes_195 (by decide) ?_
                  refine lv_iadd hx hb dL_changes_196 ?_
                  obtain ⟨r75, hr76, h⟩ := ob h
                  refine px_Sp (As := [.int (x1 >>> ((nI 11) &&& 31)), .int (r72 + (nI 1))]) (rest := [.int r4, .ref (b_o 0 0)]) (gs := ([gO E b_o w73] : List va_W)) (gc := ([] : List va_W)) ⟨hx, hb, hml, hown, hts⟩ (mL_some l E   ((x1 >>> ((nI 11) &&& 31))) ((r72 + (nI 1)))  r75 hr76) (va_cwS 2 hts (ws_s q931 q932 q17 q933) rfl rfl rfl hdS_L_some (by rw [hR]; first | exact ⟨Nat.le_of_ble_eq_true rfl, Nat.le_of_ble_eq_true rfl⟩ | exact ⟨by show _ ≤ (69 : Nat); omega, by show _ ≤ (430 : Nat); omega⟩)) hK hN hP hD [] rfl (by decide) rfl hl.1 rfl (Nat.le_of_ble_eq_true rfl) dL_changes_197 (by rw [hR]; first | exact ⟨Nat.le_of_ble_eq_true rfl, Nat.le_of_ble_eq_true rfl⟩ | exact ⟨by show _ ≤ (69 : Nat); omega, by show _ ≤ (430 : Nat); omega⟩) ?_
                  refine W.eq (g2 := F0 m 200 ls [.int r75, .int r4, .ref (b_o 0 0)]) rfl ?_
                  refine lv_iload hx hb dL_changes_200 (lv_at hl 0 rfl) ?_
                  obtain ⟨⟨r77, w78⟩, hr79, h⟩ := ob h
                  dsimp only at h
                  refine px_SL (As := [.ref (b_o 0 0), .int r4, .int r75, .int r11]) (rest := []) (gs := ([gO E b_o w73] : List va_W)) (gr := ([] : List va_W)) (gc := ([gO E b_o w73] : List va_W)) (g1 := ([gO E b_o w78] : List va_W)) (g2 := ([gO E b_o w78] : List va_W)) ⟨hx, hb, hml, hown, hts⟩ (mT_merge l hlt E X L b_o (r4) (r75) (r11)  (w73) r77 w78 hr79) (vx_cwSW 4 hts (wsw_s q548 q549 q17 q550) rfl rfl rfl hdS_L_merge (by rw [hR]; first | exact ⟨Nat.le_of_ble_eq_true rfl, Nat.le_of_ble_eq_true rfl⟩ | exact ⟨by show _ ≤ (69 : Nat); omega, by show _ ≤ (430 : Nat); omega⟩)) hK hN hX hL hP hD hS hA [] [0] [0] rfl rfl (by decide) (by decide) rfl (by decide) rfl hl.1 rfl (Nat.le_of_ble_eq_true rfl) dL_changes_202 (by rw [hR]; first | exact ⟨Nat.le_of_ble_eq_true rfl, Nat.le_of_ble_eq_true rfl⟩ | exact ⟨by show _ ≤ (69 : Nat); omega, by show _ ≤ (430 : Nat); omega⟩) (fun H locs hP hD hS => ?_)
                  refine W.eq (g2 := F0 m 205 ls [.int r77]) rfl ?_
                  refine lv_if_lt (tgt := 212) hx hb dL_changes_205 (by decide) (fun c80 => ?_) (fun c80 => ?_)
                  · rw [if_pos c80] at h
                    refine lv_iconst (v := (nI 0)) hx hb dL_changes_212 (by decide) ?_
                    cases h
                    refine W.eq (g2 := F0 m 213 ls [.int (b2i false)]) rfl ?_
                    refine W.widen (k := 69) (n := 430) (by omega) (by omega) ?_
                    exact px_eWz (b2i_n _) hA0 hQ hP hD hS hx hb hr hlocks dL_changes_213
                  · rw [if_neg c80] at h
                    refine lv_iconst (v := (nI 1)) hx hb dL_changes_208 (by decide) ?_
                    refine lv_goto (tgt := 213) hx hb dL_changes_209 (by decide) ?_
                    cases h
                    refine W.eq (g2 := F0 m 213 ls [.int (b2i true)]) rfl ?_
                    refine W.widen (k := 69) (n := 430) (by omega) (by omega) ?_
                    exact px_eWz (b2i_n _) hA0 hQ hP hD hS hx hb hr hlocks dL_changes_213
                · rw [if_neg c71] at h
                  by_cases c81 : r13 = nI 8
                  · rw [if_pos c81] at h
                    refine lv_tableIn (off := 169) (tgt := 214) hx hb dL_changes_45 (by rw [c81]; decide) (by rw [c81]; decide) (by rw [c81]; rfl) (by decide) ?_
                    refine lv_aload_n hx hb dL_changes_214 rfl (lv_at hl 3 rfl) ?_
                    refine lv_iload_n hx hb dL_changes_215 rfl (lv_at hl 2 rfl) ?_
                    refine lv_iload_n hx hb dL_changes_216 rfl (lv_at hl 1 rfl) ?_
                    refine lv_iload hx hb dL_changes_217 (lv_at hl 0 rfl) ?_
                    obtain ⟨⟨r82, w83⟩, hr84, h⟩ := ob h
                    dsimp only at h
                    refine px_SL (As := [.ref (b_o 0 0), .int r4, .int r9, .int r11]) (rest := []) (gs := ([gO E b_o w7] : List va_W)) (gr := ([] : List va_W)) (gc := ([gO E b_o w7] : List va_W)) (g1 := ([gO E b_o w83] : List va_W)) (g2 := ([gO E b_o w83] : List va_W)) ⟨hx, hb, hml, hown, hts⟩ (mT_pick l hlt E X L b_o (r4) (r9) (r11)  (w7) r82 w83 hr84) (vx_cwSW 4 hts (wsw_s q934 q935 q17 q936) rfl rfl rfl hdS_L_pick (by rw [hR]; first | exact ⟨Nat.le_of_ble_eq_true rfl, Nat.le_of_ble_eq_true rfl⟩ | exact ⟨by show _ ≤ (69 : Nat); omega, by show _ ≤ (430 : Nat); omega⟩)) hK hN hX hL hP hD hS hA [] [0] [0] rfl rfl (by decide) (by decide) rfl (by decide) rfl hl.1 rfl (Nat.le_of_ble_eq_true rfl) dL_changes_219 (by rw [hR]; first | exact ⟨Nat.le_of_ble_eq_true rfl, Nat.le_of_ble_eq_true rfl⟩ | exact ⟨by show _ ≤ (69 : Nat); omega, by show _ ≤ (430 : Nat); omega⟩) (fun H locs hP hD hS => ?_)
                    refine W.eq (g2 := F0 m 222 ls [.int r82]) rfl ?_
                    refine lv_if_lt (tgt := 229) hx hb dL_changes_222 (by decide) (fun c85 => ?_) (fun c85 => ?_)
                    · rw [if_pos c85] at h
                      refine lv_iconst (v := (nI 0)) hx hb dL_changes_229 (by decide) ?_
                      cases h
                      refine W.eq (g2 := F0 m 230 ls [.int (b2i false)]) rfl ?_
                      refine W.widen (k := 69) (n := 430) (by omega) (by omega) ?_
                      exact px_eWz (b2i_n _) hA0 hQ hP hD hS hx hb hr hlocks dL_changes_230
                    · rw [if_neg c85] at h
                      refine lv_iconst (v := (nI 1)) hx hb dL_changes_225 (by decide) ?_
                      refine lv_goto (tgt := 230) hx hb dL_changes_226 (by decide) ?_
                      cases h
                      refine W.eq (g2 := F0 m 230 ls [.int (b2i true)]) rfl ?_
                      refine W.widen (k := 69) (n := 430) (by omega) (by omega) ?_
                      exact px_eWz (b2i_n _) hA0 hQ hP hD hS hx hb hr hlocks dL_changes_230
                  · rw [if_neg c81] at h
                    by_cases c86 : r13 = nI 9
                    · rw [if_pos c86] at h
                      refine lv_tableIn (off := 169) (tgt := 214) hx hb dL_changes_45 (by rw [c86]; decide) (by rw [c86]; decide) (by rw [c86]; rfl) (by decide) ?_
                      refine lv_aload_n hx hb dL_changes_214 rfl (lv_at hl 3 rfl) ?_
                      refine lv_iload_n hx hb dL_changes_215 rfl (lv_at hl 2 rfl) ?_
                      refine lv_iload_n hx hb dL_changes_216 rfl (lv_at hl 1 rfl) ?_
                      refine lv_iload hx hb dL_changes_217 (lv_at hl 0 rfl) ?_
                      obtain ⟨⟨r87, w88⟩, hr89, h⟩ := ob h
                      dsimp only at h
                      refine px_SL (As := [.ref (b_o 0 0), .int r4, .int r9, .int r11]) (rest := []) (gs := ([gO E b_o w7] : List va_W)) (gr := ([] : List va_W)) (gc := ([gO E b_o w7] : List va_W)) (g1 := ([gO E b_o w88] : List va_W)) (g2 := ([gO E b_o w88] : List va_W)) ⟨hx, hb, hml, hown, hts⟩ (mT_pick l hlt E X L b_o (r4) (r9) (r11)  (w7) r87 w88 hr89) (vx_cwSW 4 hts (wsw_s q934 q935 q17 q936) rfl rfl rfl hdS_L_pick (by rw [hR]; first | exact ⟨Nat.le_of_ble_eq_true rfl, Nat.le_of_ble_eq_true rfl⟩ | exact ⟨by show _ ≤ (69 : Nat); omega, by show _ ≤ (430 : Nat); omega⟩)) hK hN hX hL hP hD hS hA [] [0] [0] rfl rfl (by decide) (by decide) rfl (by decide) rfl hl.1 rfl (Nat.le_of_ble_eq_true rfl) dL_changes_219 (by rw [hR]; first | exact ⟨Nat.le_of_ble_eq_true rfl, Nat.le_of_ble_eq_true rfl⟩ | exact ⟨by show _ ≤ (69 : Nat); omega, by show _ ≤ (430 : Nat); omega⟩) (fun H locs hP hD hS => ?_)
                      refine W.eq (g2 := F0 m 222 ls [.int r87]) rfl ?_
                      refine lv_if_lt (tgt := 229) hx hb dL_changes_222 (by decide) (fun c90 => ?_) (fun c90 => ?_)
                      · rw [if_pos c90] at h
                        refine lv_iconst (v := (nI 0)) hx hb dL_changes_229 (by decide) ?_
                        cases h
                        refine W.eq (g2 := F0 m 230 ls [.int (b2i false)]) rfl ?_
                        refine W.widen (k := 69) (n := 430) (by omega) (by omega) ?_
                        exact px_eWz (b2i_n _) hA0 hQ hP hD hS hx hb hr hlocks dL_changes_230
                      · rw [if_neg c90] at h
                        refine lv_iconst (v := (nI 1)) hx hb dL_changes_225 (by decide) ?_
                        refine lv_goto (tgt := 230) hx hb dL_changes_226 (by decide) ?_
                        cases h
                        refine W.eq (g2 := F0 m 230 ls [.int (b2i true)]) rfl ?_
                        refine W.widen (k := 69) (n := 430) (by omega) (by omega) ?_
                        exact px_eWz (b2i_n _) hA0 hQ hP hD hS hx hb hr hlocks dL_changes_230
                    · rw [if_neg c86] at h
                      by_cases c91 : r13 = nI 10
                      · rw [if_pos c91] at h
                        refine lv_tableIn (off := 186) (tgt := 231) hx hb dL_changes_45 (by rw [c91]; decide) (by rw [c91]; decide) (by rw [c91]; rfl) (by decide) ?_
                        refine lv_aload_n hx hb dL_changes_231 rfl (lv_at hl 3 rfl) ?_
                        refine lv_iload_n hx hb dL_changes_232 rfl (lv_at hl 2 rfl) ?_
                        refine lv_iload_n hx hb dL_changes_233 rfl (lv_at hl 1 rfl) ?_
                        refine lv_iload hx hb dL_changes_234 (lv_at hl 0 rfl) ?_
                        obtain ⟨⟨r92, w93⟩, hr94, h⟩ := ob h
                        dsimp only at h
                        refine px_SL (As := [.ref (b_o 0 0), .int r4, .int r9, .int r11]) (rest := []) (gs := ([gO E b_o w7] : List va_W)) (gr := ([] : List va_W)) (gc := ([gO E b_o w7] : List va_W)) (g1 := ([gO E b_o w93] : List va_W)) (g2 := ([gO E b_o w93] : List va_W)) ⟨hx, hb, hml, hown, hts⟩ (mT_revert l hlt E X L b_o (r4) (r9) (r11)  (w7) r92 w93 hr94) (vx_cwSW 4 hts (wsw_s q593 q594 q17 q595) rfl rfl rfl hdS_L_revert (by rw [hR]; first | exact ⟨Nat.le_of_ble_eq_true rfl, Nat.le_of_ble_eq_true rfl⟩ | exact ⟨by show _ ≤ (69 : Nat); omega, by show _ ≤ (430 : Nat); omega⟩)) hK hN hX hL hP hD hS hA [] [0] [0] rfl rfl (by decide) (by decide) rfl (by decide) rfl hl.1 rfl (Nat.le_of_ble_eq_true rfl) dL_changes_236 (by rw [hR]; first | exact ⟨Nat.le_of_ble_eq_true rfl, Nat.le_of_ble_eq_true rfl⟩ | exact ⟨by show _ ≤ (69 : Nat); omega, by show _ ≤ (430 : Nat); omega⟩) (fun H locs hP hD hS => ?_)
                        refine W.eq (g2 := F0 m 239 ls [.int r92]) rfl ?_
                        refine lv_if_lt (tgt := 246) hx hb dL_changes_239 (by decide) (fun c95 => ?_) (fun c95 => ?_)
                        · rw [if_pos c95] at h
                          refine lv_iconst (v := (nI 0)) hx hb dL_changes_246 (by decide) ?_
                          cases h
                          refine W.eq (g2 := F0 m 247 ls [.int (b2i false)]) rfl ?_
                          refine W.widen (k := 69) (n := 430) (by omega) (by omega) ?_
                          exact px_eWz (b2i_n _) hA0 hQ hP hD hS hx hb hr hlocks dL_changes_247
                        · rw [if_neg c95] at h
                          refine lv_iconst (v := (nI 1)) hx hb dL_changes_242 (by decide) ?_
                          refine lv_goto (tgt := 247) hx hb dL_changes_243 (by decide) ?_
                          cases h
                          refine W.eq (g2 := F0 m 247 ls [.int (b2i true)]) rfl ?_
                          refine W.widen (k := 69) (n := 430) (by omega) (by omega) ?_
                          exact px_eWz (b2i_n _) hA0 hQ hP hD hS hx hb hr hlocks dL_changes_247
                      · rw [if_neg c91] at h
                        by_cases c96 : r13 = nI 11
                        · rw [if_pos c96] at h
                          refine lv_tableIn (off := 186) (tgt := 231) hx hb dL_changes_45 (by rw [c96]; decide) (by rw [c96]; decide) (by rw [c96]; rfl) (by decide) ?_
                          refine lv_aload_n hx hb dL_changes_231 rfl (lv_at hl 3 rfl) ?_
                          refine lv_iload_n hx hb dL_changes_232 rfl (lv_at hl 2 rfl) ?_
                          refine lv_iload_n hx hb dL_changes_233 rfl (lv_at hl 1 rfl) ?_
                          refine lv_iload hx hb dL_changes_234 (lv_at hl 0 rfl) ?_
                          obtain ⟨⟨r97, w98⟩, hr99, h⟩ := ob h
                          dsimp only at h
                          refine px_SL (As := [.ref (b_o 0 0), .int r4, .int r9, .int r11]) (rest := []) (gs := ([gO E b_o w7] : List va_W)) (gr := ([] : List va_W)) (gc := ([gO E b_o w7] : List va_W)) (g1 := ([gO E b_o w98] : List va_W)) (g2 := ([gO E b_o w98] : List va_W)) ⟨hx, hb, hml, hown, hts⟩ (mT_revert l hlt E X L b_o (r4) (r9) (r11)  (w7) r97 w98 hr99) (vx_cwSW 4 hts (wsw_s q593 q594 q17 q595) rfl rfl rfl hdS_L_revert (by rw [hR]; first | exact ⟨Nat.le_of_ble_eq_true rfl, Nat.le_of_ble_eq_true rfl⟩ | exact ⟨by show _ ≤ (69 : Nat); omega, by show _ ≤ (430 : Nat); omega⟩)) hK hN hX hL hP hD hS hA [] [0] [0] rfl rfl (by decide) (by decide) rfl (by decide) rfl hl.1 rfl (Nat.le_of_ble_eq_true rfl) dL_changes_236 (by rw [hR]; first | exact ⟨Nat.le_of_ble_eq_true rfl, Nat.le_of_ble_eq_true rfl⟩ | exact ⟨by show _ ≤ (69 : Nat); omega, by show _ ≤ (430 : Nat); omega⟩) (fun H locs hP hD hS => ?_)
                          refine W.eq (g2 := F0 m 239 ls [.int r97]) rfl ?_
                          refine lv_if_lt (tgt := 246) hx hb dL_changes_239 (by decide) (fun c100 => ?_) (fun c100 => ?_)
                          · rw [if_pos c100] at h
                            refine lv_iconst (v := (nI 0)) hx hb dL_changes_246 (by decide) ?_
                            cases h
                            refine W.eq (g2 := F0 m 247 ls [.int (b2i false)]) rfl ?_
                            refine W.widen (k := 69) (n := 430) (by omega) (by omega) ?_
                            exact px_eWz (b2i_n _) hA0 hQ hP hD hS hx hb hr hlocks dL_changes_247
                          · rw [if_neg c100] at h
                            refine lv_iconst (v := (nI 1)) hx hb dL_changes_242 (by decide) ?_
                            refine lv_goto (tgt := 247) hx hb dL_changes_243 (by decide) ?_
                            cases h
                            refine W.eq (g2 := F0 m 247 ls [.int (b2i true)]) rfl ?_
                            refine W.widen (k := 69) (n := 430) (by omega) (by omega) ?_
                            exact px_eWz (b2i_n _) hA0 hQ hP hD hS hx hb hr hlocks dL_changes_247
                        · rw [if_neg c96] at h
                          by_cases c101 : r13 = nI 12
                          · rw [if_pos c101] at h
                            refine lv_tableIn (off := 203) (tgt := 248) hx hb dL_changes_45 (by rw [c101]; decide) (by rw [c101]; decide) (by rw [c101]; rfl) (by decide) ?_
                            refine lv_aload_n hx hb dL_changes_248 rfl (lv_at hl 3 rfl) ?_
                            refine lv_iload_n hx hb dL_changes_249 rfl (lv_at hl 4 rfl) ?_
                            refine lv_iconst (v := (nI 4)) hx hb dL_changes_250 (by decide) ?_
                            refine lv_ishr hx hb dL_changes_251 ?_
                            refine lv_iconst (v := (nI 4)) hx hb dL_changes_252 (by decide) ?_
                            obtain ⟨r102, hr103, h⟩ := ob h
                            refine px_Sp (As := [.int (x1 >>> ((nI 4) &&& 31)), .int (nI 4)]) (rest := [.ref (b_o 0 0)]) (gs := ([gO E b_o w7] : List va_W)) (gc := ([] : List va_W)) ⟨hx, hb, hml, hown, hts⟩ (mL_some l E   ((x1 >>> ((nI 4) &&& 31))) ((nI 4))  r102 hr103) (va_cwS 2 hts (ws_s q931 q932 q17 q933) rfl rfl rfl hdS_L_some (by rw [hR]; first | exact ⟨Nat.le_of_ble_eq_true rfl, Nat.le_of_ble_eq_true rfl⟩ | exact ⟨by show _ ≤ (69 : Nat); omega, by show _ ≤ (430 : Nat); omega⟩)) hK hN hP hD [] rfl (by decide) rfl hl.1 rfl (Nat.le_of_ble_eq_true rfl) dL_changes_253 (by rw [hR]; first | exact ⟨Nat.le_of_ble_eq_true rfl, Nat.le_of_ble_eq_true rfl⟩ | exact ⟨by show _ ≤ (69 : Nat); omega, by show _ ≤ (430 : Nat); omega⟩) ?_
                            refine W.eq (g2 := F0 m 256 ls [.int r102, .ref (b_o 0 0)]) rfl ?_
                            obtain ⟨⟨r104, w105⟩, hr106, h⟩ := ob h
                            dsimp only at h
                            refine px_SL (As := [.ref (b_o 0 0), .int r102]) (rest := []) (gs := ([gO E b_o w7] : List va_W)) (gr := ([] : List va_W)) (gc := ([gO E b_o w7] : List va_W)) (g1 := ([gO E b_o w105] : List va_W)) (g2 := ([gO E b_o w105] : List va_W)) ⟨hx, hb, hml, hown, hts⟩ (mT_bundle l hlt E X L b_o (r102)  (w7) r104 w105 hr106) (vx_cwSW 2 hts (wsw_s q680 q681 q17 q682) rfl rfl rfl hdS_L_bundle (by rw [hR]; first | exact ⟨Nat.le_of_ble_eq_true rfl, Nat.le_of_ble_eq_true rfl⟩ | exact ⟨by show _ ≤ (69 : Nat); omega, by show _ ≤ (430 : Nat); omega⟩)) hK hN hX hL hP hD hS hA [] [0] [0] rfl rfl (by decide) (by decide) rfl (by decide) rfl hl.1 rfl (Nat.le_of_ble_eq_true rfl) dL_changes_256 (by rw [hR]; first | exact ⟨Nat.le_of_ble_eq_true rfl, Nat.le_of_ble_eq_true rfl⟩ | exact ⟨by show _ ≤ (69 : Nat); omega, by show _ ≤ (430 : Nat); omega⟩) (fun H locs hP hD hS => ?_)
                            refine W.eq (g2 := F0 m 259 ls [.int r104]) rfl ?_
                            refine lv_if_lt (tgt := 266) hx hb dL_changes_259 (by decide) (fun c107 => ?_) (fun c107 => ?_)
                            · rw [if_pos c107] at h
                              refine lv_iconst (v := (nI 0)) hx hb dL_changes_266 (by decide) ?_
                              cases h
                              refine W.eq (g2 := F0 m 267 ls [.int (b2i false)]) rfl ?_
                              refine W.widen (k := 69) (n := 430) (by omega) (by omega) ?_
                              exact px_eWz (b2i_n _) hA0 hQ hP hD hS hx hb hr hlocks dL_changes_267
                            · rw [if_neg c107] at h
                              refine lv_iconst (v := (nI 1)) hx hb dL_changes_262 (by decide) ?_
                              refine lv_goto (tgt := 267) hx hb dL_changes_263 (by decide) ?_
                              cases h
                              refine W.eq (g2 := F0 m 267 ls [.int (b2i true)]) rfl ?_
                              refine W.widen (k := 69) (n := 430) (by omega) (by omega) ?_
                              exact px_eWz (b2i_n _) hA0 hQ hP hD hS hx hb hr hlocks dL_changes_267
                          · rw [if_neg c101] at h
                            by_cases c108 : r13 = nI 13
                            · rw [if_pos c108] at h
                              refine lv_tableIn (off := 223) (tgt := 268) hx hb dL_changes_45 (by rw [c108]; decide) (by rw [c108]; decide) (by rw [c108]; rfl) (by decide) ?_
                              refine lv_aload_n hx hb dL_changes_268 rfl (lv_at hl 3 rfl) ?_
                              refine lv_iload_n hx hb dL_changes_269 rfl (lv_at hl 4 rfl) ?_
                              refine lv_iconst (v := (nI 4)) hx hb dL_changes_270 (by decide) ?_
                              refine lv_ishr hx hb dL_changes_271 ?_
                              refine lv_iconst (v := (nI 5)) hx hb dL_changes_272 (by decide) ?_
                              obtain ⟨r109, hr110, h⟩ := ob h
                              refine px_Sp (As := [.int (x1 >>> ((nI 4) &&& 31)), .int (nI 5)]) (rest := [.ref (b_o 0 0)]) (gs := ([gO E b_o w7] : List va_W)) (gc := ([] : List va_W)) ⟨hx, hb, hml, hown, hts⟩ (mL_some l E   ((x1 >>> ((nI 4) &&& 31))) ((nI 5))  r109 hr110) (va_cwS 2 hts (ws_s q931 q932 q17 q933) rfl rfl rfl hdS_L_some (by rw [hR]; first | exact ⟨Nat.le_of_ble_eq_true rfl, Nat.le_of_ble_eq_true rfl⟩ | exact ⟨by show _ ≤ (69 : Nat); omega, by show _ ≤ (430 : Nat); omega⟩)) hK hN hP hD [] rfl (by decide) rfl hl.1 rfl (Nat.le_of_ble_eq_true rfl) dL_changes_273 (by rw [hR]; first | exact ⟨Nat.le_of_ble_eq_true rfl, Nat.le_of_ble_eq_true rfl⟩ | exact ⟨by show _ ≤ (69 : Nat); omega, by show _ ≤ (430 : Nat); omega⟩) ?_
                              refine W.eq (g2 := F0 m 276 ls [.int r109, .ref (b_o 0 0)]) rfl ?_
                              refine lv_iload_n hx hb dL_changes_276 rfl (lv_at hl 1 rfl) ?_
                              obtain ⟨⟨r111, w112⟩, hr113, h⟩ := ob h
                              dsimp only at h
                              refine px_SL (As := [.ref (b_o 0 0), .int r109, .int r9]) (rest := []) (gs := ([gO E b_o w7] : List va_W)) (gr := ([] : List va_W)) (gc := ([gO E b_o w7] : List va_W)) (g1 := ([gO E b_o w112] : List va_W)) (g2 := ([gO E b_o w112] : List va_W)) ⟨hx, hb, hml, hown, hts⟩ (mT_put l hlt E X L b_o (r109) (r9)  (w7) r111 w112 hr113) (vx_cwSW 3 hts (wsw_s q1160 q1161 q17 q1162) rfl rfl rfl hdS_L_put (by rw [hR]; first | exact ⟨Nat.le_of_ble_eq_true rfl, Nat.le_of_ble_eq_true rfl⟩ | exact ⟨by show _ ≤ (69 : Nat); omega, by show _ ≤ (430 : Nat); omega⟩)) hK hN hX hL hP hD hS hA [] [0] [0] rfl rfl (by decide) (by decide) rfl (by decide) rfl hl.1 rfl (Nat.le_of_ble_eq_true rfl) dL_changes_277 (by rw [hR]; first | exact ⟨Nat.le_of_ble_eq_true rfl, Nat.le_of_ble_eq_true rfl⟩ | exact ⟨by show _ ≤ (69 : Nat); omega, by show _ ≤ (430 : Nat); omega⟩) (fun H locs hP hD hS => ?_)
                              refine W.eq (g2 := F0 m 280 ls [.int r111]) rfl ?_
                              refine lv_if_lt (tgt := 287) hx hb dL_changes_280 (by decide) (fun c114 => ?_) (fun c114 => ?_)
                              · rw [if_pos c114] at h
                                refine lv_iconst (v := (nI 0)) hx hb dL_changes_287 (by decide) ?_
                                cases h
                                refine W.eq (g2 := F0 m 288 ls [.int (b2i false)]) rfl ?_
                                refine W.widen (k := 69) (n := 430) (by omega) (by omega) ?_
                                exact px_eWz (b2i_n _) hA0 hQ hP hD hS hx hb hr hlocks dL_changes_288
                              · rw [if_neg c114] at h
                                refine lv_iconst (v := (nI 1)) hx hb dL_changes_283 (by decide) ?_
                                refine lv_goto (tgt := 288) hx hb dL_changes_284 (by decide) ?_
                                cases h
                                refine W.eq (g2 := F0 m 288 ls [.int (b2i true)]) rfl ?_
                                refine W.widen (k := 69) (n := 430) (by omega) (by omega) ?_
                                exact px_eWz (b2i_n _) hA0 hQ hP hD hS hx hb hr hlocks dL_changes_288
                            · rw [if_neg c108] at h
                              by_cases c115 : r13 = nI 14
                              · rw [if_pos c115] at h
                                refine lv_tableIn (off := 223) (tgt := 268) hx hb dL_changes_45 (by rw [c115]; decide) (by rw [c115]; decide) (by rw [c115]; rfl) (by decide) ?_
                                refine lv_aload_n hx hb dL_changes_268 rfl (lv_at hl 3 rfl) ?_
                                refine lv_iload_n hx hb dL_changes_269 rfl (lv_at hl 4 rfl) ?_
                                refine lv_iconst (v := (nI 4)) hx hb dL_changes_270 (by decide) ?_
                                refine lv_ishr hx hb dL_changes_271 ?_
                                refine lv_iconst (v := (nI 5)) hx hb dL_changes_272 (by decide) ?_
                                obtain ⟨r116, hr117, h⟩ := ob h
                                refine px_Sp (As := [.int (x1 >>> ((nI 4) &&& 31)), .int (nI 5)]) (rest := [.ref (b_o 0 0)]) (gs := ([gO E b_o w7] : List va_W)) (gc := ([] : List va_W)) ⟨hx, hb, hml, hown, hts⟩ (mL_some l E   ((x1 >>> ((nI 4) &&& 31))) ((nI 5))  r116 hr117) (va_cwS 2 hts (ws_s q931 q932 q17 q933) rfl rfl rfl hdS_L_some (by rw [hR]; first | exact ⟨Nat.le_of_ble_eq_true rfl, Nat.le_of_ble_eq_true rfl⟩ | exact ⟨by show _ ≤ (69 : Nat); omega, by show _ ≤ (430 : Nat); omega⟩)) hK hN hP hD [] rfl (by decide) rfl hl.1 rfl (Nat.le_of_ble_eq_true rfl) dL_changes_273 (by rw [hR]; first | exact ⟨Nat.le_of_ble_eq_true rfl, Nat.le_of_ble_eq_true rfl⟩ | exact ⟨by show _ ≤ (69 : Nat); omega, by show _ ≤ (430 : Nat); omega⟩) ?_
                                refine W.eq (g2 := F0 m 276 ls [.int r116, .ref (b_o 0 0)]) rfl ?_
                                refine lv_iload_n hx hb dL_changes_276 rfl (lv_at hl 1 rfl) ?_
                                obtain ⟨⟨r118, w119⟩, hr120, h⟩ := ob h
                                dsimp only at h
                                refine px_SL (As := [.ref (b_o 0 0), .int r116, .int r9]) (rest := []) (gs := ([gO E b_o w7] : List va_W)) (gr := ([] : List va_W)) (gc := ([gO E b_o w7] : List va_W)) (g1 := ([gO E b_o w119] : List va_W)) (g2 := ([gO E b_o w119] : List va_W)) ⟨hx, hb, hml, hown, hts⟩ (mT_put l hlt E X L b_o (r116) (r9)  (w7) r118 w119 hr120) (vx_cwSW 3 hts (wsw_s q1160 q1161 q17 q1162) rfl rfl rfl hdS_L_put (by rw [hR]; first | exact ⟨Nat.le_of_ble_eq_true rfl, Nat.le_of_ble_eq_true rfl⟩ | exact ⟨by show _ ≤ (69 : Nat); omega, by show _ ≤ (430 : Nat); omega⟩)) hK hN hX hL hP hD hS hA [] [0] [0] rfl rfl (by decide) (by decide) rfl (by decide) rfl hl.1 rfl (Nat.le_of_ble_eq_true rfl) dL_changes_277 (by rw [hR]; first | exact ⟨Nat.le_of_ble_eq_true rfl, Nat.le_of_ble_eq_true rfl⟩ | exact ⟨by show _ ≤ (69 : Nat); omega, by show _ ≤ (430 : Nat); omega⟩) (fun H locs hP hD hS => ?_)
                                refine W.eq (g2 := F0 m 280 ls [.int r118]) rfl ?_
                                refine lv_if_lt (tgt := 287) hx hb dL_changes_280 (by decide) (fun c121 => ?_) (fun c121 => ?_)
                                · rw [if_pos c121] at h
                                  refine lv_iconst (v := (nI 0)) hx hb dL_changes_287 (by decide) ?_
                                  cases h
                                  refine W.eq (g2 := F0 m 288 ls [.int (b2i false)]) rfl ?_
                                  refine W.widen (k := 69) (n := 430) (by omega) (by omega) ?_
                                  exact px_eWz (b2i_n _) hA0 hQ hP hD hS hx hb hr hlocks dL_changes_288
                                · rw [if_neg c121] at h
                                  refine lv_iconst (v := (nI 1)) hx hb dL_changes_283 (by decide) ?_
                                  refine lv_goto (tgt := 288) hx hb dL_changes_284 (by decide) ?_
                                  cases h
                                  refine W.eq (g2 := F0 m 288 ls [.int (b2i true)]) rfl ?_
                                  refine W.widen (k := 69) (n := 430) (by omega) (by omega) ?_
                                  exact px_eWz (b2i_n _) hA0 hQ hP hD hS hx hb hr hlocks dL_changes_288
                              · rw [if_neg c115] at h
                                by_cases c122 : r13 = nI 15
                                · rw [if_pos c122] at h
                                  refine lv_tableIn (off := 244) (tgt := 289) hx hb dL_changes_45 (by rw [c122]; decide) (by rw [c122]; decide) (by rw [c122]; rfl) (by decide) ?_
                                  refine lv_aload_n hx hb dL_changes_289 rfl (lv_at hl 3 rfl) ?_
                                  refine lv_iload_n hx hb dL_changes_290 rfl (lv_at hl 2 rfl) ?_
                                  refine lv_iload hx hb dL_changes_291 (lv_at hl 0 rfl) ?_
                                  obtain ⟨⟨r123, w124⟩, hr125, h⟩ := ob h
                                  dsimp only at h
                                  refine px_SL (As := [.ref (b_o 0 0), .int r4, .int r11]) (rest := []) (gs := ([gO E b_o w7] : List va_W)) (gr := ([] : List va_W)) (gc := ([gO E b_o w7] : List va_W)) (g1 := ([gO E b_o w124] : List va_W)) (g2 := ([gO E b_o w124] : List va_W)) ⟨hx, hb, hml, hown, hts⟩ (mT_play l hlt E X L b_o (r4) (r11)  (w7) r123 w124 hr125) (vx_cwSW 3 hts (wsw_s q1182 q1183 q17 q1184) rfl rfl rfl hdS_L_play (by rw [hR]; first | exact ⟨Nat.le_of_ble_eq_true rfl, Nat.le_of_ble_eq_true rfl⟩ | exact ⟨by show _ ≤ (69 : Nat); omega, by show _ ≤ (430 : Nat); omega⟩)) hK hN hX hL hP hD hS hA [] [0] [0] rfl rfl (by decide) (by decide) rfl (by decide) rfl hl.1 rfl (Nat.le_of_ble_eq_true rfl) dL_changes_293 (by rw [hR]; first | exact ⟨Nat.le_of_ble_eq_true rfl, Nat.le_of_ble_eq_true rfl⟩ | exact ⟨by show _ ≤ (69 : Nat); omega, by show _ ≤ (430 : Nat); omega⟩) (fun H locs hP hD hS => ?_)
                                  refine W.eq (g2 := F0 m 296 ls [.int r123]) rfl ?_
                                  refine lv_if_lt (tgt := 303) hx hb dL_changes_296 (by decide) (fun c126 => ?_) (fun c126 => ?_)
                                  · rw [if_pos c126] at h
                                    refine lv_iconst (v := (nI 0)) hx hb dL_changes_303 (by decide) ?_
                                    cases h
                                    refine W.eq (g2 := F0 m 304 ls [.int (b2i false)]) rfl ?_
                                    refine W.widen (k := 69) (n := 430) (by omega) (by omega) ?_
                                    exact px_eWz (b2i_n _) hA0 hQ hP hD hS hx hb hr hlocks dL_changes_304
                                  · rw [if_neg c126] at h
                                    refine lv_iconst (v := (nI 1)) hx hb dL_changes_299 (by decide) ?_
                                    refine lv_goto (tgt := 304) hx hb dL_changes_300 (by decide) ?_
                                    cases h
                                    refine W.eq (g2 := F0 m 304 ls [.int (b2i true)]) rfl ?_
                                    refine W.widen (k := 69) (n := 430) (by omega) (by omega) ?_
                                    exact px_eWz (b2i_n _) hA0 hQ hP hD hS hx hb hr hlocks dL_changes_304
                                · rw [if_neg c122] at h
                                  refine px_tdef hx hb dL_changes_45 (fun w1 w2 => ?_) (tgt := 305) (by decide) ?_
                                  · obtain w | w | w | w | w | w | w | w | w | w | w | w | w | w | w | w : (r13).toInt = 0 ∨ (r13).toInt = 1 ∨ (r13).toInt = 2 ∨ (r13).toInt = 3 ∨ (r13).toInt = 4 ∨ (r13).toInt = 5 ∨ (r13).toInt = 6 ∨ (r13).toInt = 7 ∨ (r13).toInt = 8 ∨ (r13).toInt = 9 ∨ (r13).toInt = 10 ∨ (r13).toInt = 11 ∨ (r13).toInt = 12 ∨ (r13).toInt = 13 ∨ (r13).toInt = 14 ∨ (r13).toInt = 15 := by omega
                                    · exact absurd (Int32.toInt_inj.mp (w.trans (show (0 : Int) = (nI 0).toInt from by decide))) c15
                                    · exact absurd (Int32.toInt_inj.mp (w.trans (show (1 : Int) = (nI 1).toInt from by decide))) c24
                                    · exact absurd (Int32.toInt_inj.mp (w.trans (show (2 : Int) = (nI 2).toInt from by decide))) c33
                                    · exact absurd (Int32.toInt_inj.mp (w.trans (show (3 : Int) = (nI 3).toInt from by decide))) c42
                                    · exact absurd (Int32.toInt_inj.mp (w.trans (show (4 : Int) = (nI 4).toInt from by decide))) c51
                                    · exact absurd (Int32.toInt_inj.mp (w.trans (show (5 : Int) = (nI 5).toInt from by decide))) c56
                                    · exact absurd (Int32.toInt_inj.mp (w.trans (show (6 : Int) = (nI 6).toInt from by decide))) c61
                                    · exact absurd (Int32.toInt_inj.mp (w.trans (show (7 : Int) = (nI 7).toInt from by decide))) c71
                                    · exact absurd (Int32.toInt_inj.mp (w.trans (show (8 : Int) = (nI 8).toInt from by decide))) c81
                                    · exact absurd (Int32.toInt_inj.mp (w.trans (show (9 : Int) = (nI 9).toInt from by decide))) c86
                                    · exact absurd (Int32.toInt_inj.mp (w.trans (show (10 : Int) = (nI 10).toInt from by decide))) c91
                                    · exact absurd (Int32.toInt_inj.mp (w.trans (show (11 : Int) = (nI 11).toInt from by decide))) c96
                                    · exact absurd (Int32.toInt_inj.mp (w.trans (show (12 : Int) = (nI 12).toInt from by decide))) c101
                                    · exact absurd (Int32.toInt_inj.mp (w.trans (show (13 : Int) = (nI 13).toInt from by decide))) c108
                                    · exact absurd (Int32.toInt_inj.mp (w.trans (show (14 : Int) = (nI 14).toInt from by decide))) c115
                                    · exact absurd (Int32.toInt_inj.mp (w.trans (show (15 : Int) = (nI 15).toInt from by decide))) c122
                                  · refine lv_aload_n hx hb dL_changes_305 rfl (lv_at hl 3 rfl) ?_
                                    refine lv_iload_n hx hb dL_changes_306 rfl (lv_at hl 4 rfl) ?_
                                    refine lv_bipush (v := (nI 6)) hx hb dL_changes_307 (by decide) ?_
                                    refine lv_ishr hx hb dL_changes_309 ?_
                                    refine lv_iconst (v := (nI 1)) hx hb dL_changes_310 (by decide) ?_
                                    refine lv_iand hx hb dL_changes_311 ?_
                                    refine lv_if_ne (tgt := 383) hx hb dL_changes_312 (by decide) (fun c127 => ?_) (fun c127 => ?_)
                                    · rw [if_neg c127] at h
                                      refine px_new (gs := ([gO E b_o w7] : List va_W)) (ci := 10) (fs := [.null, .int 0, .int 0, .int 0]) (C := RJ4) (T := TJ4) (N := 4) hx hb hts iJ4 tyJ4 tyJ4_ok hown (hts _ q1195) (hts _ q1196) (hts _ q46) hK hP hD hS hA rfl (fun j hj => by rcases (show j = 0 ∨ j = 1 ∨ j = 2 ∨ j = 3 by omega) with rfl | rfl | rfl | rfl <;> rfl) (by rw [hR]; exact Nat.le_of_ble_eq_true rfl) (by rw [hR]; exact Nat.le_of_ble_eq_true rfl) dL_changes_383 (fun sbq H hP hD hS => ?_)
                                      have hP : va_P E.1 vwCl ([gO E b_o w7, gOb sbq 10 [.null, .int 0, .int 0, .int 0]] : List va_W).flatten H := hP
                                      have hD : va_D A ([gO E b_o w7, gOb sbq 10 [.null, .int 0, .int 0, .int 0]] : List va_W).flatten := hD
                                      refine lv_dup hx hb dL_changes_386 rfl ?_
                                      refine px_IEZ (As := []) (rest := [.ref sbq, .ref (b_o 0 0)]) (gs := ([gO E b_o w7, gOb sbq 10 [.null, .int 0, .int 0, .int 0]] : List va_W)) (gr := ([gO E b_o w7] : List va_W)) (gc := ([gOb sbq 10 [.null, .int 0, .int 0, .int 0]] : List va_W)) ⟨hx, hb, hml, hown, hts⟩ (c4_init l E X L sbq) (cwI 0 hts (ws_g q1199) rfl rfl rfl (hts _ q46) (hts _ q1197) (hts _ q1198) rfl hdI_J4_init_da8c8 (by rw [hR]; first | exact ⟨Nat.le_of_ble_eq_true rfl, Nat.le_of_ble_eq_true rfl⟩ | exact ⟨by show _ ≤ (69 : Nat); omega, by show _ ≤ (430 : Nat); omega⟩)) hK hN hX hL hP hD hS hA [0] [1] rfl rfl (by decide) (by decide) rfl hl.1 rfl (Nat.le_of_ble_eq_true rfl) dL_changes_387 (by rw [hR]; first | exact ⟨Nat.le_of_ble_eq_true rfl, Nat.le_of_ble_eq_true rfl⟩ | exact ⟨by show _ ≤ (69 : Nat); omega, by show _ ≤ (430 : Nat); omega⟩) (fun sbr sbv H locs hP hD hS => ?_)
                                      refine W.eq (g2 := F0 m 390 ls [.ref sbq, .ref (b_o 0 0)]) rfl ?_
                                      have hP : va_P E.1 vwCl ([gO E b_o w7, gB L sbq sbv (fun _ => 0) (nI (0))] : List va_W).flatten H := hP
                                      have hD : va_D A ([gO E b_o w7, gB L sbq sbv (fun _ => 0) (nI (0))] : List va_W).flatten := hD
                                      refine px_ldcSW (i := 10) (tx := "m") hx hb hown hX rfl dL_changes_390 ?_
                                      refine px_VZ (As := [.ref (X.1 10)]) (rest := [.ref (b_o 0 0)]) (gs := ([gO E b_o w7, gB L sbq sbv (fun _ => 0) (nI (0))] : List va_W)) (gr := ([gO E b_o w7] : List va_W)) (gc := ([gB L sbq sbv (fun _ => 0) (nI (0))] : List va_W)) (g1 := ([gB L sbq sbv (va_cpy (fun j => (sByt.getD 10 []).getD j 0) (fun _ => 0) 0 (0) (sLen.getD 10 0)) (nI (0 + (sLen.getD 10 0)))] : List va_W)) (g2 := ([gO E b_o w7, gB L sbq sbv (va_cpy (fun j => (sByt.getD 10 []).getD j 0) (fun _ => 0) 0 (0) (sLen.getD 10 0)) (nI (0 + (sLen.getD 10 0)))] : List va_W)) ⟨hx, hb, hml, hown, hts⟩ (c4_appendS l E X L sbq sbv (0) (fun _ => 0) (X.1 10, X.2.1 10, (sLen.getD 10 0), (fun j => (sByt.getD 10 []).getD j 0)) (px_ct (by decide)) (by decide) (sB_fit (by decide)) (by skip; show _ ≤ 16; simp only [show sLen.getD 6 0 = 1 from rfl, show sLen.getD 7 0 = 1 from rfl, show sLen.getD 8 0 = 1 from rfl, show sLen.getD 9 0 = 3 from rfl, show sLen.getD 10 0 = 1 from rfl, show sLen.getD 11 0 = 1 from rfl, show sLen.getD 12 0 = 1 from rfl]; omega)) (cw_V 1 hts q1226 q1227 q1228 q46 q1229 hdX_J4_append_15ec4 (by rw [hR]; first | exact ⟨Nat.le_of_ble_eq_true rfl, Nat.le_of_ble_eq_true rfl⟩ | exact ⟨by show _ ≤ (69 : Nat); omega, by show _ ≤ (430 : Nat); omega⟩)) (px_recv hK hP [1] rfl 0 10 rfl rfl rfl) hK hN hX hL hP hD hS hA [0] [1] [0, 1] rfl rfl (by decide) (by decide) rfl (by decide) rfl hl.1 rfl (Nat.le_of_ble_eq_true rfl) dL_changes_393 (by rw [hR]; first | exact ⟨Nat.le_of_ble_eq_true rfl, Nat.le_of_ble_eq_true rfl⟩ | exact ⟨by show _ ≤ (69 : Nat); omega, by show _ ≤ (430 : Nat); omega⟩) (fun H locs hP hD hS => ?_)
                                      refine W.eq (g2 := F0 m 396 ls [.ref sbq, .ref (b_o 0 0)]) rfl ?_
                                      refine lv_iload_n hx hb dL_changes_396 rfl (lv_at hl 4 rfl) ?_
                                      refine lv_iconst (v := (nI 4)) hx hb dL_changes_397 (by decide) ?_
                                      refine lv_ishr hx hb dL_changes_398 ?_
                                      refine lv_iconst (v := (nI 3)) hx hb dL_changes_399 (by decide) ?_
                                      obtain ⟨r128, hr129, h⟩ := ob h
                                      refine px_Sp (As := [.int (x1 >>> ((nI 4) &&& 31)), .int (nI 3)]) (rest := [.ref sbq, .ref (b_o 0 0)]) (gs := ([gO E b_o w7] : List va_W)) (gc := ([] : List va_W)) ⟨hx, hb, hml, hown, hts⟩ (mL_some l E   ((x1 >>> ((nI 4) &&& 31))) ((nI 3))  r128 hr129) (va_cwS 2 hts (ws_s q931 q932 q17 q933) rfl rfl rfl hdS_L_some (by rw [hR]; first | exact ⟨Nat.le_of_ble_eq_true rfl, Nat.le_of_ble_eq_true rfl⟩ | exact ⟨by show _ ≤ (69 : Nat); omega, by show _ ≤ (430 : Nat); omega⟩)) hK hN hP hD [] rfl (by decide) rfl hl.1 rfl (Nat.le_of_ble_eq_true rfl) dL_changes_400 (by rw [hR]; first | exact ⟨Nat.le_of_ble_eq_true rfl, Nat.le_of_ble_eq_true rfl⟩ | exact ⟨by show _ ≤ (69 : Nat); omega, by show _ ≤ (430 : Nat); omega⟩) ?_
                                      refine W.eq (g2 := F0 m 403 ls [.int r128, .ref sbq, .ref (b_o 0 0)]) rfl ?_
                                      obtain ⟨i130, h⟩ := o_t h
                                      obtain ⟨xs131, e132, h⟩ := lt_e h
                                      obtain ⟨hx133, e1329⟩ := inb_cl i130 (by decide) e132
                                      clear e132
                                      subst e1329
                                      refine px_VZ (As := [.int (nI xs131)]) (rest := [.ref (b_o 0 0)]) (gs := ([gO E b_o w7, gB L sbq sbv (va_cpy (fun j => (sByt.getD 10 []).getD j 0) (fun _ => 0) 0 (0) (sLen.getD 10 0)) (nI (0 + (sLen.getD 10 0)))] : List va_W)) (gr := ([gO E b_o w7] : List va_W)) (gc := ([gB L sbq sbv (va_cpy (fun j => (sByt.getD 10 []).getD j 0) (fun _ => 0) 0 (0) (sLen.getD 10 0)) (nI (0 + (sLen.getD 10 0)))] : List va_W)) (g1 := ([gB L sbq sbv (gff L (va_cpy (fun j => (sByt.getD 10 []).getD j 0) (fun _ => 0) 0 (0) (sLen.getD 10 0)) (0 + (sLen.getD 10 0) + dgs xs131) xs131) (nI (0 + (sLen.getD 10 0) + dgs xs131))] : List va_W)) (g2 := ([gO E b_o w7, gB L sbq sbv (gff L (va_cpy (fun j => (sByt.getD 10 []).getD j 0) (fun _ => 0) 0 (0) (sLen.getD 10 0)) (0 + (sLen.getD 10 0) + dgs xs131) xs131) (nI (0 + (sLen.getD 10 0) + dgs xs131))] : List va_W)) ⟨hx, hb, hml, hown, hts⟩ (c4_appendI l E X L sbq sbv (0 + (sLen.getD 10 0)) xs131 (va_cpy (fun j => (sByt.getD 10 []).getD j 0) (fun _ => 0) 0 (0) (sLen.getD 10 0)) hx133 (by have := dgs_le xs131; show _ ≤ 16; simp only [show sLen.getD 6 0 = 1 from rfl, show sLen.getD 7 0 = 1 from rfl, show sLen.getD 8 0 = 1 from rfl, show sLen.getD 9 0 = 3 from rfl, show sLen.getD 10 0 = 1 from rfl, show sLen.getD 11 0 = 1 from rfl, show sLen.getD 12 0 = 1 from rfl]; omega)) (cw_V 1 hts q1321 q1322 q1323 q46 q1324 hdX_J4_append_bf812 (by rw [hR]; first | exact ⟨Nat.le_of_ble_eq_true rfl, Nat.le_of_ble_eq_true rfl⟩ | exact ⟨by show _ ≤ (69 : Nat); omega, by show _ ≤ (430 : Nat); omega⟩)) (px_recv hK hP [1] rfl 0 10 rfl rfl rfl) hK hN hX hL hP hD hS hA [0] [1] [0, 1] rfl rfl (by decide) (by decide) rfl (by decide) rfl hl.1 rfl (Nat.le_of_ble_eq_true rfl) dL_changes_403 (by rw [hR]; first | exact ⟨Nat.le_of_ble_eq_true rfl, Nat.le_of_ble_eq_true rfl⟩ | exact ⟨by show _ ≤ (69 : Nat); omega, by show _ ≤ (430 : Nat); omega⟩) (fun H locs hP hD hS => ?_)
                                      refine W.eq (g2 := F0 m 406 ls [.ref sbq, .ref (b_o 0 0)]) rfl ?_
                                      refine px_ldcSW (i := 11) (tx := "<") hx hb hown hX rfl dL_changes_406 ?_
                                      refine px_VZ (As := [.ref (X.1 11)]) (rest := [.ref (b_o 0 0)]) (gs := ([gO E b_o w7, gB L sbq sbv (gff L (va_cpy (fun j => (sByt.getD 10 []).getD j 0) (fun _ => 0) 0 (0) (sLen.getD 10 0)) (0 + (sLen.getD 10 0) + dgs xs131) xs131) (nI (0 + (sLen.getD 10 0) + dgs xs131))] : List va_W)) (gr := ([gO E b_o w7] : List va_W)) (gc := ([gB L sbq sbv (gff L (va_cpy (fun j => (sByt.getD 10 []).getD j 0) (fun _ => 0) 0 (0) (sLen.getD 10 0)) (0 + (sLen.getD 10 0) + dgs xs131) xs131) (nI (0 + (sLen.getD 10 0) + dgs xs131))] : List va_W)) (g1 := ([gB L sbq sbv (va_cpy (fun j => (sByt.getD 11 []).getD j 0) (gff L (va_cpy (fun j => (sByt.getD 10 []).getD j 0) (fun _ => 0) 0 (0) (sLen.getD 10 0)) (0 + (sLen.getD 10 0) + dgs xs131) xs131) 0 (0 + (sLen.getD 10 0) + dgs xs131) (sLen.getD 11 0)) (nI (0 + (sLen.getD 10 0) + dgs xs131 + (sLen.getD 11 0)))] : List va_W)) (g2 := ([gO E b_o w7, gB L sbq sbv (va_cpy (fun j => (sByt.getD 11 []).getD j 0) (gff L (va_cpy (fun j => (sByt.getD 10 []).getD j 0) (fun _ => 0) 0 (0) (sLen.getD 10 0)) (0 + (sLen.getD 10 0) + dgs xs131) xs131) 0 (0 + (sLen.getD 10 0) + dgs xs131) (sLen.getD 11 0)) (nI (0 + (sLen.getD 10 0) + dgs xs131 + (sLen.getD 11 0)))] : List va_W)) ⟨hx, hb, hml, hown, hts⟩ (c4_appendS l E X L sbq sbv (0 + (sLen.getD 10 0) + dgs xs131) (gff L (va_cpy (fun j => (sByt.getD 10 []).getD j 0) (fun _ => 0) 0 (0) (sLen.getD 10 0)) (0 + (sLen.getD 10 0) + dgs xs131) xs131) (X.1 11, X.2.1 11, (sLen.getD 11 0), (fun j => (sByt.getD 11 []).getD j 0)) (px_ct (by decide)) (by decide) (sB_fit (by decide)) (by have := dgs_le xs131; show _ ≤ 16; simp only [show sLen.getD 6 0 = 1 from rfl, show sLen.getD 7 0 = 1 from rfl, show sLen.getD 8 0 = 1 from rfl, show sLen.getD 9 0 = 3 from rfl, show sLen.getD 10 0 = 1 from rfl, show sLen.getD 11 0 = 1 from rfl, show sLen.getD 12 0 = 1 from rfl]; omega)) (cw_V 1 hts q1226 q1227 q1228 q46 q1229 hdX_J4_append_15ec4 (by rw [hR]; first | exact ⟨Nat.le_of_ble_eq_true rfl, Nat.le_of_ble_eq_true rfl⟩ | exact ⟨by show _ ≤ (69 : Nat); omega, by show _ ≤ (430 : Nat); omega⟩)) (px_recv hK hP [1] rfl 0 10 rfl rfl rfl) hK hN hX hL hP hD hS hA [0] [1] [0, 1] rfl rfl (by decide) (by decide) rfl (by decide) rfl hl.1 rfl (Nat.le_of_ble_eq_true rfl) dL_changes_409 (by rw [hR]; first | exact ⟨Nat.le_of_ble_eq_true rfl, Nat.le_of_ble_eq_true rfl⟩ | exact ⟨by show _ ≤ (69 : Nat); omega, by show _ ≤ (430 : Nat); omega⟩) (fun H locs hP hD hS => ?_)
                                      refine W.eq (g2 := F0 m 412 ls [.ref sbq, .ref (b_o 0 0)]) rfl ?_
                                      refine lv_iload_n hx hb dL_changes_412 rfl (lv_at hl 4 rfl) ?_
                                      refine lv_bipush (v := (nI 7)) hx hb dL_changes_413 (by decide) ?_
                                      refine lv_ishr hx hb dL_changes_415 ?_
                                      refine lv_iconst (v := (nI 3)) hx hb dL_changes_416 (by decide) ?_
                                      obtain ⟨r134, hr135, h⟩ := ob h
                                      refine px_Sp (As := [.int (x1 >>> ((nI 7) &&& 31)), .int (nI 3)]) (rest := [.ref sbq, .ref (b_o 0 0)]) (gs := ([gO E b_o w7] : List va_W)) (gc := ([] : List va_W)) ⟨hx, hb, hml, hown, hts⟩ (mL_some l E   ((x1 >>> ((nI 7) &&& 31))) ((nI 3))  r134 hr135) (va_cwS 2 hts (ws_s q931 q932 q17 q933) rfl rfl rfl hdS_L_some (by rw [hR]; first | exact ⟨Nat.le_of_ble_eq_true rfl, Nat.le_of_ble_eq_true rfl⟩ | exact ⟨by show _ ≤ (69 : Nat); omega, by show _ ≤ (430 : Nat); omega⟩)) hK hN hP hD [] rfl (by decide) rfl hl.1 rfl (Nat.le_of_ble_eq_true rfl) dL_changes_417 (by rw [hR]; first | exact ⟨Nat.le_of_ble_eq_true rfl, Nat.le_of_ble_eq_true rfl⟩ | exact ⟨by show _ ≤ (69 : Nat); omega, by show _ ≤ (430 : Nat); omega⟩) ?_
                                      refine W.eq (g2 := F0 m 420 ls [.int r134, .ref sbq, .ref (b_o 0 0)]) rfl ?_
                                      obtain ⟨i136, h⟩ := o_t h
                                      obtain ⟨xs137, e138, h⟩ := lt_e h
                                      obtain ⟨hx139, e1389⟩ := inb_cl i136 (by decide) e138
                                      clear e138
                                      subst e1389
                                      refine px_VZ (As := [.int (nI xs137)]) (rest := [.ref (b_o 0 0)]) (gs := ([gO E b_o w7, gB L sbq sbv (va_cpy (fun j => (sByt.getD 11 []).getD j 0) (gff L (va_cpy (fun j => (sByt.getD 10 []).getD j 0) (fun _ => 0) 0 (0) (sLen.getD 10 0)) (0 + (sLen.getD 10 0) + dgs xs131) xs131) 0 (0 + (sLen.getD 10 0) + dgs xs131) (sLen.getD 11 0)) (nI (0 + (sLen.getD 10 0) + dgs xs131 + (sLen.getD 11 0)))] : List va_W)) (gr := ([gO E b_o w7] : List va_W)) (gc := ([gB L sbq sbv (va_cpy (fun j => (sByt.getD 11 []).getD j 0) (gff L (va_cpy (fun j => (sByt.getD 10 []).getD j 0) (fun _ => 0) 0 (0) (sLen.getD 10 0)) (0 + (sLen.getD 10 0) + dgs xs131) xs131) 0 (0 + (sLen.getD 10 0) + dgs xs131) (sLen.getD 11 0)) (nI (0 + (sLen.getD 10 0) + dgs xs131 + (sLen.getD 11 0)))] : List va_W)) (g1 := ([gB L sbq sbv (gff L (va_cpy (fun j => (sByt.getD 11 []).getD j 0) (gff L (va_cpy (fun j => (sByt.getD 10 []).getD j 0) (fun _ => 0) 0 (0) (sLen.getD 10 0)) (0 + (sLen.getD 10 0) + dgs xs131) xs131) 0 (0 + (sLen.getD 10 0) + dgs xs131) (sLen.getD 11 0)) (0 + (sLen.getD 10 0) + dgs xs131 + (sLen.getD 11 0) + dgs xs137) xs137) (nI (0 + (sLen.getD 10 0) + dgs xs131 + (sLen.getD 11 0) + dgs xs137))] : List va_W)) (g2 := ([gO E b_o w7, gB L sbq sbv (gff L (va_cpy (fun j => (sByt.getD 11 []).getD j 0) (gff L (va_cpy (fun j => (sByt.getD 10 []).getD j 0) (fun _ => 0) 0 (0) (sLen.getD 10 0)) (0 + (sLen.getD 10 0) + dgs xs131) xs131) 0 (0 + (sLen.getD 10 0) + dgs xs131) (sLen.getD 11 0)) (0 + (sLen.getD 10 0) + dgs xs131 + (sLen.getD 11 0) + dgs xs137) xs137) (nI (0 + (sLen.getD 10 0) + dgs xs131 + (sLen.getD 11 0) + dgs xs137))] : List va_W)) ⟨hx, hb, hml, hown, hts⟩ (c4_appendI l E X L sbq sbv (0 + (sLen.getD 10 0) + dgs xs131 + (sLen.getD 11 0)) xs137 (va_cpy (fun j => (sByt.getD 11 []).getD j 0) (gff L (va_cpy (fun j => (sByt.getD 10 []).getD j 0) (fun _ => 0) 0 (0) (sLen.getD 10 0)) (0 + (sLen.getD 10 0) + dgs xs131) xs131) 0 (0 + (sLen.getD 10 0) + dgs xs131) (sLen.getD 11 0)) hx139 (by have := dgs_le xs131; have := dgs_le xs137; show _ ≤ 16; simp only [show sLen.getD 6 0 = 1 from rfl, show sLen.getD 7 0 = 1 from rfl, show sLen.getD 8 0 = 1 from rfl, show sLen.getD 9 0 = 3 from rfl, show sLen.getD 10 0 = 1 from rfl, show sLen.getD 11 0 = 1 from rfl, show sLen.getD 12 0 = 1 from rfl]; omega)) (cw_V 1 hts q1321 q1322 q1323 q46 q1324 hdX_J4_append_bf812 (by rw [hR]; first | exact ⟨Nat.le_of_ble_eq_true rfl, Nat.le_of_ble_eq_true rfl⟩ | exact ⟨by show _ ≤ (69 : Nat); omega, by show _ ≤ (430 : Nat); omega⟩)) (px_recv hK hP [1] rfl 0 10 rfl rfl rfl) hK hN hX hL hP hD hS hA [0] [1] [0, 1] rfl rfl (by decide) (by decide) rfl (by decide) rfl hl.1 rfl (Nat.le_of_ble_eq_true rfl) dL_changes_420 (by rw [hR]; first | exact ⟨Nat.le_of_ble_eq_true rfl, Nat.le_of_ble_eq_true rfl⟩ | exact ⟨by show _ ≤ (69 : Nat); omega, by show _ ≤ (430 : Nat); omega⟩) (fun H locs hP hD hS => ?_)
                                      refine W.eq (g2 := F0 m 423 ls [.ref sbq, .ref (b_o 0 0)]) rfl ?_
                                      refine px_ldcSW (i := 12) (tx := "!") hx hb hown hX rfl dL_changes_423 ?_
                                      refine px_VZ (As := [.ref (X.1 12)]) (rest := [.ref (b_o 0 0)]) (gs := ([gO E b_o w7, gB L sbq sbv (gff L (va_cpy (fun j => (sByt.getD 11 []).getD j 0) (gff L (va_cpy (fun j => (sByt.getD 10 []).getD j 0) (fun _ => 0) 0 (0) (sLen.getD 10 0)) (0 + (sLen.getD 10 0) + dgs xs131) xs131) 0 (0 + (sLen.getD 10 0) + dgs xs131) (sLen.getD 11 0)) (0 + (sLen.getD 10 0) + dgs xs131 + (sLen.getD 11 0) + dgs xs137) xs137) (nI (0 + (sLen.getD 10 0) + dgs xs131 + (sLen.getD 11 0) + dgs xs137))] : List va_W)) (gr := ([gO E b_o w7] : List va_W)) (gc := ([gB L sbq sbv (gff L (va_cpy (fun j => (sByt.getD 11 []).getD j 0) (gff L (va_cpy (fun j => (sByt.getD 10 []).getD j 0) (fun _ => 0) 0 (0) (sLen.getD 10 0)) (0 + (sLen.getD 10 0) + dgs xs131) xs131) 0 (0 + (sLen.getD 10 0) + dgs xs131) (sLen.getD 11 0)) (0 + (sLen.getD 10 0) + dgs xs131 + (sLen.getD 11 0) + dgs xs137) xs137) (nI (0 + (sLen.getD 10 0) + dgs xs131 + (sLen.getD 11 0) + dgs xs137))] : List va_W)) (g1 := ([gB L sbq sbv (va_cpy (fun j => (sByt.getD 12 []).getD j 0) (gff L (va_cpy (fun j => (sByt.getD 11 []).getD j 0) (gff L (va_cpy (fun j => (sByt.getD 10 []).getD j 0) (fun _ => 0) 0 (0) (sLen.getD 10 0)) (0 + (sLen.getD 10 0) + dgs xs131) xs131) 0 (0 + (sLen.getD 10 0) + dgs xs131) (sLen.getD 11 0)) (0 + (sLen.getD 10 0) + dgs xs131 + (sLen.getD 11 0) + dgs xs137) xs137) 0 (0 + (sLen.getD 10 0) + dgs xs131 + (sLen.getD 11 0) + dgs xs137) (sLen.getD 12 0)) (nI (0 + (sLen.getD 10 0) + dgs xs131 + (sLen.getD 11 0) + dgs xs137 + (sLen.getD 12 0)))] : List va_W)) (g2 := ([gO E b_o w7, gB L sbq sbv (va_cpy (fun j => (sByt.getD 12 []).getD j 0) (gff L (va_cpy (fun j => (sByt.getD 11 []).getD j 0) (gff L (va_cpy (fun j => (sByt.getD 10 []).getD j 0) (fun _ => 0) 0 (0) (sLen.getD 10 0)) (0 + (sLen.getD 10 0) + dgs xs131) xs131) 0 (0 + (sLen.getD 10 0) + dgs xs131) (sLen.getD 11 0)) (0 + (sLen.getD 10 0) + dgs xs131 + (sLen.getD 11 0) + dgs xs137) xs137) 0 (0 + (sLen.getD 10 0) + dgs xs131 + (sLen.getD 11 0) + dgs xs137) (sLen.getD 12 0)) (nI (0 + (sLen.getD 10 0) + dgs xs131 + (sLen.getD 11 0) + dgs xs137 + (sLen.getD 12 0)))] : List va_W)) ⟨hx, hb, hml, hown, hts⟩ (c4_appendS l E X L sbq sbv (0 + (sLen.getD 10 0) + dgs xs131 + (sLen.getD 11 0) + dgs xs137) (gff L (va_cpy (fun j => (sByt.getD 11 []).getD j 0) (gff L (va_cpy (fun j => (sByt.getD 10 []).getD j 0) (fun _ => 0) 0 (0) (sLen.getD 10 0)) (0 + (sLen.getD 10 0) + dgs xs131) xs131) 0 (0 + (sLen.getD 10 0) + dgs xs131) (sLen.getD 11 0)) (0 + (sLen.getD 10 0) + dgs xs131 + (sLen.getD 11 0) + dgs xs137) xs137) (X.1 12, X.2.1 12, (sLen.getD 12 0), (fun j => (sByt.getD 12 []).getD j 0)) (px_ct (by decide)) (by decide) (sB_fit (by decide)) (by have := dgs_le xs131; have := dgs_le xs137; show _ ≤ 16; simp only [show sLen.getD 6 0 = 1 from rfl, show sLen.getD 7 0 = 1 from rfl, show sLen.getD 8 0 = 1 from rfl, show sLen.getD 9 0 = 3 from rfl, show sLen.getD 10 0 = 1 from rfl, show sLen.getD 11 0 = 1 from rfl, show sLen.getD 12 0 = 1 from rfl]; omega)) (cw_V 1 hts q1226 q1227 q1228 q46 q1229 hdX_J4_append_15ec4 (by rw [hR]; first | exact ⟨Nat.le_of_ble_eq_true rfl, Nat.le_of_ble_eq_true rfl⟩ | exact ⟨by show _ ≤ (69 : Nat); omega, by show _ ≤ (430 : Nat); omega⟩)) (px_recv hK hP [1] rfl 0 10 rfl rfl rfl) hK hN hX hL hP hD hS hA [0] [1] [0, 1] rfl rfl (by decide) (by decide) rfl (by decide) rfl hl.1 rfl (Nat.le_of_ble_eq_true rfl) dL_changes_426 (by rw [hR]; first | exact ⟨Nat.le_of_ble_eq_true rfl, Nat.le_of_ble_eq_true rfl⟩ | exact ⟨by show _ ≤ (69 : Nat); omega, by show _ ≤ (430 : Nat); omega⟩) (fun H locs hP hD hS => ?_)
                                      refine W.eq (g2 := F0 m 429 ls [.ref sbq, .ref (b_o 0 0)]) rfl ?_
                                      refine lv_iload_n hx hb dL_changes_429 rfl (lv_at hl 4 rfl) ?_
                                      refine lv_bipush (v := (nI 9)) hx hb dL_changes_430 (by decide) ?_
                                      refine lv_ishr hx hb dL_changes_432 ?_
                                      refine lv_iconst (v := (nI 4)) hx hb dL_changes_433 (by decide) ?_
                                      obtain ⟨r140, hr141, h⟩ := ob h
                                      refine px_Sp (As := [.int (x1 >>> ((nI 9) &&& 31)), .int (nI 4)]) (rest := [.ref sbq, .ref (b_o 0 0)]) (gs := ([gO E b_o w7] : List va_W)) (gc := ([] : List va_W)) ⟨hx, hb, hml, hown, hts⟩ (mL_some l E   ((x1 >>> ((nI 9) &&& 31))) ((nI 4))  r140 hr141) (va_cwS 2 hts (ws_s q931 q932 q17 q933) rfl rfl rfl hdS_L_some (by rw [hR]; first | exact ⟨Nat.le_of_ble_eq_true rfl, Nat.le_of_ble_eq_true rfl⟩ | exact ⟨by show _ ≤ (69 : Nat); omega, by show _ ≤ (430 : Nat); omega⟩)) hK hN hP hD [] rfl (by decide) rfl hl.1 rfl (Nat.le_of_ble_eq_true rfl) dL_changes_434 (by rw [hR]; first | exact ⟨Nat.le_of_ble_eq_true rfl, Nat.le_of_ble_eq_true rfl⟩ | exact ⟨by show _ ≤ (69 : Nat); omega, by show _ ≤ (430 : Nat); omega⟩) ?_
                                      refine W.eq (g2 := F0 m 437 ls [.int r140, .ref sbq, .ref (b_o 0 0)]) rfl ?_
                                      obtain ⟨i142, h⟩ := o_t h
                                      obtain ⟨xs143, e144, h⟩ := lt_e h
                                      obtain ⟨hx145, e1449⟩ := inb_cl i142 (by decide) e144
                                      clear e144
                                      subst e1449
                                      refine px_VZ (As := [.int (nI xs143)]) (rest := [.ref (b_o 0 0)]) (gs := ([gO E b_o w7, gB L sbq sbv (va_cpy (fun j => (sByt.getD 12 []).getD j 0) (gff L (va_cpy (fun j => (sByt.getD 11 []).getD j 0) (gff L (va_cpy (fun j => (sByt.getD 10 []).getD j 0) (fun _ => 0) 0 (0) (sLen.getD 10 0)) (0 + (sLen.getD 10 0) + dgs xs131) xs131) 0 (0 + (sLen.getD 10 0) + dgs xs131) (sLen.getD 11 0)) (0 + (sLen.getD 10 0) + dgs xs131 + (sLen.getD 11 0) + dgs xs137) xs137) 0 (0 + (sLen.getD 10 0) + dgs xs131 + (sLen.getD 11 0) + dgs xs137) (sLen.getD 12 0)) (nI (0 + (sLen.getD 10 0) + dgs xs131 + (sLen.getD 11 0) + dgs xs137 + (sLen.getD 12 0)))] : List va_W)) (gr := ([gO E b_o w7] : List va_W)) (gc := ([gB L sbq sbv (va_cpy (fun j => (sByt.getD 12 []).getD j 0) (gff L (va_cpy (fun j => (sByt.getD 11 []).getD j 0) (gff L (va_cpy (fun j => (sByt.getD 10 []).getD j 0) (fun _ => 0) 0 (0) (sLen.getD 10 0)) (0 + (sLen.getD 10 0) + dgs xs131) xs131) 0 (0 + (sLen.getD 10 0) + dgs xs131) (sLen.getD 11 0)) (0 + (sLen.getD 10 0) + dgs xs131 + (sLen.getD 11 0) + dgs xs137) xs137) 0 (0 + (sLen.getD 10 0) + dgs xs131 + (sLen.getD 11 0) + dgs xs137) (sLen.getD 12 0)) (nI (0 + (sLen.getD 10 0) + dgs xs131 + (sLen.getD 11 0) + dgs xs137 + (sLen.getD 12 0)))] : List va_W)) (g1 := ([gB L sbq sbv (gff L (va_cpy (fun j => (sByt.getD 12 []).getD j 0) (gff L (va_cpy (fun j => (sByt.getD 11 []).getD j 0) (gff L (va_cpy (fun j => (sByt.getD 10 []).getD j 0) (fun _ => 0) 0 (0) (sLen.getD 10 0)) (0 + (sLen.getD 10 0) + dgs xs131) xs131) 0 (0 + (sLen.getD 10 0) + dgs xs131) (sLen.getD 11 0)) (0 + (sLen.getD 10 0) + dgs xs131 + (sLen.getD 11 0) + dgs xs137) xs137) 0 (0 + (sLen.getD 10 0) + dgs xs131 + (sLen.getD 11 0) + dgs xs137) (sLen.getD 12 0)) (0 + (sLen.getD 10 0) + dgs xs131 + (sLen.getD 11 0) + dgs xs137 + (sLen.getD 12 0) + dgs xs143) xs143) (nI (0 + (sLen.getD 10 0) + dgs xs131 + (sLen.getD 11 0) + dgs xs137 + (sLen.getD 12 0) + dgs xs143))] : List va_W)) (g2 := ([gO E b_o w7, gB L sbq sbv (gff L (va_cpy (fun j => (sByt.getD 12 []).getD j 0) (gff L (va_cpy (fun j => (sByt.getD 11 []).getD j 0) (gff L (va_cpy (fun j => (sByt.getD 10 []).getD j 0) (fun _ => 0) 0 (0) (sLen.getD 10 0)) (0 + (sLen.getD 10 0) + dgs xs131) xs131) 0 (0 + (sLen.getD 10 0) + dgs xs131) (sLen.getD 11 0)) (0 + (sLen.getD 10 0) + dgs xs131 + (sLen.getD 11 0) + dgs xs137) xs137) 0 (0 + (sLen.getD 10 0) + dgs xs131 + (sLen.getD 11 0) + dgs xs137) (sLen.getD 12 0)) (0 + (sLen.getD 10 0) + dgs xs131 + (sLen.getD 11 0) + dgs xs137 + (sLen.getD 12 0) + dgs xs143) xs143) (nI (0 + (sLen.getD 10 0) + dgs xs131 + (sLen.getD 11 0) + dgs xs137 + (sLen.getD 12 0) + dgs xs143))] : List va_W)) ⟨hx, hb, hml, hown, hts⟩ (c4_appendI l E X L sbq sbv (0 + (sLen.getD 10 0) + dgs xs131 + (sLen.getD 11 0) + dgs xs137 + (sLen.getD 12 0)) xs143 (va_cpy (fun j => (sByt.getD 12 []).getD j 0) (gff L (va_cpy (fun j => (sByt.getD 11 []).getD j 0) (gff L (va_cpy (fun j => (sByt.getD 10 []).getD j 0) (fun _ => 0) 0 (0) (sLen.getD 10 0)) (0 + (sLen.getD 10 0) + dgs xs131) xs131) 0 (0 + (sLen.getD 10 0) + dgs xs131) (sLen.getD 11 0)) (0 + (sLen.getD 10 0) + dgs xs131 + (sLen.getD 11 0) + dgs xs137) xs137) 0 (0 + (sLen.getD 10 0) + dgs xs131 + (sLen.getD 11 0) + dgs xs137) (sLen.getD 12 0)) hx145 (by have := dgs_le xs131; have := dgs_le xs137; have := dgs_le xs143; show _ ≤ 16; simp only [show sLen.getD 6 0 = 1 from rfl, show sLen.getD 7 0 = 1 from rfl, show sLen.getD 8 0 = 1 from rfl, show sLen.getD 9 0 = 3 from rfl, show sLen.getD 10 0 = 1 from rfl, show sLen.getD 11 0 = 1 from rfl, show sLen.getD 12 0 = 1 from rfl]; omega)) (cw_V 1 hts q1321 q1322 q1323 q46 q1324 hdX_J4_append_bf812 (by rw [hR]; first | exact ⟨Nat.le_of_ble_eq_true rfl, Nat.le_of_ble_eq_true rfl⟩ | exact ⟨by show _ ≤ (69 : Nat); omega, by show _ ≤ (430 : Nat); omega⟩)) (px_recv hK hP [1] rfl 0 10 rfl rfl rfl) hK hN hX hL hP hD hS hA [0] [1] [0, 1] rfl rfl (by decide) (by decide) rfl (by decide) rfl hl.1 rfl (Nat.le_of_ble_eq_true rfl) dL_changes_437 (by rw [hR]; first | exact ⟨Nat.le_of_ble_eq_true rfl, Nat.le_of_ble_eq_true rfl⟩ | exact ⟨by show _ ≤ (69 : Nat); omega, by show _ ≤ (430 : Nat); omega⟩) (fun H locs hP hD hS => ?_)
                                      refine W.eq (g2 := F0 m 440 ls [.ref sbq, .ref (b_o 0 0)]) rfl ?_
                                      have hsb : 0 + (sLen.getD 10 0) + dgs xs131 + (sLen.getD 11 0) + dgs xs137 + (sLen.getD 12 0) + dgs xs143 < 16 := (by have := dgs_le xs131; have := dgs_le xs137; have := dgs_le xs143; show _ < 16; simp only [show sLen.getD 6 0 = 1 from rfl, show sLen.getD 7 0 = 1 from rfl, show sLen.getD 8 0 = 1 from rfl, show sLen.getD 9 0 = 3 from rfl, show sLen.getD 10 0 = 1 from rfl, show sLen.getD 11 0 = 1 from rfl, show sLen.getD 12 0 = 1 from rfl]; omega)
                                      refine px_VEZ (As := []) (rest := [.ref (b_o 0 0)]) (gs := ([gO E b_o w7, gB L sbq sbv (gff L (va_cpy (fun j => (sByt.getD 12 []).getD j 0) (gff L (va_cpy (fun j => (sByt.getD 11 []).getD j 0) (gff L (va_cpy (fun j => (sByt.getD 10 []).getD j 0) (fun _ => 0) 0 (0) (sLen.getD 10 0)) (0 + (sLen.getD 10 0) + dgs xs131) xs131) 0 (0 + (sLen.getD 10 0) + dgs xs131) (sLen.getD 11 0)) (0 + (sLen.getD 10 0) + dgs xs131 + (sLen.getD 11 0) + dgs xs137) xs137) 0 (0 + (sLen.getD 10 0) + dgs xs131 + (sLen.getD 11 0) + dgs xs137) (sLen.getD 12 0)) (0 + (sLen.getD 10 0) + dgs xs131 + (sLen.getD 11 0) + dgs xs137 + (sLen.getD 12 0) + dgs xs143) xs143) (nI (0 + (sLen.getD 10 0) + dgs xs131 + (sLen.getD 11 0) + dgs xs137 + (sLen.getD 12 0) + dgs xs143))] : List va_W)) (gr := ([gO E b_o w7] : List va_W)) (gc := ([gB L sbq sbv (gff L (va_cpy (fun j => (sByt.getD 12 []).getD j 0) (gff L (va_cpy (fun j => (sByt.getD 11 []).getD j 0) (gff L (va_cpy (fun j => (sByt.getD 10 []).getD j 0) (fun _ => 0) 0 (0) (sLen.getD 10 0)) (0 + (sLen.getD 10 0) + dgs xs131) xs131) 0 (0 + (sLen.getD 10 0) + dgs xs131) (sLen.getD 11 0)) (0 + (sLen.getD 10 0) + dgs xs131 + (sLen.getD 11 0) + dgs xs137) xs137) 0 (0 + (sLen.getD 10 0) + dgs xs131 + (sLen.getD 11 0) + dgs xs137) (sLen.getD 12 0)) (0 + (sLen.getD 10 0) + dgs xs131 + (sLen.getD 11 0) + dgs xs137 + (sLen.getD 12 0) + dgs xs143) xs143) (nI (0 + (sLen.getD 10 0) + dgs xs131 + (sLen.getD 11 0) + dgs xs137 + (sLen.getD 12 0) + dgs xs143))] : List va_W)) ⟨hx, hb, hml, hown, hts⟩ (c4_toString l E X L sbq sbv (0 + (sLen.getD 10 0) + dgs xs131 + (sLen.getD 11 0) + dgs xs137 + (sLen.getD 12 0) + dgs xs143) (gff L (va_cpy (fun j => (sByt.getD 12 []).getD j 0) (gff L (va_cpy (fun j => (sByt.getD 11 []).getD j 0) (gff L (va_cpy (fun j => (sByt.getD 10 []).getD j 0) (fun _ => 0) 0 (0) (sLen.getD 10 0)) (0 + (sLen.getD 10 0) + dgs xs131) xs131) 0 (0 + (sLen.getD 10 0) + dgs xs131) (sLen.getD 11 0)) (0 + (sLen.getD 10 0) + dgs xs131 + (sLen.getD 11 0) + dgs xs137) xs137) 0 (0 + (sLen.getD 10 0) + dgs xs131 + (sLen.getD 11 0) + dgs xs137) (sLen.getD 12 0)) (0 + (sLen.getD 10 0) + dgs xs131 + (sLen.getD 11 0) + dgs xs137 + (sLen.getD 12 0) + dgs xs143) xs143) hsb (gff_fit (sb_fitC (sB_fit (by decide)) (gff_fit (sb_fitC (sB_fit (by decide)) (gff_fit (sb_fitC (sB_fit (by decide)) sb_fit0))))))) (cw_V 0 hts q1349 q1350 q1351 q46 q1352 hdX_J4_toString_0e30d (by rw [hR]; first | exact ⟨Nat.le_of_ble_eq_true rfl, Nat.le_of_ble_eq_true rfl⟩ | exact ⟨by show _ ≤ (69 : Nat); omega, by show _ ≤ (430 : Nat); omega⟩)) (px_recv hK hP [1] rfl 0 10 rfl rfl rfl) hK hN hX hL hP hD hS hA [0] [1] rfl rfl (by decide) (by decide) rfl hl.1 rfl (Nat.le_of_ble_eq_true rfl) dL_changes_440 (by rw [hR]; first | exact ⟨Nat.le_of_ble_eq_true rfl, Nat.le_of_ble_eq_true rfl⟩ | exact ⟨by show _ ≤ (69 : Nat); omega, by show _ ≤ (430 : Nat); omega⟩) (fun stq stv H locs hP hD hS => ?_)
                                      refine W.eq (g2 := F0 m 443 ls [.ref stq, .ref (b_o 0 0)]) rfl ?_
                                      have hP := g_P (gs' := ([gO E b_o w7, gS L stq stv (0 + (sLen.getD 10 0) + dgs xs131 + (sLen.getD 11 0) + dgs xs137 + (sLen.getD 12 0) + dgs xs143) (va_cpy (gff L (va_cpy (fun j => (sByt.getD 12 []).getD j 0) (gff L (va_cpy (fun j => (sByt.getD 11 []).getD j 0) (gff L (va_cpy (fun j => (sByt.getD 10 []).getD j 0) (fun _ => 0) 0 (0) (sLen.getD 10 0)) (0 + (sLen.getD 10 0) + dgs xs131) xs131) 0 (0 + (sLen.getD 10 0) + dgs xs131) (sLen.getD 11 0)) (0 + (sLen.getD 10 0) + dgs xs131 + (sLen.getD 11 0) + dgs xs137) xs137) 0 (0 + (sLen.getD 10 0) + dgs xs131 + (sLen.getD 11 0) + dgs xs137) (sLen.getD 12 0)) (0 + (sLen.getD 10 0) + dgs xs131 + (sLen.getD 11 0) + dgs xs137 + (sLen.getD 12 0) + dgs xs143) xs143) (fun _ => 0) 0 0 (0 + (sLen.getD 10 0) + dgs xs131 + (sLen.getD 11 0) + dgs xs137 + (sLen.getD 12 0) + dgs xs143))] : List va_W)) hP [0, 1] rfl
                                      have hD := g_D (gs' := ([gO E b_o w7, gS L stq stv (0 + (sLen.getD 10 0) + dgs xs131 + (sLen.getD 11 0) + dgs xs137 + (sLen.getD 12 0) + dgs xs143) (va_cpy (gff L (va_cpy (fun j => (sByt.getD 12 []).getD j 0) (gff L (va_cpy (fun j => (sByt.getD 11 []).getD j 0) (gff L (va_cpy (fun j => (sByt.getD 10 []).getD j 0) (fun _ => 0) 0 (0) (sLen.getD 10 0)) (0 + (sLen.getD 10 0) + dgs xs131) xs131) 0 (0 + (sLen.getD 10 0) + dgs xs131) (sLen.getD 11 0)) (0 + (sLen.getD 10 0) + dgs xs131 + (sLen.getD 11 0) + dgs xs137) xs137) 0 (0 + (sLen.getD 10 0) + dgs xs131 + (sLen.getD 11 0) + dgs xs137) (sLen.getD 12 0)) (0 + (sLen.getD 10 0) + dgs xs131 + (sLen.getD 11 0) + dgs xs137 + (sLen.getD 12 0) + dgs xs143) xs143) (fun _ => 0) 0 0 (0 + (sLen.getD 10 0) + dgs xs131 + (sLen.getD 11 0) + dgs xs137 + (sLen.getD 12 0) + dgs xs143))] : List va_W)) hD [0, 1] (by decide) rfl
                                      obtain ⟨⟨r146, w147⟩, hr148, h⟩ := ob h
                                      dsimp only at h
                                      have hKB := hL.2.1.2.2.1
                                      have hstr := px_strOf (gc := ([gO E b_o w7] : List va_W)) (L := L) (k := w147) hts hK hKB hP hD 1 rfl [0] rfl (by decide) (by omega)
                                      refine px_SZ2 (X2 := (X.1, X.2.1, [(stq, stv, 0 + (sLen.getD 10 0) + dgs xs131 + (sLen.getD 11 0) + dgs xs137 + (sLen.getD 12 0) + dgs xs143, (va_cpy (gff L (va_cpy (fun j => (sByt.getD 12 []).getD j 0) (gff L (va_cpy (fun j => (sByt.getD 11 []).getD j 0) (gff L (va_cpy (fun j => (sByt.getD 10 []).getD j 0) (fun _ => 0) 0 (0) (sLen.getD 10 0)) (0 + (sLen.getD 10 0) + dgs xs131) xs131) 0 (0 + (sLen.getD 10 0) + dgs xs131) (sLen.getD 11 0)) (0 + (sLen.getD 10 0) + dgs xs131 + (sLen.getD 11 0) + dgs xs137) xs137) 0 (0 + (sLen.getD 10 0) + dgs xs131 + (sLen.getD 11 0) + dgs xs137) (sLen.getD 12 0)) (0 + (sLen.getD 10 0) + dgs xs131 + (sLen.getD 11 0) + dgs xs137 + (sLen.getD 12 0) + dgs xs143) xs143) (fun _ => 0) 0 0 (0 + (sLen.getD 10 0) + dgs xs131 + (sLen.getD 11 0) + dgs xs137 + (sLen.getD 12 0) + dgs xs143)))])) (As := [.ref (b_o 0 0), .ref stq]) (rest := []) (gs := ([gO E b_o w7, gS L stq stv (0 + (sLen.getD 10 0) + dgs xs131 + (sLen.getD 11 0) + dgs xs137 + (sLen.getD 12 0) + dgs xs143) (va_cpy (gff L (va_cpy (fun j => (sByt.getD 12 []).getD j 0) (gff L (va_cpy (fun j => (sByt.getD 11 []).getD j 0) (gff L (va_cpy (fun j => (sByt.getD 10 []).getD j 0) (fun _ => 0) 0 (0) (sLen.getD 10 0)) (0 + (sLen.getD 10 0) + dgs xs131) xs131) 0 (0 + (sLen.getD 10 0) + dgs xs131) (sLen.getD 11 0)) (0 + (sLen.getD 10 0) + dgs xs131 + (sLen.getD 11 0) + dgs xs137) xs137) 0 (0 + (sLen.getD 10 0) + dgs xs131 + (sLen.getD 11 0) + dgs xs137) (sLen.getD 12 0)) (0 + (sLen.getD 10 0) + dgs xs131 + (sLen.getD 11 0) + dgs xs137 + (sLen.getD 12 0) + dgs xs143) xs143) (fun _ => 0) 0 0 (0 + (sLen.getD 10 0) + dgs xs131 + (sLen.getD 11 0) + dgs xs137 + (sLen.getD 12 0) + dgs xs143))] : List va_W)) (gr := ([gS L stq stv (0 + (sLen.getD 10 0) + dgs xs131 + (sLen.getD 11 0) + dgs xs137 + (sLen.getD 12 0) + dgs xs143) (va_cpy (gff L (va_cpy (fun j => (sByt.getD 12 []).getD j 0) (gff L (va_cpy (fun j => (sByt.getD 11 []).getD j 0) (gff L (va_cpy (fun j => (sByt.getD 10 []).getD j 0) (fun _ => 0) 0 (0) (sLen.getD 10 0)) (0 + (sLen.getD 10 0) + dgs xs131) xs131) 0 (0 + (sLen.getD 10 0) + dgs xs131) (sLen.getD 11 0)) (0 + (sLen.getD 10 0) + dgs xs131 + (sLen.getD 11 0) + dgs xs137) xs137) 0 (0 + (sLen.getD 10 0) + dgs xs131 + (sLen.getD 11 0) + dgs xs137) (sLen.getD 12 0)) (0 + (sLen.getD 10 0) + dgs xs131 + (sLen.getD 11 0) + dgs xs137 + (sLen.getD 12 0) + dgs xs143) xs143) (fun _ => 0) 0 0 (0 + (sLen.getD 10 0) + dgs xs131 + (sLen.getD 11 0) + dgs xs137 + (sLen.getD 12 0) + dgs xs143))] : List va_W)) (gc := ([gO E b_o w7] : List va_W)) (g1 := ([gO E b_o w147] : List va_W)) (g2 := ([gO E b_o w147, gS L stq stv (0 + (sLen.getD 10 0) + dgs xs131 + (sLen.getD 11 0) + dgs xs137 + (sLen.getD 12 0) + dgs xs143) (va_cpy (gff L (va_cpy (fun j => (sByt.getD 12 []).getD j 0) (gff L (va_cpy (fun j => (sByt.getD 11 []).getD j 0) (gff L (va_cpy (fun j => (sByt.getD 10 []).getD j 0) (fun _ => 0) 0 (0) (sLen.getD 10 0)) (0 + (sLen.getD 10 0) + dgs xs131) xs131) 0 (0 + (sLen.getD 10 0) + dgs xs131) (sLen.getD 11 0)) (0 + (sLen.getD 10 0) + dgs xs131 + (sLen.getD 11 0) + dgs xs137) xs137) 0 (0 + (sLen.getD 10 0) + dgs xs131 + (sLen.getD 11 0) + dgs xs137) (sLen.getD 12 0)) (0 + (sLen.getD 10 0) + dgs xs131 + (sLen.getD 11 0) + dgs xs137 + (sLen.getD 12 0) + dgs xs143) xs143) (fun _ => 0) 0 0 (0 + (sLen.getD 10 0) + dgs xs131 + (sLen.getD 11 0) + dgs xs137 + (sLen.getD 12 0) + dgs xs143))] : List va_W)) ⟨hx, hb, hml, hown, hts⟩ (mL_reads l hlt E (X.1, X.2.1, [(stq, stv, 0 + (sLen.getD 10 0) + dgs xs131 + (sLen.getD 11 0) + dgs xs137 + (sLen.getD 12 0) + dgs xs143, (va_cpy (gff L (va_cpy (fun j => (sByt.getD 12 []).getD j 0) (gff L (va_cpy (fun j => (sByt.getD 11 []).getD j 0) (gff L (va_cpy (fun j => (sByt.getD 10 []).getD j 0) (fun _ => 0) 0 (0) (sLen.getD 10 0)) (0 + (sLen.getD 10 0) + dgs xs131) xs131) 0 (0 + (sLen.getD 10 0) + dgs xs131) (sLen.getD 11 0)) (0 + (sLen.getD 10 0) + dgs xs131 + (sLen.getD 11 0) + dgs xs137) xs137) 0 (0 + (sLen.getD 10 0) + dgs xs131 + (sLen.getD 11 0) + dgs xs137) (sLen.getD 12 0)) (0 + (sLen.getD 10 0) + dgs xs131 + (sLen.getD 11 0) + dgs xs137 + (sLen.getD 12 0) + dgs xs143) xs143) (fun _ => 0) 0 0 (0 + (sLen.getD 10 0) + dgs xs131 + (sLen.getD 11 0) + dgs xs137 + (sLen.getD 12 0) + dgs xs143)))]) L b_o ((0 + (sLen.getD 10 0) + dgs xs131 + (sLen.getD 11 0) + dgs xs137 + (sLen.getD 12 0) + dgs xs143)) ((va_cpy (gff L (va_cpy (fun j => (sByt.getD 12 []).getD j 0) (gff L (va_cpy (fun j => (sByt.getD 11 []).getD j 0) (gff L (va_cpy (fun j => (sByt.getD 10 []).getD j 0) (fun _ => 0) 0 (0) (sLen.getD 10 0)) (0 + (sLen.getD 10 0) + dgs xs131) xs131) 0 (0 + (sLen.getD 10 0) + dgs xs131) (sLen.getD 11 0)) (0 + (sLen.getD 10 0) + dgs xs131 + (sLen.getD 11 0) + dgs xs137) xs137) 0 (0 + (sLen.getD 10 0) + dgs xs131 + (sLen.getD 11 0) + dgs xs137) (sLen.getD 12 0)) (0 + (sLen.getD 10 0) + dgs xs131 + (sLen.getD 11 0) + dgs xs137 + (sLen.getD 12 0) + dgs xs143) xs143) (fun _ => 0) 0 0 (0 + (sLen.getD 10 0) + dgs xs131 + (sLen.getD 11 0) + dgs xs137 + (sLen.getD 12 0) + dgs xs143))) stq stv (Or.inl List.mem_cons_self) (by omega) (w7) r146 w147 hr148) (va_cwS 2 hts (ws_s q1417 q1418 q17 q1419) rfl rfl rfl hdS_L_reads (by rw [hR]; first | exact ⟨Nat.le_of_ble_eq_true rfl, Nat.le_of_ble_eq_true rfl⟩ | exact ⟨by show _ ≤ (69 : Nat); omega, by show _ ≤ (430 : Nat); omega⟩)) hK hN hX (fun h9 => px_one h9 hstr) hL hP hD hS hA [1] [0] [1, 0] rfl rfl (by decide) (by decide) rfl (by decide) rfl hl.1 rfl (Nat.le_of_ble_eq_true rfl) dL_changes_443 (by rw [hR]; first | exact ⟨Nat.le_of_ble_eq_true rfl, Nat.le_of_ble_eq_true rfl⟩ | exact ⟨by show _ ≤ (69 : Nat); omega, by show _ ≤ (430 : Nat); omega⟩) (fun H locs hP hD hS => ?_)
                                      have hP := g_P (gs' := ([gO E b_o w147] : List va_W)) hP [0] rfl
                                      have hD := g_D (gs' := ([gO E b_o w147] : List va_W)) hD [0] (by decide) rfl
                                      refine W.eq (g2 := F0 m 446 ls [.int r146]) rfl ?_
                                      refine lv_if_lt (tgt := 453) hx hb dL_changes_446 (by decide) (fun c149 => ?_) (fun c149 => ?_)
                                      · rw [if_pos c149] at h
                                        refine lv_iconst (v := (nI 0)) hx hb dL_changes_453 (by decide) ?_
                                        cases h
                                        refine W.eq (g2 := F0 m 454 ls [.int (b2i false)]) rfl ?_
                                        refine W.widen (k := 69) (n := 430) (by omega) (by omega) ?_
                                        exact px_eWz (b2i_n _) hA0 hQ hP hD hS hx hb hr hlocks dL_changes_454
                                      · rw [if_neg c149] at h
                                        refine lv_iconst (v := (nI 1)) hx hb dL_changes_449 (by decide) ?_
                                        refine lv_goto (tgt := 454) hx hb dL_changes_450 (by decide) ?_
                                        cases h
                                        refine W.eq (g2 := F0 m 454 ls [.int (b2i true)]) rfl ?_
                                        refine W.widen (k := 69) (n := 430) (by omega) (by omega) ?_
                                        exact px_eWz (b2i_n _) hA0 hQ hP hD hS hx hb hr hlocks dL_changes_454
                                    · rw [if_pos c127] at h
                                      refine px_new (gs := ([gO E b_o w7] : List va_W)) (ci := 10) (fs := [.null, .int 0, .int 0, .int 0]) (C := RJ4) (T := TJ4) (N := 4) hx hb hts iJ4 tyJ4 tyJ4_ok hown (hts _ q1195) (hts _ q1196) (hts _ q46) hK hP hD hS hA rfl (fun j hj => by rcases (show j = 0 ∨ j = 1 ∨ j = 2 ∨ j = 3 by omega) with rfl | rfl | rfl | rfl <;> rfl) (by rw [hR]; exact Nat.le_of_ble_eq_true rfl) (by rw [hR]; exact Nat.le_of_ble_eq_true rfl) dL_changes_315 (fun sbq H hP hD hS => ?_)
                                      have hP : va_P E.1 vwCl ([gO E b_o w7, gOb sbq 10 [.null, .int 0, .int 0, .int 0]] : List va_W).flatten H := hP
                                      have hD : va_D A ([gO E b_o w7, gOb sbq 10 [.null, .int 0, .int 0, .int 0]] : List va_W).flatten := hD
                                      refine lv_dup hx hb dL_changes_318 rfl ?_
                                      refine px_IEZ (As := []) (rest := [.ref sbq, .ref (b_o 0 0)]) (gs := ([gO E b_o w7, gOb sbq 10 [.null, .int 0, .int 0, .int 0]] : List va_W)) (gr := ([gO E b_o w7] : List va_W)) (gc := ([gOb sbq 10 [.null, .int 0, .int 0, .int 0]] : List va_W)) ⟨hx, hb, hml, hown, hts⟩ (c4_init l E X L sbq) (cwI 0 hts (ws_g q1199) rfl rfl rfl (hts _ q46) (hts _ q1197) (hts _ q1198) rfl hdI_J4_init_da8c8 (by rw [hR]; first | exact ⟨Nat.le_of_ble_eq_true rfl, Nat.le_of_ble_eq_true rfl⟩ | exact ⟨by show _ ≤ (69 : Nat); omega, by show _ ≤ (430 : Nat); omega⟩)) hK hN hX hL hP hD hS hA [0] [1] rfl rfl (by decide) (by decide) rfl hl.1 rfl (Nat.le_of_ble_eq_true rfl) dL_changes_319 (by rw [hR]; first | exact ⟨Nat.le_of_ble_eq_true rfl, Nat.le_of_ble_eq_true rfl⟩ | exact ⟨by show _ ≤ (69 : Nat); omega, by show _ ≤ (430 : Nat); omega⟩) (fun sbr sbv H locs hP hD hS => ?_)
                                      refine W.eq (g2 := F0 m 322 ls [.ref sbq, .ref (b_o 0 0)]) rfl ?_
                                      have hP : va_P E.1 vwCl ([gO E b_o w7, gB L sbq sbv (fun _ => 0) (nI (0))] : List va_W).flatten H := hP
                                      have hD : va_D A ([gO E b_o w7, gB L sbq sbv (fun _ => 0) (nI (0))] : List va_W).flatten := hD
                                      refine px_ldcS (i := 6) (tx := "e") hx hb hown hX rfl dL_changes_322 ?_
                                      refine px_VZ (As := [.ref (X.1 6)]) (rest := [.ref (b_o 0 0)]) (gs := ([gO E b_o w7, gB L sbq sbv (fun _ => 0) (nI (0))] : List va_W)) (gr := ([gO E b_o w7] : List va_W)) (gc := ([gB L sbq sbv (fun _ => 0) (nI (0))] : List va_W)) (g1 := ([gB L sbq sbv (va_cpy (fun j => (sByt.getD 6 []).getD j 0) (fun _ => 0) 0 (0) (sLen.getD 6 0)) (nI (0 + (sLen.getD 6 0)))] : List va_W)) (g2 := ([gO E b_o w7, gB L sbq sbv (va_cpy (fun j => (sByt.getD 6 []).getD j 0) (fun _ => 0) 0 (0) (sLen.getD 6 0)) (nI (0 + (sLen.getD 6 0)))] : List va_W)) ⟨hx, hb, hml, hown, hts⟩ (c4_appendS l E X L sbq sbv (0) (fun _ => 0) (X.1 6, X.2.1 6, (sLen.getD 6 0), (fun j => (sByt.getD 6 []).getD j 0)) (px_ct (by decide)) (by decide) (sB_fit (by decide)) (by skip; show _ ≤ 16; simp only [show sLen.getD 6 0 = 1 from rfl, show sLen.getD 7 0 = 1 from rfl, show sLen.getD 8 0 = 1 from rfl, show sLen.getD 9 0 = 3 from rfl, show sLen.getD 10 0 = 1 from rfl, show sLen.getD 11 0 = 1 from rfl, show sLen.getD 12 0 = 1 from rfl]; omega)) (cw_V 1 hts q1226 q1227 q1228 q46 q1229 hdX_J4_append_15ec4 (by rw [hR]; first | exact ⟨Nat.le_of_ble_eq_true rfl, Nat.le_of_ble_eq_true rfl⟩ | exact ⟨by show _ ≤ (69 : Nat); omega, by show _ ≤ (430 : Nat); omega⟩)) (px_recv hK hP [1] rfl 0 10 rfl rfl rfl) hK hN hX hL hP hD hS hA [0] [1] [0, 1] rfl rfl (by decide) (by decide) rfl (by decide) rfl hl.1 rfl (Nat.le_of_ble_eq_true rfl) dL_changes_324 (by rw [hR]; first | exact ⟨Nat.le_of_ble_eq_true rfl, Nat.le_of_ble_eq_true rfl⟩ | exact ⟨by show _ ≤ (69 : Nat); omega, by show _ ≤ (430 : Nat); omega⟩) (fun H locs hP hD hS => ?_)
                                      refine W.eq (g2 := F0 m 327 ls [.ref sbq, .ref (b_o 0 0)]) rfl ?_
                                      refine lv_iload_n hx hb dL_changes_327 rfl (lv_at hl 4 rfl) ?_
                                      refine lv_iconst (v := (nI 4)) hx hb dL_changes_328 (by decide) ?_
                                      refine lv_ishr hx hb dL_changes_329 ?_
                                      refine lv_iconst (v := (nI 3)) hx hb dL_changes_330 (by decide) ?_
                                      obtain ⟨r150, hr151, h⟩ := ob h
                                      refine px_Sp (As := [.int (x1 >>> ((nI 4) &&& 31)), .int (nI 3)]) (rest := [.ref sbq, .ref (b_o 0 0)]) (gs := ([gO E b_o w7] : List va_W)) (gc := ([] : List va_W)) ⟨hx, hb, hml, hown, hts⟩ (mL_some l E   ((x1 >>> ((nI 4) &&& 31))) ((nI 3))  r150 hr151) (va_cwS 2 hts (ws_s q931 q932 q17 q933) rfl rfl rfl hdS_L_some (by rw [hR]; first | exact ⟨Nat.le_of_ble_eq_true rfl, Nat.le_of_ble_eq_true rfl⟩ | exact ⟨by show _ ≤ (69 : Nat); omega, by show _ ≤ (430 : Nat); omega⟩)) hK hN hP hD [] rfl (by decide) rfl hl.1 rfl (Nat.le_of_ble_eq_true rfl) dL_changes_331 (by rw [hR]; first | exact ⟨Nat.le_of_ble_eq_true rfl, Nat.le_of_ble_eq_true rfl⟩ | exact ⟨by show _ ≤ (69 : Nat); omega, by show _ ≤ (430 : Nat); omega⟩) ?_
                                      refine W.eq (g2 := F0 m 334 ls [.int r150, .ref sbq, .ref (b_o 0 0)]) rfl ?_
                                      obtain ⟨i152, h⟩ := o_t h
                                      obtain ⟨xs153, e154, h⟩ := lt_e h
                                      obtain ⟨hx155, e1549⟩ := inb_cl i152 (by decide) e154
                                      clear e154
                                      subst e1549
                                      refine px_VZ (As := [.int (nI xs153)]) (rest := [.ref (b_o 0 0)]) (gs := ([gO E b_o w7, gB L sbq sbv (va_cpy (fun j => (sByt.getD 6 []).getD j 0) (fun _ => 0) 0 (0) (sLen.getD 6 0)) (nI (0 + (sLen.getD 6 0)))] : List va_W)) (gr := ([gO E b_o w7] : List va_W)) (gc := ([gB L sbq sbv (va_cpy (fun j => (sByt.getD 6 []).getD j 0) (fun _ => 0) 0 (0) (sLen.getD 6 0)) (nI (0 + (sLen.getD 6 0)))] : List va_W)) (g1 := ([gB L sbq sbv (gff L (va_cpy (fun j => (sByt.getD 6 []).getD j 0) (fun _ => 0) 0 (0) (sLen.getD 6 0)) (0 + (sLen.getD 6 0) + dgs xs153) xs153) (nI (0 + (sLen.getD 6 0) + dgs xs153))] : List va_W)) (g2 := ([gO E b_o w7, gB L sbq sbv (gff L (va_cpy (fun j => (sByt.getD 6 []).getD j 0) (fun _ => 0) 0 (0) (sLen.getD 6 0)) (0 + (sLen.getD 6 0) + dgs xs153) xs153) (nI (0 + (sLen.getD 6 0) + dgs xs153))] : List va_W)) ⟨hx, hb, hml, hown, hts⟩ (c4_appendI l E X L sbq sbv (0 + (sLen.getD 6 0)) xs153 (va_cpy (fun j => (sByt.getD 6 []).getD j 0) (fun _ => 0) 0 (0) (sLen.getD 6 0)) hx155 (by have := dgs_le xs153; show _ ≤ 16; simp only [show sLen.getD 6 0 = 1 from rfl, show sLen.getD 7 0 = 1 from rfl, show sLen.getD 8 0 = 1 from rfl, show sLen.getD 9 0 = 3 from rfl, show sLen.getD 10 0 = 1 from rfl, show sLen.getD 11 0 = 1 from rfl, show sLen.getD 12 0 = 1 from rfl]; omega)) (cw_V 1 hts q1321 q1322 q1323 q46 q1324 hdX_J4_append_bf812 (by rw [hR]; first | exact ⟨Nat.le_of_ble_eq_true rfl, Nat.le_of_ble_eq_true rfl⟩ | exact ⟨by show _ ≤ (69 : Nat); omega, by show _ ≤ (430 : Nat); omega⟩)) (px_recv hK hP [1] rfl 0 10 rfl rfl rfl) hK hN hX hL hP hD hS hA [0] [1] [0, 1] rfl rfl (by decide) (by decide) rfl (by decide) rfl hl.1 rfl (Nat.le_of_ble_eq_true rfl) dL_changes_334 (by rw [hR]; first | exact ⟨Nat.le_of_ble_eq_true rfl, Nat.le_of_ble_eq_true rfl⟩ | exact ⟨by show _ ≤ (69 : Nat); omega, by show _ ≤ (430 : Nat); omega⟩) (fun H locs hP hD hS => ?_)
                                      refine W.eq (g2 := F0 m 337 ls [.ref sbq, .ref (b_o 0 0)]) rfl ?_
                                      refine px_ldcS (i := 7) (tx := ".") hx hb hown hX rfl dL_changes_337 ?_
                                      refine px_VZ (As := [.ref (X.1 7)]) (rest := [.ref (b_o 0 0)]) (gs := ([gO E b_o w7, gB L sbq sbv (gff L (va_cpy (fun j => (sByt.getD 6 []).getD j 0) (fun _ => 0) 0 (0) (sLen.getD 6 0)) (0 + (sLen.getD 6 0) + dgs xs153) xs153) (nI (0 + (sLen.getD 6 0) + dgs xs153))] : List va_W)) (gr := ([gO E b_o w7] : List va_W)) (gc := ([gB L sbq sbv (gff L (va_cpy (fun j => (sByt.getD 6 []).getD j 0) (fun _ => 0) 0 (0) (sLen.getD 6 0)) (0 + (sLen.getD 6 0) + dgs xs153) xs153) (nI (0 + (sLen.getD 6 0) + dgs xs153))] : List va_W)) (g1 := ([gB L sbq sbv (va_cpy (fun j => (sByt.getD 7 []).getD j 0) (gff L (va_cpy (fun j => (sByt.getD 6 []).getD j 0) (fun _ => 0) 0 (0) (sLen.getD 6 0)) (0 + (sLen.getD 6 0) + dgs xs153) xs153) 0 (0 + (sLen.getD 6 0) + dgs xs153) (sLen.getD 7 0)) (nI (0 + (sLen.getD 6 0) + dgs xs153 + (sLen.getD 7 0)))] : List va_W)) (g2 := ([gO E b_o w7, gB L sbq sbv (va_cpy (fun j => (sByt.getD 7 []).getD j 0) (gff L (va_cpy (fun j => (sByt.getD 6 []).getD j 0) (fun _ => 0) 0 (0) (sLen.getD 6 0)) (0 + (sLen.getD 6 0) + dgs xs153) xs153) 0 (0 + (sLen.getD 6 0) + dgs xs153) (sLen.getD 7 0)) (nI (0 + (sLen.getD 6 0) + dgs xs153 + (sLen.getD 7 0)))] : List va_W)) ⟨hx, hb, hml, hown, hts⟩ (c4_appendS l E X L sbq sbv (0 + (sLen.getD 6 0) + dgs xs153) (gff L (va_cpy (fun j => (sByt.getD 6 []).getD j 0) (fun _ => 0) 0 (0) (sLen.getD 6 0)) (0 + (sLen.getD 6 0) + dgs xs153) xs153) (X.1 7, X.2.1 7, (sLen.getD 7 0), (fun j => (sByt.getD 7 []).getD j 0)) (px_ct (by decide)) (by decide) (sB_fit (by decide)) (by have := dgs_le xs153; show _ ≤ 16; simp only [show sLen.getD 6 0 = 1 from rfl, show sLen.getD 7 0 = 1 from rfl, show sLen.getD 8 0 = 1 from rfl, show sLen.getD 9 0 = 3 from rfl, show sLen.getD 10 0 = 1 from rfl, show sLen.getD 11 0 = 1 from rfl, show sLen.getD 12 0 = 1 from rfl]; omega)) (cw_V 1 hts q1226 q1227 q1228 q46 q1229 hdX_J4_append_15ec4 (by rw [hR]; first | exact ⟨Nat.le_of_ble_eq_true rfl, Nat.le_of_ble_eq_true rfl⟩ | exact ⟨by show _ ≤ (69 : Nat); omega, by show _ ≤ (430 : Nat); omega⟩)) (px_recv hK hP [1] rfl 0 10 rfl rfl rfl) hK hN hX hL hP hD hS hA [0] [1] [0, 1] rfl rfl (by decide) (by decide) rfl (by decide) rfl hl.1 rfl (Nat.le_of_ble_eq_true rfl) dL_changes_339 (by rw [hR]; first | exact ⟨Nat.le_of_ble_eq_true rfl, Nat.le_of_ble_eq_true rfl⟩ | exact ⟨by show _ ≤ (69 : Nat); omega, by show _ ≤ (430 : Nat); omega⟩) (fun H locs hP hD hS => ?_)
                                      refine W.eq (g2 := F0 m 342 ls [.ref sbq, .ref (b_o 0 0)]) rfl ?_
                                      refine lv_iload_n hx hb dL_changes_342 rfl (lv_at hl 4 rfl) ?_
                                      refine lv_bipush (v := (nI 7)) hx hb dL_changes_343 (by decide) ?_
                                      refine lv_ishr hx hb dL_changes_345 ?_
                                      refine lv_bipush (v := (nI 6)) hx hb dL_changes_346 (by decide) ?_
                                      obtain ⟨r156, hr157, h⟩ := ob h
                                      refine px_Sp (As := [.int (x1 >>> ((nI 7) &&& 31)), .int (nI 6)]) (rest := [.ref sbq, .ref (b_o 0 0)]) (gs := ([gO E b_o w7] : List va_W)) (gc := ([] : List va_W)) ⟨hx, hb, hml, hown, hts⟩ (mL_some l E   ((x1 >>> ((nI 7) &&& 31))) ((nI 6))  r156 hr157) (va_cwS 2 hts (ws_s q931 q932 q17 q933) rfl rfl rfl hdS_L_some (by rw [hR]; first | exact ⟨Nat.le_of_ble_eq_true rfl, Nat.le_of_ble_eq_true rfl⟩ | exact ⟨by show _ ≤ (69 : Nat); omega, by show _ ≤ (430 : Nat); omega⟩)) hK hN hP hD [] rfl (by decide) rfl hl.1 rfl (Nat.le_of_ble_eq_true rfl) dL_changes_348 (by rw [hR]; first | exact ⟨Nat.le_of_ble_eq_true rfl, Nat.le_of_ble_eq_true rfl⟩ | exact ⟨by show _ ≤ (69 : Nat); omega, by show _ ≤ (430 : Nat); omega⟩) ?_
                                      refine W.eq (g2 := F0 m 351 ls [.int r156, .ref sbq, .ref (b_o 0 0)]) rfl ?_
                                      obtain ⟨i158, h⟩ := o_t h
                                      obtain ⟨xs159, e160, h⟩ := lt_e h
                                      obtain ⟨hx161, e1609⟩ := inb_cl i158 (by decide) e160
                                      clear e160
                                      subst e1609
                                      refine px_VZ (As := [.int (nI xs159)]) (rest := [.ref (b_o 0 0)]) (gs := ([gO E b_o w7, gB L sbq sbv (va_cpy (fun j => (sByt.getD 7 []).getD j 0) (gff L (va_cpy (fun j => (sByt.getD 6 []).getD j 0) (fun _ => 0) 0 (0) (sLen.getD 6 0)) (0 + (sLen.getD 6 0) + dgs xs153) xs153) 0 (0 + (sLen.getD 6 0) + dgs xs153) (sLen.getD 7 0)) (nI (0 + (sLen.getD 6 0) + dgs xs153 + (sLen.getD 7 0)))] : List va_W)) (gr := ([gO E b_o w7] : List va_W)) (gc := ([gB L sbq sbv (va_cpy (fun j => (sByt.getD 7 []).getD j 0) (gff L (va_cpy (fun j => (sByt.getD 6 []).getD j 0) (fun _ => 0) 0 (0) (sLen.getD 6 0)) (0 + (sLen.getD 6 0) + dgs xs153) xs153) 0 (0 + (sLen.getD 6 0) + dgs xs153) (sLen.getD 7 0)) (nI (0 + (sLen.getD 6 0) + dgs xs153 + (sLen.getD 7 0)))] : List va_W)) (g1 := ([gB L sbq sbv (gff L (va_cpy (fun j => (sByt.getD 7 []).getD j 0) (gff L (va_cpy (fun j => (sByt.getD 6 []).getD j 0) (fun _ => 0) 0 (0) (sLen.getD 6 0)) (0 + (sLen.getD 6 0) + dgs xs153) xs153) 0 (0 + (sLen.getD 6 0) + dgs xs153) (sLen.getD 7 0)) (0 + (sLen.getD 6 0) + dgs xs153 + (sLen.getD 7 0) + dgs xs159) xs159) (nI (0 + (sLen.getD 6 0) + dgs xs153 + (sLen.getD 7 0) + dgs xs159))] : List va_W)) (g2 := ([gO E b_o w7, gB L sbq sbv (gff L (va_cpy (fun j => (sByt.getD 7 []).getD j 0) (gff L (va_cpy (fun j => (sByt.getD 6 []).getD j 0) (fun _ => 0) 0 (0) (sLen.getD 6 0)) (0 + (sLen.getD 6 0) + dgs xs153) xs153) 0 (0 + (sLen.getD 6 0) + dgs xs153) (sLen.getD 7 0)) (0 + (sLen.getD 6 0) + dgs xs153 + (sLen.getD 7 0) + dgs xs159) xs159) (nI (0 + (sLen.getD 6 0) + dgs xs153 + (sLen.getD 7 0) + dgs xs159))] : List va_W)) ⟨hx, hb, hml, hown, hts⟩ (c4_appendI l E X L sbq sbv (0 + (sLen.getD 6 0) + dgs xs153 + (sLen.getD 7 0)) xs159 (va_cpy (fun j => (sByt.getD 7 []).getD j 0) (gff L (va_cpy (fun j => (sByt.getD 6 []).getD j 0) (fun _ => 0) 0 (0) (sLen.getD 6 0)) (0 + (sLen.getD 6 0) + dgs xs153) xs153) 0 (0 + (sLen.getD 6 0) + dgs xs153) (sLen.getD 7 0)) hx161 (by have := dgs_le xs153; have := dgs_le xs159; show _ ≤ 16; simp only [show sLen.getD 6 0 = 1 from rfl, show sLen.getD 7 0 = 1 from rfl, show sLen.getD 8 0 = 1 from rfl, show sLen.getD 9 0 = 3 from rfl, show sLen.getD 10 0 = 1 from rfl, show sLen.getD 11 0 = 1 from rfl, show sLen.getD 12 0 = 1 from rfl]; omega)) (cw_V 1 hts q1321 q1322 q1323 q46 q1324 hdX_J4_append_bf812 (by rw [hR]; first | exact ⟨Nat.le_of_ble_eq_true rfl, Nat.le_of_ble_eq_true rfl⟩ | exact ⟨by show _ ≤ (69 : Nat); omega, by show _ ≤ (430 : Nat); omega⟩)) (px_recv hK hP [1] rfl 0 10 rfl rfl rfl) hK hN hX hL hP hD hS hA [0] [1] [0, 1] rfl rfl (by decide) (by decide) rfl (by decide) rfl hl.1 rfl (Nat.le_of_ble_eq_true rfl) dL_changes_351 (by rw [hR]; first | exact ⟨Nat.le_of_ble_eq_true rfl, Nat.le_of_ble_eq_true rfl⟩ | exact ⟨by show _ ≤ (69 : Nat); omega, by show _ ≤ (430 : Nat); omega⟩) (fun H locs hP hD hS => ?_)
                                      refine W.eq (g2 := F0 m 354 ls [.ref sbq, .ref (b_o 0 0)]) rfl ?_
                                      refine px_ldcSW (i := 8) (tx := "=") hx hb hown hX rfl dL_changes_354 ?_
                                      refine px_VZ (As := [.ref (X.1 8)]) (rest := [.ref (b_o 0 0)]) (gs := ([gO E b_o w7, gB L sbq sbv (gff L (va_cpy (fun j => (sByt.getD 7 []).getD j 0) (gff L (va_cpy (fun j => (sByt.getD 6 []).getD j 0) (fun _ => 0) 0 (0) (sLen.getD 6 0)) (0 + (sLen.getD 6 0) + dgs xs153) xs153) 0 (0 + (sLen.getD 6 0) + dgs xs153) (sLen.getD 7 0)) (0 + (sLen.getD 6 0) + dgs xs153 + (sLen.getD 7 0) + dgs xs159) xs159) (nI (0 + (sLen.getD 6 0) + dgs xs153 + (sLen.getD 7 0) + dgs xs159))] : List va_W)) (gr := ([gO E b_o w7] : List va_W)) (gc := ([gB L sbq sbv (gff L (va_cpy (fun j => (sByt.getD 7 []).getD j 0) (gff L (va_cpy (fun j => (sByt.getD 6 []).getD j 0) (fun _ => 0) 0 (0) (sLen.getD 6 0)) (0 + (sLen.getD 6 0) + dgs xs153) xs153) 0 (0 + (sLen.getD 6 0) + dgs xs153) (sLen.getD 7 0)) (0 + (sLen.getD 6 0) + dgs xs153 + (sLen.getD 7 0) + dgs xs159) xs159) (nI (0 + (sLen.getD 6 0) + dgs xs153 + (sLen.getD 7 0) + dgs xs159))] : List va_W)) (g1 := ([gB L sbq sbv (va_cpy (fun j => (sByt.getD 8 []).getD j 0) (gff L (va_cpy (fun j => (sByt.getD 7 []).getD j 0) (gff L (va_cpy (fun j => (sByt.getD 6 []).getD j 0) (fun _ => 0) 0 (0) (sLen.getD 6 0)) (0 + (sLen.getD 6 0) + dgs xs153) xs153) 0 (0 + (sLen.getD 6 0) + dgs xs153) (sLen.getD 7 0)) (0 + (sLen.getD 6 0) + dgs xs153 + (sLen.getD 7 0) + dgs xs159) xs159) 0 (0 + (sLen.getD 6 0) + dgs xs153 + (sLen.getD 7 0) + dgs xs159) (sLen.getD 8 0)) (nI (0 + (sLen.getD 6 0) + dgs xs153 + (sLen.getD 7 0) + dgs xs159 + (sLen.getD 8 0)))] : List va_W)) (g2 := ([gO E b_o w7, gB L sbq sbv (va_cpy (fun j => (sByt.getD 8 []).getD j 0) (gff L (va_cpy (fun j => (sByt.getD 7 []).getD j 0) (gff L (va_cpy (fun j => (sByt.getD 6 []).getD j 0) (fun _ => 0) 0 (0) (sLen.getD 6 0)) (0 + (sLen.getD 6 0) + dgs xs153) xs153) 0 (0 + (sLen.getD 6 0) + dgs xs153) (sLen.getD 7 0)) (0 + (sLen.getD 6 0) + dgs xs153 + (sLen.getD 7 0) + dgs xs159) xs159) 0 (0 + (sLen.getD 6 0) + dgs xs153 + (sLen.getD 7 0) + dgs xs159) (sLen.getD 8 0)) (nI (0 + (sLen.getD 6 0) + dgs xs153 + (sLen.getD 7 0) + dgs xs159 + (sLen.getD 8 0)))] : List va_W)) ⟨hx, hb, hml, hown, hts⟩ (c4_appendS l E X L sbq sbv (0 + (sLen.getD 6 0) + dgs xs153 + (sLen.getD 7 0) + dgs xs159) (gff L (va_cpy (fun j => (sByt.getD 7 []).getD j 0) (gff L (va_cpy (fun j => (sByt.getD 6 []).getD j 0) (fun _ => 0) 0 (0) (sLen.getD 6 0)) (0 + (sLen.getD 6 0) + dgs xs153) xs153) 0 (0 + (sLen.getD 6 0) + dgs xs153) (sLen.getD 7 0)) (0 + (sLen.getD 6 0) + dgs xs153 + (sLen.getD 7 0) + dgs xs159) xs159) (X.1 8, X.2.1 8, (sLen.getD 8 0), (fun j => (sByt.getD 8 []).getD j 0)) (px_ct (by decide)) (by decide) (sB_fit (by decide)) (by have := dgs_le xs153; have := dgs_le xs159; show _ ≤ 16; simp only [show sLen.getD 6 0 = 1 from rfl, show sLen.getD 7 0 = 1 from rfl, show sLen.getD 8 0 = 1 from rfl, show sLen.getD 9 0 = 3 from rfl, show sLen.getD 10 0 = 1 from rfl, show sLen.getD 11 0 = 1 from rfl, show sLen.getD 12 0 = 1 from rfl]; omega)) (cw_V 1 hts q1226 q1227 q1228 q46 q1229 hdX_J4_append_15ec4 (by rw [hR]; first | exact ⟨Nat.le_of_ble_eq_true rfl, Nat.le_of_ble_eq_true rfl⟩ | exact ⟨by show _ ≤ (69 : Nat); omega, by show _ ≤ (430 : Nat); omega⟩)) (px_recv hK hP [1] rfl 0 10 rfl rfl rfl) hK hN hX hL hP hD hS hA [0] [1] [0, 1] rfl rfl (by decide) (by decide) rfl (by decide) rfl hl.1 rfl (Nat.le_of_ble_eq_true rfl) dL_changes_357 (by rw [hR]; first | exact ⟨Nat.le_of_ble_eq_true rfl, Nat.le_of_ble_eq_true rfl⟩ | exact ⟨by show _ ≤ (69 : Nat); omega, by show _ ≤ (430 : Nat); omega⟩) (fun H locs hP hD hS => ?_)
                                      refine W.eq (g2 := F0 m 360 ls [.ref sbq, .ref (b_o 0 0)]) rfl ?_
                                      refine lv_iload_n hx hb dL_changes_360 rfl (lv_at hl 4 rfl) ?_
                                      refine lv_iconst (v := (nI 5)) hx hb dL_changes_361 (by decide) ?_
                                      refine lv_ishr hx hb dL_changes_362 ?_
                                      refine lv_bipush (v := (nI 100)) hx hb dL_changes_363 (by decide) ?_
                                      obtain ⟨r162, hr163, h⟩ := ob h
                                      refine px_Sp (As := [.int (x1 >>> ((nI 5) &&& 31)), .int (nI 100)]) (rest := [.ref sbq, .ref (b_o 0 0)]) (gs := ([gO E b_o w7] : List va_W)) (gc := ([] : List va_W)) ⟨hx, hb, hml, hown, hts⟩ (mL_some l E   ((x1 >>> ((nI 5) &&& 31))) ((nI 100))  r162 hr163) (va_cwS 2 hts (ws_s q931 q932 q17 q933) rfl rfl rfl hdS_L_some (by rw [hR]; first | exact ⟨Nat.le_of_ble_eq_true rfl, Nat.le_of_ble_eq_true rfl⟩ | exact ⟨by show _ ≤ (69 : Nat); omega, by show _ ≤ (430 : Nat); omega⟩)) hK hN hP hD [] rfl (by decide) rfl hl.1 rfl (Nat.le_of_ble_eq_true rfl) dL_changes_365 (by rw [hR]; first | exact ⟨Nat.le_of_ble_eq_true rfl, Nat.le_of_ble_eq_true rfl⟩ | exact ⟨by show _ ≤ (69 : Nat); omega, by show _ ≤ (430 : Nat); omega⟩) ?_
                                      refine W.eq (g2 := F0 m 368 ls [.int r162, .ref sbq, .ref (b_o 0 0)]) rfl ?_
                                      obtain ⟨i164, h⟩ := o_t h
                                      obtain ⟨xs165, e166, h⟩ := lt_e h
                                      obtain ⟨hx167, e1669⟩ := inb_cl i164 (by decide) e166
                                      clear e166
                                      subst e1669
                                      refine px_VZ (As := [.int (nI xs165)]) (rest := [.ref (b_o 0 0)]) (gs := ([gO E b_o w7, gB L sbq sbv (va_cpy (fun j => (sByt.getD 8 []).getD j 0) (gff L (va_cpy (fun j => (sByt.getD 7 []).getD j 0) (gff L (va_cpy (fun j => (sByt.getD 6 []).getD j 0) (fun _ => 0) 0 (0) (sLen.getD 6 0)) (0 + (sLen.getD 6 0) + dgs xs153) xs153) 0 (0 + (sLen.getD 6 0) + dgs xs153) (sLen.getD 7 0)) (0 + (sLen.getD 6 0) + dgs xs153 + (sLen.getD 7 0) + dgs xs159) xs159) 0 (0 + (sLen.getD 6 0) + dgs xs153 + (sLen.getD 7 0) + dgs xs159) (sLen.getD 8 0)) (nI (0 + (sLen.getD 6 0) + dgs xs153 + (sLen.getD 7 0) + dgs xs159 + (sLen.getD 8 0)))] : List va_W)) (gr := ([gO E b_o w7] : List va_W)) (gc := ([gB L sbq sbv (va_cpy (fun j => (sByt.getD 8 []).getD j 0) (gff L (va_cpy (fun j => (sByt.getD 7 []).getD j 0) (gff L (va_cpy (fun j => (sByt.getD 6 []).getD j 0) (fun _ => 0) 0 (0) (sLen.getD 6 0)) (0 + (sLen.getD 6 0) + dgs xs153) xs153) 0 (0 + (sLen.getD 6 0) + dgs xs153) (sLen.getD 7 0)) (0 + (sLen.getD 6 0) + dgs xs153 + (sLen.getD 7 0) + dgs xs159) xs159) 0 (0 + (sLen.getD 6 0) + dgs xs153 + (sLen.getD 7 0) + dgs xs159) (sLen.getD 8 0)) (nI (0 + (sLen.getD 6 0) + dgs xs153 + (sLen.getD 7 0) + dgs xs159 + (sLen.getD 8 0)))] : List va_W)) (g1 := ([gB L sbq sbv (gff L (va_cpy (fun j => (sByt.getD 8 []).getD j 0) (gff L (va_cpy (fun j => (sByt.getD 7 []).getD j 0) (gff L (va_cpy (fun j => (sByt.getD 6 []).getD j 0) (fun _ => 0) 0 (0) (sLen.getD 6 0)) (0 + (sLen.getD 6 0) + dgs xs153) xs153) 0 (0 + (sLen.getD 6 0) + dgs xs153) (sLen.getD 7 0)) (0 + (sLen.getD 6 0) + dgs xs153 + (sLen.getD 7 0) + dgs xs159) xs159) 0 (0 + (sLen.getD 6 0) + dgs xs153 + (sLen.getD 7 0) + dgs xs159) (sLen.getD 8 0)) (0 + (sLen.getD 6 0) + dgs xs153 + (sLen.getD 7 0) + dgs xs159 + (sLen.getD 8 0) + dgs xs165) xs165) (nI (0 + (sLen.getD 6 0) + dgs xs153 + (sLen.getD 7 0) + dgs xs159 + (sLen.getD 8 0) + dgs xs165))] : List va_W)) (g2 := ([gO E b_o w7, gB L sbq sbv (gff L (va_cpy (fun j => (sByt.getD 8 []).getD j 0) (gff L (va_cpy (fun j => (sByt.getD 7 []).getD j 0) (gff L (va_cpy (fun j => (sByt.getD 6 []).getD j 0) (fun _ => 0) 0 (0) (sLen.getD 6 0)) (0 + (sLen.getD 6 0) + dgs xs153) xs153) 0 (0 + (sLen.getD 6 0) + dgs xs153) (sLen.getD 7 0)) (0 + (sLen.getD 6 0) + dgs xs153 + (sLen.getD 7 0) + dgs xs159) xs159) 0 (0 + (sLen.getD 6 0) + dgs xs153 + (sLen.getD 7 0) + dgs xs159) (sLen.getD 8 0)) (0 + (sLen.getD 6 0) + dgs xs153 + (sLen.getD 7 0) + dgs xs159 + (sLen.getD 8 0) + dgs xs165) xs165) (nI (0 + (sLen.getD 6 0) + dgs xs153 + (sLen.getD 7 0) + dgs xs159 + (sLen.getD 8 0) + dgs xs165))] : List va_W)) ⟨hx, hb, hml, hown, hts⟩ (c4_appendI l E X L sbq sbv (0 + (sLen.getD 6 0) + dgs xs153 + (sLen.getD 7 0) + dgs xs159 + (sLen.getD 8 0)) xs165 (va_cpy (fun j => (sByt.getD 8 []).getD j 0) (gff L (va_cpy (fun j => (sByt.getD 7 []).getD j 0) (gff L (va_cpy (fun j => (sByt.getD 6 []).getD j 0) (fun _ => 0) 0 (0) (sLen.getD 6 0)) (0 + (sLen.getD 6 0) + dgs xs153) xs153) 0 (0 + (sLen.getD 6 0) + dgs xs153) (sLen.getD 7 0)) (0 + (sLen.getD 6 0) + dgs xs153 + (sLen.getD 7 0) + dgs xs159) xs159) 0 (0 + (sLen.getD 6 0) + dgs xs153 + (sLen.getD 7 0) + dgs xs159) (sLen.getD 8 0)) hx167 (by have := dgs_le xs153; have := dgs_le xs159; have := dgs_le xs165; show _ ≤ 16; simp only [show sLen.getD 6 0 = 1 from rfl, show sLen.getD 7 0 = 1 from rfl, show sLen.getD 8 0 = 1 from rfl, show sLen.getD 9 0 = 3 from rfl, show sLen.getD 10 0 = 1 from rfl, show sLen.getD 11 0 = 1 from rfl, show sLen.getD 12 0 = 1 from rfl]; omega)) (cw_V 1 hts q1321 q1322 q1323 q46 q1324 hdX_J4_append_bf812 (by rw [hR]; first | exact ⟨Nat.le_of_ble_eq_true rfl, Nat.le_of_ble_eq_true rfl⟩ | exact ⟨by show _ ≤ (69 : Nat); omega, by show _ ≤ (430 : Nat); omega⟩)) (px_recv hK hP [1] rfl 0 10 rfl rfl rfl) hK hN hX hL hP hD hS hA [0] [1] [0, 1] rfl rfl (by decide) (by decide) rfl (by decide) rfl hl.1 rfl (Nat.le_of_ble_eq_true rfl) dL_changes_368 (by rw [hR]; first | exact ⟨Nat.le_of_ble_eq_true rfl, Nat.le_of_ble_eq_true rfl⟩ | exact ⟨by show _ ≤ (69 : Nat); omega, by show _ ≤ (430 : Nat); omega⟩) (fun H locs hP hD hS => ?_)
                                      refine W.eq (g2 := F0 m 371 ls [.ref sbq, .ref (b_o 0 0)]) rfl ?_
                                      refine px_ldcSW (i := 9) (tx := ";f0") hx hb hown hX rfl dL_changes_371 ?_
                                      refine px_VZ (As := [.ref (X.1 9)]) (rest := [.ref (b_o 0 0)]) (gs := ([gO E b_o w7, gB L sbq sbv (gff L (va_cpy (fun j => (sByt.getD 8 []).getD j 0) (gff L (va_cpy (fun j => (sByt.getD 7 []).getD j 0) (gff L (va_cpy (fun j => (sByt.getD 6 []).getD j 0) (fun _ => 0) 0 (0) (sLen.getD 6 0)) (0 + (sLen.getD 6 0) + dgs xs153) xs153) 0 (0 + (sLen.getD 6 0) + dgs xs153) (sLen.getD 7 0)) (0 + (sLen.getD 6 0) + dgs xs153 + (sLen.getD 7 0) + dgs xs159) xs159) 0 (0 + (sLen.getD 6 0) + dgs xs153 + (sLen.getD 7 0) + dgs xs159) (sLen.getD 8 0)) (0 + (sLen.getD 6 0) + dgs xs153 + (sLen.getD 7 0) + dgs xs159 + (sLen.getD 8 0) + dgs xs165) xs165) (nI (0 + (sLen.getD 6 0) + dgs xs153 + (sLen.getD 7 0) + dgs xs159 + (sLen.getD 8 0) + dgs xs165))] : List va_W)) (gr := ([gO E b_o w7] : List va_W)) (gc := ([gB L sbq sbv (gff L (va_cpy (fun j => (sByt.getD 8 []).getD j 0) (gff L (va_cpy (fun j => (sByt.getD 7 []).getD j 0) (gff L (va_cpy (fun j => (sByt.getD 6 []).getD j 0) (fun _ => 0) 0 (0) (sLen.getD 6 0)) (0 + (sLen.getD 6 0) + dgs xs153) xs153) 0 (0 + (sLen.getD 6 0) + dgs xs153) (sLen.getD 7 0)) (0 + (sLen.getD 6 0) + dgs xs153 + (sLen.getD 7 0) + dgs xs159) xs159) 0 (0 + (sLen.getD 6 0) + dgs xs153 + (sLen.getD 7 0) + dgs xs159) (sLen.getD 8 0)) (0 + (sLen.getD 6 0) + dgs xs153 + (sLen.getD 7 0) + dgs xs159 + (sLen.getD 8 0) + dgs xs165) xs165) (nI (0 + (sLen.getD 6 0) + dgs xs153 + (sLen.getD 7 0) + dgs xs159 + (sLen.getD 8 0) + dgs xs165))] : List va_W)) (g1 := ([gB L sbq sbv (va_cpy (fun j => (sByt.getD 9 []).getD j 0) (gff L (va_cpy (fun j => (sByt.getD 8 []).getD j 0) (gff L (va_cpy (fun j => (sByt.getD 7 []).getD j 0) (gff L (va_cpy (fun j => (sByt.getD 6 []).getD j 0) (fun _ => 0) 0 (0) (sLen.getD 6 0)) (0 + (sLen.getD 6 0) + dgs xs153) xs153) 0 (0 + (sLen.getD 6 0) + dgs xs153) (sLen.getD 7 0)) (0 + (sLen.getD 6 0) + dgs xs153 + (sLen.getD 7 0) + dgs xs159) xs159) 0 (0 + (sLen.getD 6 0) + dgs xs153 + (sLen.getD 7 0) + dgs xs159) (sLen.getD 8 0)) (0 + (sLen.getD 6 0) + dgs xs153 + (sLen.getD 7 0) + dgs xs159 + (sLen.getD 8 0) + dgs xs165) xs165) 0 (0 + (sLen.getD 6 0) + dgs xs153 + (sLen.getD 7 0) + dgs xs159 + (sLen.getD 8 0) + dgs xs165) (sLen.getD 9 0)) (nI (0 + (sLen.getD 6 0) + dgs xs153 + (sLen.getD 7 0) + dgs xs159 + (sLen.getD 8 0) + dgs xs165 + (sLen.getD 9 0)))] : List va_W)) (g2 := ([gO E b_o w7, gB L sbq sbv (va_cpy (fun j => (sByt.getD 9 []).getD j 0) (gff L (va_cpy (fun j => (sByt.getD 8 []).getD j 0) (gff L (va_cpy (fun j => (sByt.getD 7 []).getD j 0) (gff L (va_cpy (fun j => (sByt.getD 6 []).getD j 0) (fun _ => 0) 0 (0) (sLen.getD 6 0)) (0 + (sLen.getD 6 0) + dgs xs153) xs153) 0 (0 + (sLen.getD 6 0) + dgs xs153) (sLen.getD 7 0)) (0 + (sLen.getD 6 0) + dgs xs153 + (sLen.getD 7 0) + dgs xs159) xs159) 0 (0 + (sLen.getD 6 0) + dgs xs153 + (sLen.getD 7 0) + dgs xs159) (sLen.getD 8 0)) (0 + (sLen.getD 6 0) + dgs xs153 + (sLen.getD 7 0) + dgs xs159 + (sLen.getD 8 0) + dgs xs165) xs165) 0 (0 + (sLen.getD 6 0) + dgs xs153 + (sLen.getD 7 0) + dgs xs159 + (sLen.getD 8 0) + dgs xs165) (sLen.getD 9 0)) (nI (0 + (sLen.getD 6 0) + dgs xs153 + (sLen.getD 7 0) + dgs xs159 + (sLen.getD 8 0) + dgs xs165 + (sLen.getD 9 0)))] : List va_W)) ⟨hx, hb, hml, hown, hts⟩ (c4_appendS l E X L sbq sbv (0 + (sLen.getD 6 0) + dgs xs153 + (sLen.getD 7 0) + dgs xs159 + (sLen.getD 8 0) + dgs xs165) (gff L (va_cpy (fun j => (sByt.getD 8 []).getD j 0) (gff L (va_cpy (fun j => (sByt.getD 7 []).getD j 0) (gff L (va_cpy (fun j => (sByt.getD 6 []).getD j 0) (fun _ => 0) 0 (0) (sLen.getD 6 0)) (0 + (sLen.getD 6 0) + dgs xs153) xs153) 0 (0 + (sLen.getD 6 0) + dgs xs153) (sLen.getD 7 0)) (0 + (sLen.getD 6 0) + dgs xs153 + (sLen.getD 7 0) + dgs xs159) xs159) 0 (0 + (sLen.getD 6 0) + dgs xs153 + (sLen.getD 7 0) + dgs xs159) (sLen.getD 8 0)) (0 + (sLen.getD 6 0) + dgs xs153 + (sLen.getD 7 0) + dgs xs159 + (sLen.getD 8 0) + dgs xs165) xs165) (X.1 9, X.2.1 9, (sLen.getD 9 0), (fun j => (sByt.getD 9 []).getD j 0)) (px_ct (by decide)) (by decide) (sB_fit (by decide)) (by have := dgs_le xs153; have := dgs_le xs159; have := dgs_le xs165; show _ ≤ 16; simp only [show sLen.getD 6 0 = 1 from rfl, show sLen.getD 7 0 = 1 from rfl, show sLen.getD 8 0 = 1 from rfl, show sLen.getD 9 0 = 3 from rfl, show sLen.getD 10 0 = 1 from rfl, show sLen.getD 11 0 = 1 from rfl, show sLen.getD 12 0 = 1 from rfl]; omega)) (cw_V 1 hts q1226 q1227 q1228 q46 q1229 hdX_J4_append_15ec4 (by rw [hR]; first | exact ⟨Nat.le_of_ble_eq_true rfl, Nat.le_of_ble_eq_true rfl⟩ | exact ⟨by show _ ≤ (69 : Nat); omega, by show _ ≤ (430 : Nat); omega⟩)) (px_recv hK hP [1] rfl 0 10 rfl rfl rfl) hK hN hX hL hP hD hS hA [0] [1] [0, 1] rfl rfl (by decide) (by decide) rfl (by decide) rfl hl.1 rfl (Nat.le_of_ble_eq_true rfl) dL_changes_374 (by rw [hR]; first | exact ⟨Nat.le_of_ble_eq_true rfl, Nat.le_of_ble_eq_true rfl⟩ | exact ⟨by show _ ≤ (69 : Nat); omega, by show _ ≤ (430 : Nat); omega⟩) (fun H locs hP hD hS => ?_)
                                      refine W.eq (g2 := F0 m 377 ls [.ref sbq, .ref (b_o 0 0)]) rfl ?_
                                      have hsb : 0 + (sLen.getD 6 0) + dgs xs153 + (sLen.getD 7 0) + dgs xs159 + (sLen.getD 8 0) + dgs xs165 + (sLen.getD 9 0) < 16 := (by have := dgs_le xs153; have := dgs_le xs159; have := dgs_le xs165; show _ < 16; simp only [show sLen.getD 6 0 = 1 from rfl, show sLen.getD 7 0 = 1 from rfl, show sLen.getD 8 0 = 1 from rfl, show sLen.getD 9 0 = 3 from rfl, show sLen.getD 10 0 = 1 from rfl, show sLen.getD 11 0 = 1 from rfl, show sLen.getD 12 0 = 1 from rfl]; omega)
                                      refine px_VEZ (As := []) (rest := [.ref (b_o 0 0)]) (gs := ([gO E b_o w7, gB L sbq sbv (va_cpy (fun j => (sByt.getD 9 []).getD j 0) (gff L (va_cpy (fun j => (sByt.getD 8 []).getD j 0) (gff L (va_cpy (fun j => (sByt.getD 7 []).getD j 0) (gff L (va_cpy (fun j => (sByt.getD 6 []).getD j 0) (fun _ => 0) 0 (0) (sLen.getD 6 0)) (0 + (sLen.getD 6 0) + dgs xs153) xs153) 0 (0 + (sLen.getD 6 0) + dgs xs153) (sLen.getD 7 0)) (0 + (sLen.getD 6 0) + dgs xs153 + (sLen.getD 7 0) + dgs xs159) xs159) 0 (0 + (sLen.getD 6 0) + dgs xs153 + (sLen.getD 7 0) + dgs xs159) (sLen.getD 8 0)) (0 + (sLen.getD 6 0) + dgs xs153 + (sLen.getD 7 0) + dgs xs159 + (sLen.getD 8 0) + dgs xs165) xs165) 0 (0 + (sLen.getD 6 0) + dgs xs153 + (sLen.getD 7 0) + dgs xs159 + (sLen.getD 8 0) + dgs xs165) (sLen.getD 9 0)) (nI (0 + (sLen.getD 6 0) + dgs xs153 + (sLen.getD 7 0) + dgs xs159 + (sLen.getD 8 0) + dgs xs165 + (sLen.getD 9 0)))] : List va_W)) (gr := ([gO E b_o w7] : List va_W)) (gc := ([gB L sbq sbv (va_cpy (fun j => (sByt.getD 9 []).getD j 0) (gff L (va_cpy (fun j => (sByt.getD 8 []).getD j 0) (gff L (va_cpy (fun j => (sByt.getD 7 []).getD j 0) (gff L (va_cpy (fun j => (sByt.getD 6 []).getD j 0) (fun _ => 0) 0 (0) (sLen.getD 6 0)) (0 + (sLen.getD 6 0) + dgs xs153) xs153) 0 (0 + (sLen.getD 6 0) + dgs xs153) (sLen.getD 7 0)) (0 + (sLen.getD 6 0) + dgs xs153 + (sLen.getD 7 0) + dgs xs159) xs159) 0 (0 + (sLen.getD 6 0) + dgs xs153 + (sLen.getD 7 0) + dgs xs159) (sLen.getD 8 0)) (0 + (sLen.getD 6 0) + dgs xs153 + (sLen.getD 7 0) + dgs xs159 + (sLen.getD 8 0) + dgs xs165) xs165) 0 (0 + (sLen.getD 6 0) + dgs xs153 + (sLen.getD 7 0) + dgs xs159 + (sLen.getD 8 0) + dgs xs165) (sLen.getD 9 0)) (nI (0 + (sLen.getD 6 0) + dgs xs153 + (sLen.getD 7 0) + dgs xs159 + (sLen.getD 8 0) + dgs xs165 + (sLen.getD 9 0)))] : List va_W)) ⟨hx, hb, hml, hown, hts⟩ (c4_toString l E X L sbq sbv (0 + (sLen.getD 6 0) + dgs xs153 + (sLen.getD 7 0) + dgs xs159 + (sLen.getD 8 0) + dgs xs165 + (sLen.getD 9 0)) (va_cpy (fun j => (sByt.getD 9 []).getD j 0) (gff L (va_cpy (fun j => (sByt.getD 8 []).getD j 0) (gff L (va_cpy (fun j => (sByt.getD 7 []).getD j 0) (gff L (va_cpy (fun j => (sByt.getD 6 []).getD j 0) (fun _ => 0) 0 (0) (sLen.getD 6 0)) (0 + (sLen.getD 6 0) + dgs xs153) xs153) 0 (0 + (sLen.getD 6 0) + dgs xs153) (sLen.getD 7 0)) (0 + (sLen.getD 6 0) + dgs xs153 + (sLen.getD 7 0) + dgs xs159) xs159) 0 (0 + (sLen.getD 6 0) + dgs xs153 + (sLen.getD 7 0) + dgs xs159) (sLen.getD 8 0)) (0 + (sLen.getD 6 0) + dgs xs153 + (sLen.getD 7 0) + dgs xs159 + (sLen.getD 8 0) + dgs xs165) xs165) 0 (0 + (sLen.getD 6 0) + dgs xs153 + (sLen.getD 7 0) + dgs xs159 + (sLen.getD 8 0) + dgs xs165) (sLen.getD 9 0)) hsb (sb_fitC (sB_fit (by decide)) (gff_fit (sb_fitC (sB_fit (by decide)) (gff_fit (sb_fitC (sB_fit (by decide)) (gff_fit (sb_fitC (sB_fit (by decide)) sb_fit0)))))))) (cw_V 0 hts q1349 q1350 q1351 q46 q1352 hdX_J4_toString_0e30d (by rw [hR]; first | exact ⟨Nat.le_of_ble_eq_true rfl, Nat.le_of_ble_eq_true rfl⟩ | exact ⟨by show _ ≤ (69 : Nat); omega, by show _ ≤ (430 : Nat); omega⟩)) (px_recv hK hP [1] rfl 0 10 rfl rfl rfl) hK hN hX hL hP hD hS hA [0] [1] rfl rfl (by decide) (by decide) rfl hl.1 rfl (Nat.le_of_ble_eq_true rfl) dL_changes_377 (by rw [hR]; first | exact ⟨Nat.le_of_ble_eq_true rfl, Nat.le_of_ble_eq_true rfl⟩ | exact ⟨by show _ ≤ (69 : Nat); omega, by show _ ≤ (430 : Nat); omega⟩) (fun stq stv H locs hP hD hS => ?_)
                                      refine W.eq (g2 := F0 m 380 ls [.ref stq, .ref (b_o 0 0)]) rfl ?_
                                      have hP := g_P (gs' := ([gO E b_o w7, gS L stq stv (0 + (sLen.getD 6 0) + dgs xs153 + (sLen.getD 7 0) + dgs xs159 + (sLen.getD 8 0) + dgs xs165 + (sLen.getD 9 0)) (va_cpy (va_cpy (fun j => (sByt.getD 9 []).getD j 0) (gff L (va_cpy (fun j => (sByt.getD 8 []).getD j 0) (gff L (va_cpy (fun j => (sByt.getD 7 []).getD j 0) (gff L (va_cpy (fun j => (sByt.getD 6 []).getD j 0) (fun _ => 0) 0 (0) (sLen.getD 6 0)) (0 + (sLen.getD 6 0) + dgs xs153) xs153) 0 (0 + (sLen.getD 6 0) + dgs xs153) (sLen.getD 7 0)) (0 + (sLen.getD 6 0) + dgs xs153 + (sLen.getD 7 0) + dgs xs159) xs159) 0 (0 + (sLen.getD 6 0) + dgs xs153 + (sLen.getD 7 0) + dgs xs159) (sLen.getD 8 0)) (0 + (sLen.getD 6 0) + dgs xs153 + (sLen.getD 7 0) + dgs xs159 + (sLen.getD 8 0) + dgs xs165) xs165) 0 (0 + (sLen.getD 6 0) + dgs xs153 + (sLen.getD 7 0) + dgs xs159 + (sLen.getD 8 0) + dgs xs165) (sLen.getD 9 0)) (fun _ => 0) 0 0 (0 + (sLen.getD 6 0) + dgs xs153 + (sLen.getD 7 0) + dgs xs159 + (sLen.getD 8 0) + dgs xs165 + (sLen.getD 9 0)))] : List va_W)) hP [0, 1] rfl
                                      have hD := g_D (gs' := ([gO E b_o w7, gS L stq stv (0 + (sLen.getD 6 0) + dgs xs153 + (sLen.getD 7 0) + dgs xs159 + (sLen.getD 8 0) + dgs xs165 + (sLen.getD 9 0)) (va_cpy (va_cpy (fun j => (sByt.getD 9 []).getD j 0) (gff L (va_cpy (fun j => (sByt.getD 8 []).getD j 0) (gff L (va_cpy (fun j => (sByt.getD 7 []).getD j 0) (gff L (va_cpy (fun j => (sByt.getD 6 []).getD j 0) (fun _ => 0) 0 (0) (sLen.getD 6 0)) (0 + (sLen.getD 6 0) + dgs xs153) xs153) 0 (0 + (sLen.getD 6 0) + dgs xs153) (sLen.getD 7 0)) (0 + (sLen.getD 6 0) + dgs xs153 + (sLen.getD 7 0) + dgs xs159) xs159) 0 (0 + (sLen.getD 6 0) + dgs xs153 + (sLen.getD 7 0) + dgs xs159) (sLen.getD 8 0)) (0 + (sLen.getD 6 0) + dgs xs153 + (sLen.getD 7 0) + dgs xs159 + (sLen.getD 8 0) + dgs xs165) xs165) 0 (0 + (sLen.getD 6 0) + dgs xs153 + (sLen.getD 7 0) + dgs xs159 + (sLen.getD 8 0) + dgs xs165) (sLen.getD 9 0)) (fun _ => 0) 0 0 (0 + (sLen.getD 6 0) + dgs xs153 + (sLen.getD 7 0) + dgs xs159 + (sLen.getD 8 0) + dgs xs165 + (sLen.getD 9 0)))] : List va_W)) hD [0, 1] (by decide) rfl
                                      refine lv_goto (tgt := 443) hx hb dL_changes_380 (by decide) ?_
                                      obtain ⟨⟨r168, w169⟩, hr170, h⟩ := ob h
                                      dsimp only at h
                                      have hKB := hL.2.1.2.2.1
                                      have hstr := px_strOf (gc := ([gO E b_o w7] : List va_W)) (L := L) (k := w169) hts hK hKB hP hD 1 rfl [0] rfl (by decide) (by omega)
                                      refine px_SZ2 (X2 := (X.1, X.2.1, [(stq, stv, 0 + (sLen.getD 6 0) + dgs xs153 + (sLen.getD 7 0) + dgs xs159 + (sLen.getD 8 0) + dgs xs165 + (sLen.getD 9 0), (va_cpy (va_cpy (fun j => (sByt.getD 9 []).getD j 0) (gff L (va_cpy (fun j => (sByt.getD 8 []).getD j 0) (gff L (va_cpy (fun j => (sByt.getD 7 []).getD j 0) (gff L (va_cpy (fun j => (sByt.getD 6 []).getD j 0) (fun _ => 0) 0 (0) (sLen.getD 6 0)) (0 + (sLen.getD 6 0) + dgs xs153) xs153) 0 (0 + (sLen.getD 6 0) + dgs xs153) (sLen.getD 7 0)) (0 + (sLen.getD 6 0) + dgs xs153 + (sLen.getD 7 0) + dgs xs159) xs159) 0 (0 + (sLen.getD 6 0) + dgs xs153 + (sLen.getD 7 0) + dgs xs159) (sLen.getD 8 0)) (0 + (sLen.getD 6 0) + dgs xs153 + (sLen.getD 7 0) + dgs xs159 + (sLen.getD 8 0) + dgs xs165) xs165) 0 (0 + (sLen.getD 6 0) + dgs xs153 + (sLen.getD 7 0) + dgs xs159 + (sLen.getD 8 0) + dgs xs165) (sLen.getD 9 0)) (fun _ => 0) 0 0 (0 + (sLen.getD 6 0) + dgs xs153 + (sLen.getD 7 0) + dgs xs159 + (sLen.getD 8 0) + dgs xs165 + (sLen.getD 9 0))))])) (As := [.ref (b_o 0 0), .ref stq]) (rest := []) (gs := ([gO E b_o w7, gS L stq stv (0 + (sLen.getD 6 0) + dgs xs153 + (sLen.getD 7 0) + dgs xs159 + (sLen.getD 8 0) + dgs xs165 + (sLen.getD 9 0)) (va_cpy (va_cpy (fun j => (sByt.getD 9 []).getD j 0) (gff L (va_cpy (fun j => (sByt.getD 8 []).getD j 0) (gff L (va_cpy (fun j => (sByt.getD 7 []).getD j 0) (gff L (va_cpy (fun j => (sByt.getD 6 []).getD j 0) (fun _ => 0) 0 (0) (sLen.getD 6 0)) (0 + (sLen.getD 6 0) + dgs xs153) xs153) 0 (0 + (sLen.getD 6 0) + dgs xs153) (sLen.getD 7 0)) (0 + (sLen.getD 6 0) + dgs xs153 + (sLen.getD 7 0) + dgs xs159) xs159) 0 (0 + (sLen.getD 6 0) + dgs xs153 + (sLen.getD 7 0) + dgs xs159) (sLen.getD 8 0)) (0 + (sLen.getD 6 0) + dgs xs153 + (sLen.getD 7 0) + dgs xs159 + (sLen.getD 8 0) + dgs xs165) xs165) 0 (0 + (sLen.getD 6 0) + dgs xs153 + (sLen.getD 7 0) + dgs xs159 + (sLen.getD 8 0) + dgs xs165) (sLen.getD 9 0)) (fun _ => 0) 0 0 (0 + (sLen.getD 6 0) + dgs xs153 + (sLen.getD 7 0) + dgs xs159 + (sLen.getD 8 0) + dgs xs165 + (sLen.getD 9 0)))] : List va_W)) (gr := ([gS L stq stv (0 + (sLen.getD 6 0) + dgs xs153 + (sLen.getD 7 0) + dgs xs159 + (sLen.getD 8 0) + dgs xs165 + (sLen.getD 9 0)) (va_cpy (va_cpy (fun j => (sByt.getD 9 []).getD j 0) (gff L (va_cpy (fun j => (sByt.getD 8 []).getD j 0) (gff L (va_cpy (fun j => (sByt.getD 7 []).getD j 0) (gff L (va_cpy (fun j => (sByt.getD 6 []).getD j 0) (fun _ => 0) 0 (0) (sLen.getD 6 0)) (0 + (sLen.getD 6 0) + dgs xs153) xs153) 0 (0 + (sLen.getD 6 0) + dgs xs153) (sLen.getD 7 0)) (0 + (sLen.getD 6 0) + dgs xs153 + (sLen.getD 7 0) + dgs xs159) xs159) 0 (0 + (sLen.getD 6 0) + dgs xs153 + (sLen.getD 7 0) + dgs xs159) (sLen.getD 8 0)) (0 + (sLen.getD 6 0) + dgs xs153 + (sLen.getD 7 0) + dgs xs159 + (sLen.getD 8 0) + dgs xs165) xs165) 0 (0 + (sLen.getD 6 0) + dgs xs153 + (sLen.getD 7 0) + dgs xs159 + (sLen.getD 8 0) + dgs xs165) (sLen.getD 9 0)) (fun _ => 0) 0 0 (0 + (sLen.getD 6 0) + dgs xs153 + (sLen.getD 7 0) + dgs xs159 + (sLen.getD 8 0) + dgs xs165 + (sLen.getD 9 0)))] : List va_W)) (gc := ([gO E b_o w7] : List va_W)) (g1 := ([gO E b_o w169] : List va_W)) (g2 := ([gO E b_o w169, gS L stq stv (0 + (sLen.getD 6 0) + dgs xs153 + (sLen.getD 7 0) + dgs xs159 + (sLen.getD 8 0) + dgs xs165 + (sLen.getD 9 0)) (va_cpy (va_cpy (fun j => (sByt.getD 9 []).getD j 0) (gff L (va_cpy (fun j => (sByt.getD 8 []).getD j 0) (gff L (va_cpy (fun j => (sByt.getD 7 []).getD j 0) (gff L (va_cpy (fun j => (sByt.getD 6 []).getD j 0) (fun _ => 0) 0 (0) (sLen.getD 6 0)) (0 + (sLen.getD 6 0) + dgs xs153) xs153) 0 (0 + (sLen.getD 6 0) + dgs xs153) (sLen.getD 7 0)) (0 + (sLen.getD 6 0) + dgs xs153 + (sLen.getD 7 0) + dgs xs159) xs159) 0 (0 + (sLen.getD 6 0) + dgs xs153 + (sLen.getD 7 0) + dgs xs159) (sLen.getD 8 0)) (0 + (sLen.getD 6 0) + dgs xs153 + (sLen.getD 7 0) + dgs xs159 + (sLen.getD 8 0) + dgs xs165) xs165) 0 (0 + (sLen.getD 6 0) + dgs xs153 + (sLen.getD 7 0) + dgs xs159 + (sLen.getD 8 0) + dgs xs165) (sLen.getD 9 0)) (fun _ => 0) 0 0 (0 + (sLen.getD 6 0) + dgs xs153 + (sLen.getD 7 0) + dgs xs159 + (sLen.getD 8 0) + dgs xs165 + (sLen.getD 9 0)))] : List va_W)) ⟨hx, hb, hml, hown, hts⟩ (mL_reads l hlt E (X.1, X.2.1, [(stq, stv, 0 + (sLen.getD 6 0) + dgs xs153 + (sLen.getD 7 0) + dgs xs159 + (sLen.getD 8 0) + dgs xs165 + (sLen.getD 9 0), (va_cpy (va_cpy (fun j => (sByt.getD 9 []).getD j 0) (gff L (va_cpy (fun j => (sByt.getD 8 []).getD j 0) (gff L (va_cpy (fun j => (sByt.getD 7 []).getD j 0) (gff L (va_cpy (fun j => (sByt.getD 6 []).getD j 0) (fun _ => 0) 0 (0) (sLen.getD 6 0)) (0 + (sLen.getD 6 0) + dgs xs153) xs153) 0 (0 + (sLen.getD 6 0) + dgs xs153) (sLen.getD 7 0)) (0 + (sLen.getD 6 0) + dgs xs153 + (sLen.getD 7 0) + dgs xs159) xs159) 0 (0 + (sLen.getD 6 0) + dgs xs153 + (sLen.getD 7 0) + dgs xs159) (sLen.getD 8 0)) (0 + (sLen.getD 6 0) + dgs xs153 + (sLen.getD 7 0) + dgs xs159 + (sLen.getD 8 0) + dgs xs165) xs165) 0 (0 + (sLen.getD 6 0) + dgs xs153 + (sLen.getD 7 0) + dgs xs159 + (sLen.getD 8 0) + dgs xs165) (sLen.getD 9 0)) (fun _ => 0) 0 0 (0 + (sLen.getD 6 0) + dgs xs153 + (sLen.getD 7 0) + dgs xs159 + (sLen.getD 8 0) + dgs xs165 + (sLen.getD 9 0))))]) L b_o ((0 + (sLen.getD 6 0) + dgs xs153 + (sLen.getD 7 0) + dgs xs159 + (sLen.getD 8 0) + dgs xs165 + (sLen.getD 9 0))) ((va_cpy (va_cpy (fun j => (sByt.getD 9 []).getD j 0) (gff L (va_cpy (fun j => (sByt.getD 8 []).getD j 0) (gff L (va_cpy (fun j => (sByt.getD 7 []).getD j 0) (gff L (va_cpy (fun j => (sByt.getD 6 []).getD j 0) (fun _ => 0) 0 (0) (sLen.getD 6 0)) (0 + (sLen.getD 6 0) + dgs xs153) xs153) 0 (0 + (sLen.getD 6 0) + dgs xs153) (sLen.getD 7 0)) (0 + (sLen.getD 6 0) + dgs xs153 + (sLen.getD 7 0) + dgs xs159) xs159) 0 (0 + (sLen.getD 6 0) + dgs xs153 + (sLen.getD 7 0) + dgs xs159) (sLen.getD 8 0)) (0 + (sLen.getD 6 0) + dgs xs153 + (sLen.getD 7 0) + dgs xs159 + (sLen.getD 8 0) + dgs xs165) xs165) 0 (0 + (sLen.getD 6 0) + dgs xs153 + (sLen.getD 7 0) + dgs xs159 + (sLen.getD 8 0) + dgs xs165) (sLen.getD 9 0)) (fun _ => 0) 0 0 (0 + (sLen.getD 6 0) + dgs xs153 + (sLen.getD 7 0) + dgs xs159 + (sLen.getD 8 0) + dgs xs165 + (sLen.getD 9 0)))) stq stv (Or.inl List.mem_cons_self) (by omega) (w7) r168 w169 hr170) (va_cwS 2 hts (ws_s q1417 q1418 q17 q1419) rfl rfl rfl hdS_L_reads (by rw [hR]; first | exact ⟨Nat.le_of_ble_eq_true rfl, Nat.le_of_ble_eq_true rfl⟩ | exact ⟨by show _ ≤ (69 : Nat); omega, by show _ ≤ (430 : Nat); omega⟩)) hK hN hX (fun h9 => px_one h9 hstr) hL hP hD hS hA [1] [0] [1, 0] rfl rfl (by decide) (by decide) rfl (by decide) rfl hl.1 rfl (Nat.le_of_ble_eq_true rfl) dL_changes_443 (by rw [hR]; first | exact ⟨Nat.le_of_ble_eq_true rfl, Nat.le_of_ble_eq_true rfl⟩ | exact ⟨by show _ ≤ (69 : Nat); omega, by show _ ≤ (430 : Nat); omega⟩) (fun H locs hP hD hS => ?_)
                                      have hP := g_P (gs' := ([gO E b_o w169] : List va_W)) hP [0] rfl
                                      have hD := g_D (gs' := ([gO E b_o w169] : List va_W)) hD [0] (by decide) rfl
                                      refine W.eq (g2 := F0 m 446 ls [.int r168]) rfl ?_
                                      refine lv_if_lt (tgt := 453) hx hb dL_changes_446 (by decide) (fun c171 => ?_) (fun c171 => ?_)
                                      · rw [if_pos c171] at h
                                        refine lv_iconst (v := (nI 0)) hx hb dL_changes_453 (by decide) ?_
                                        cases h
                                        refine W.eq (g2 := F0 m 454 ls [.int (b2i false)]) rfl ?_
                                        refine W.widen (k := 69) (n := 430) (by omega) (by omega) ?_
                                        exact px_eWz (b2i_n _) hA0 hQ hP hD hS hx hb hr hlocks dL_changes_454
                                      · rw [if_neg c171] at h
                                        refine lv_iconst (v := (nI 1)) hx hb dL_changes_449 (by decide) ?_
                                        refine lv_goto (tgt := 454) hx hb dL_changes_450 (by decide) ?_
                                        cases h
                                        refine W.eq (g2 := F0 m 454 ls [.int (b2i true)]) rfl ?_
                                        refine W.widen (k := 69) (n := 430) (by omega) (by omega) ?_
                                        exact px_eWz (b2i_n _) hA0 hQ hP hD hS hx hb hr hlocks dL_changes_454
