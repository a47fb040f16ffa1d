def f5_amounts   : Option (Unit) := (some ())
set_option maxHeartbeats 4000000 in
set_option maxRecDepth 100000 in
theorem c5_amounts (l : Launch) (E : PE) (a : Nat → Nat)   (v_row : AI) (v_conflictCount : Int32) (v_lowest : Int32)  (h : f5_amounts  = some ()) : MP l yX5_amounts cX5_amounts 1 (some (.array .int)) { frames := 0, cells := 0, slots := 0, locals := 0 } E [.ref (a 0)] ([gX5 E a v_row v_conflictCount v_lowest] : List va_W).flatten (some (.ref (a 1))) := by
  refine px_startP (by decide +kernel) (Nat.le_of_ble_eq_true rfl) ?_
  intro p e s m args below meth c R Q A ls hC hQ
  obtain ⟨hx, hb, hr, hml, hts, hown, hlocks, hR, hK, hN, hP, hD, hA, hl, hin⟩ := hC
  have hl : lv_has ls 1 [(0, .ref (a 0))] := hl
  unfold f5_amounts at h
  refine lv_aload_n hx hb dX5_amounts_0 rfl (lv_at hl 0 rfl) ?_
  refine va_get (D := E.1) (ci := 5) (v := .ref (a 1)) (C := RX5) (T := TX5) (N := 3) hx hb hts iX5 hown hK hP 0 rfl rfl 0 (by decide) (hts _ q129) (fun _ h9 => h9) rfl dX5_amounts_1 ?_
  cases h
  exact px_ePa (Or.inr ⟨_, rfl⟩) hQ hx hb hr hlocks dX5_amounts_4
def f5_conflictsFound  (v_conflictCount : Int32) : Option (Int32) := (some v_conflictCount)
set_option maxHeartbeats 4000000 in
set_option maxRecDepth 100000 in
theorem c5_conflictsFound (l : Launch) (E : PE) (a : Nat → Nat)   (v_row : AI) (v_conflictCount : Int32) (v_lowest : Int32) (r : Int32) (h : f5_conflictsFound v_conflictCount = some r) : MP l yX5_conflictsFound cX5_conflictsFound 1 (some .int) { frames := 0, cells := 0, slots := 0, locals := 0 } E [.ref (a 0)] ([gX5 E a v_row v_conflictCount v_lowest] : List va_W).flatten (some (.int r)) := by
  refine px_startP (by decide +kernel) (Nat.le_of_ble_eq_true rfl) ?_
  intro p e s m args below meth c R Q A ls hC hQ
  obtain ⟨hx, hb, hr, hml, hts, hown, hlocks, hR, hK, hN, hP, hD, hA, hl, hin⟩ := hC
  have hl : lv_has ls 1 [(0, .ref (a 0))] := hl
  unfold f5_conflictsFound at h
  refine lv_aload_n hx hb dX5_conflictsFound_0 rfl (lv_at hl 0 rfl) ?_
  refine va_get (D := E.1) (ci := 5) (v := .int v_conflictCount) (C := RX5) (T := TX5) (N := 3) hx hb hts iX5 hown hK hP 0 rfl rfl 1 (by decide) (hts _ q130) (fun _ h9 => h9) rfl dX5_conflictsFound_1 ?_
  cases h
  exact px_ePi hQ hx hb hr hlocks dX5_conflictsFound_4
def f5_lowestConflict  (v_lowest : Int32) : Option (Int32) := (some v_lowest)
set_option maxHeartbeats 4000000 in
set_option maxRecDepth 100000 in
theorem c5_lowestConflict (l : Launch) (E : PE) (a : Nat → Nat)   (v_row : AI) (v_conflictCount : Int32) (v_lowest : Int32) (r : Int32) (h : f5_lowestConflict v_lowest = some r) : MP l yX5_lowestConflict cX5_lowestConflict 1 (some .int) { frames := 0, cells := 0, slots := 0, locals := 0 } E [.ref (a 0)] ([gX5 E a v_row v_conflictCount v_lowest] : List va_W).flatten (some (.int r)) := by
  refine px_startP (by decide +kernel) (Nat.le_of_ble_eq_true rfl) ?_
  intro p e s m args below meth c R Q A ls hC hQ
  obtain ⟨hx, hb, hr, hml, hts, hown, hlocks, hR, hK, hN, hP, hD, hA, hl, hin⟩ := hC
  have hl : lv_has ls 1 [(0, .ref (a 0))] := hl
  unfold f5_lowestConflict at h
  refine lv_aload_n hx hb dX5_lowestConflict_0 rfl (lv_at hl 0 rfl) ?_
  refine va_get (D := E.1) (ci := 5) (v := .int v_lowest) (C := RX5) (T := TX5) (N := 3) hx hb hts iX5 hown hK hP 0 rfl rfl 2 (by decide) (hts _ q131) (fun _ h9 => h9) rfl dX5_lowestConflict_1 ?_
  cases h
  exact px_ePi hQ hx hb hr hlocks dX5_lowestConflict_4
def f5_byRule (x0 : Int32) (x1 : Int32) (x2 : Int32)  : Option (Int32) := (if x2 = (nI 2) then (some x1) else (if x2 = (nI 3) then (some ((x0 + x1) / (nI 2))) else (some x0)))
set_option maxHeartbeats 4000000 in
set_option maxRecDepth 100000 in
theorem c5_byRule (l : Launch) (E : PE)   (x0 : Int32) (x1 : Int32) (x2 : Int32)  (r : Int32) (h : f5_byRule x0 x1 x2 = some r) : MP l yX5_byRule cX5_byRule 3 (some .int) { frames := 0, cells := 0, slots := 0, locals := 0 } E [.int x0, .int x1, .int x2] ([] : List va_W).flatten (some (.int r)) := by
  refine px_startP (by decide +kernel) (Nat.le_of_ble_eq_true rfl) ?_
  intro p e s m args below meth c R Q A ls hC hQ
  obtain ⟨hx, hb, hr, hml, hts, hown, hlocks, hR, hK, hN, hP, hD, hA, hl, hin⟩ := hC
  have hl : lv_has ls 3 [(0, .int x0), (1, .int x1), (2, .int x2)] := hl
  unfold f5_byRule at h
  refine lv_iload_n hx hb dX5_byRule_0 rfl (lv_at hl 2 rfl) ?_
  refine lv_iconst (v := (nI 2)) hx hb dX5_byRule_1 (by decide) ?_
  refine lv_icmp_ne (tgt := 7) hx hb dX5_byRule_2 (by decide) (fun c1 => ?_) (fun c1 => ?_)
  · rw [if_neg c1] at h
    refine lv_iload_n hx hb dX5_byRule_7 rfl (lv_at hl 2 rfl) ?_
    refine lv_iconst (v := (nI 3)) hx hb dX5_byRule_8 (by decide) ?_
    refine lv_icmp_ne (tgt := 20) hx hb dX5_byRule_9 (by decide) (fun c2 => ?_) (fun c2 => ?_)
    · rw [if_neg c2] at h
      refine lv_iload_n hx hb dX5_byRule_20 rfl (lv_at hl 0 rfl) ?_
      cases h
      exact px_ePi hQ hx hb hr hlocks dX5_byRule_21
    · rw [if_pos c2] at h
      refine lv_iload_n hx hb dX5_byRule_12 rfl (lv_at hl 0 rfl) ?_
      refine lv_iload_n hx hb dX5_byRule_13 rfl (lv_at hl 1 rfl) ?_
      refine lv_iadd hx hb dX5_byRule_14 ?_
      refine lv_iconst (v := (nI 2)) hx hb dX5_byRule_15 (by decide) ?_
      refine lv_idiv hx hb dX5_byRule_16 (by decide) ?_
      refine lv_goto (tgt := 21) hx hb dX5_byRule_17 (by decide) ?_
      cases h
      exact px_ePi hQ hx hb hr hlocks dX5_byRule_21
  · rw [if_pos c1] at h
    refine lv_iload_n hx hb dX5_byRule_5 rfl (lv_at hl 1 rfl) ?_
    cases h
    exact px_ePi hQ hx hb hr hlocks dX5_byRule_6
def f5_change_L3 (x2 : Int32) (x3 : Int32) (x4 : Int32) (φ_forest : Fo) : Nat → Int32 → AI → Option (AI)
  | 0, _, _ => none
  | n + 1, x5, v_row => (if (nI 6) ≤ x5 then (some v_row) else (if x5 = x3 then (if inb x5 6 = true then (lt (upd v_row (x5).toNatClampNeg x4) fun u9 => (f5_change_L3 x2 x3 x4 φ_forest n ((x5 + nI 1)) (u9))) else none) else ((f1_amountIn (x2) (x5) (φ_forest)).bind fun r3 => (if inb x5 6 = true then (lt (upd v_row (x5).toNatClampNeg r3) fun u6 => (f5_change_L3 x2 x3 x4 φ_forest n ((x5 + nI 1)) (u6))) else none))))
def f5_change (x2 : Int32) (x3 : Int32) (x4 : Int32) (v_row : AI) (φ_forest : Fo) : Option (AI) := (f5_change_L3 x2 x3 x4 φ_forest fuel ((nI 0)) (v_row))
set_option maxHeartbeats 4000000 in
set_option maxRecDepth 100000 in
theorem c5_change (l : Launch) (E : PE) (a : Nat → Nat) (a_forest : Nat → Nat)  (x2 : Int32) (x3 : Int32) (x4 : Int32) (v_row : AI) (v_conflictCount : Int32) (v_lowest : Int32) (φ_forest : Fo) (z_this_row : AI) (h : f5_change x2 x3 x4 v_row φ_forest = some z_this_row) : MW l yX5_change cX5_change 6 none { frames := 1, cells := 0, slots := 0, locals := 22 } E [.ref (a 0), .ref (a_forest 0), .int x2, .int x3, .int x4] ([gX5 E a v_row v_conflictCount v_lowest, gX1 E a_forest φ_forest] : List va_W).flatten 0 0 none ([gX5 E a z_this_row v_conflictCount v_lowest, gX1 E a_forest φ_forest] : List va_W).flatten := by
  refine px_startW (by decide +kernel) (Nat.le_of_ble_eq_true rfl) ?_
  intro p e s m args below meth c R Q A ls hC hA0 hQ
  obtain ⟨hx, hb, hr, hml, hts, hown, hlocks, hR, hK, hN, hP, hD, hA, hl, hin⟩ := hC
  have hl : lv_has ls 6 [(0, .ref (a 0)), (1, .ref (a_forest 0)), (2, .int x2), (3, .int x3), (4, .int x4)] := hl
  suffices key : ∀ (H : Heap) (locs : List Loc), va_P E.1 vwCl ([gX5 E a v_row v_conflictCount v_lowest, gX1 E a_forest φ_forest] : List va_W).flatten H → va_S A s.heap H locs → W p l e R s m args below meth c H locs 0 0 Q (F0 m 0 ls []) from key s.heap [] hP va_S.rf
  unfold f5_change at h
  have L3 : ∀ (n : Nat) (x5 : Int32) (v_row : AI) (H : Heap) (locs : List Loc) (ls : Array Slot), va_P E.1 vwCl ([gX5 E a v_row v_conflictCount v_lowest, gX1 E a_forest φ_forest] : List va_W).flatten H → va_D A ([gX5 E a v_row v_conflictCount v_lowest, gX1 E a_forest φ_forest] : List va_W).flatten → va_S A s.heap H locs → lv_has ls 6 [(0, .ref (a 0)), (1, .ref (a_forest 0)), (2, .int x2), (3, .int x3), (4, .int x4), (5, .int x5)] → f5_change_L3 x2 x3 x4 φ_forest n x5 v_row = some z_this_row → W p l e R s m args below meth c H locs 0 0 Q (F0 m 3 ls []) := by
    intro n
    induction n with
    | zero =>
      intro x5 v_row H locs ls hP hD hS hl h
      unfold f5_change_L3 at h; cases h
    | succ n ih =>
      intro x5 v_row H locs ls hP hD hS hl h
      unfold f5_change_L3 at h
      refine lv_iload hx hb dX5_change_3 (lv_at hl 5 rfl) ?_
      refine lv_bipush (v := (nI 6)) hx hb dX5_change_5 (by decide) ?_
      refine lv_icmp_ge (tgt := 41) hx hb dX5_change_7 (by decide) (fun c1 => ?_) (fun c1 => ?_)
      · rw [if_pos c1] at h
        cases h
        exact px_eWv hA0 hQ hP hD hS hx hb hr hlocks dX5_change_41
      · rw [if_neg c1] at h
        refine lv_aload_n hx hb dX5_change_10 rfl (lv_at hl 0 rfl) ?_
        refine va_get (D := E.1) (ci := 5) (v := .ref (a 1)) (C := RX5) (T := TX5) (N := 3) hx hb hts iX5 hown hK hP 0 rfl rfl 0 (by decide) (hts _ q129) (fun _ h9 => h9) rfl dX5_change_11 ?_
        refine lv_iload hx hb dX5_change_14 (lv_at hl 5 rfl) ?_
        refine lv_iload hx hb dX5_change_16 (lv_at hl 5 rfl) ?_
        refine lv_iload_n hx hb dX5_change_18 rfl (lv_at hl 3 rfl) ?_
        refine lv_icmp_ne (tgt := 27) hx hb dX5_change_19 (by decide) (fun c2 => ?_) (fun c2 => ?_)
        · rw [if_neg c2] at h
          refine lv_aload_n hx hb dX5_change_27 rfl (lv_at hl 1 rfl) ?_
          refine lv_iload_n hx hb dX5_change_28 rfl (lv_at hl 2 rfl) ?_
          refine lv_iload hx hb dX5_change_29 (lv_at hl 5 rfl) ?_
          obtain ⟨r3, hr4, h⟩ := ob h
          refine px_Vp (As := [.int x2, .int x5]) (rest := [.int x5, .ref (a 1)]) (gs := ([gX5 E a v_row v_conflictCount v_lowest, gX1 E a_forest φ_forest] : List va_W)) (gc := ([gX1 E a_forest φ_forest] : List va_W)) ⟨hx, hb, hml, hown, hts⟩ (c1_amountIn l E a_forest  (x2) (x5) (φ_forest) r3 hr4) (cwV 2 hts (ws_v q314 q299 q300 q19 q301) rfl rfl rfl hdV_X1_amountIn (by rw [hR]; exact ⟨Nat.le_of_ble_eq_true rfl, Nat.le_of_ble_eq_true rfl⟩)) hK hN hP hD [1] rfl (by decide) 0 1 rfl rfl rfl rfl hl.1 rfl (Nat.le_of_ble_eq_true rfl) dX5_change_31 (by rw [hR]; exact ⟨Nat.le_of_ble_eq_true rfl, Nat.le_of_ble_eq_true rfl⟩) ?_
          refine W.eq (g2 := F0 m 34 ls [.int r3, .int x5, .ref (a 1)]) rfl ?_
          obtain ⟨i5, h⟩ := o_t h
          refine va_iast (f := v_row) hx hb hK hP hD hS 1 0 rfl rfl (inb_in i5) dX5_change_34 (fun H locs hP hD hS => ?_)
          have hP : va_P E.1 vwCl ([gX5 E a (upd v_row (x5).toNatClampNeg r3) v_conflictCount v_lowest, gX1 E a_forest φ_forest] : List va_W).flatten H := hP
          have hD : va_D A ([gX5 E a (upd v_row (x5).toNatClampNeg r3) v_conflictCount v_lowest, gX1 E a_forest φ_forest] : List va_W).flatten := hD
          obtain ⟨u6, e7, h⟩ := lt_e h
          rw [← e7] at hP hD
          refine lv_iinc (v := (x5 + nI 1)) (lv' := [(5, .int (x5 + nI 1)), (0, .ref (a 0)), (1, .ref (a_forest 0)), (2, .int x2), (3, .int x3), (4, .int x4)]) hx hb dX5_change_35 hl (k := 5) rfl rfl (by decide) rfl (fun ls hl => ?_)
          refine lv_goto (tgt := 3) hx hb dX5_change_38 (by decide) ?_
          exact ih ((x5 + nI 1)) (u6) H locs ls hP hD hS (lv_sub hl [1, 2, 3, 4, 5, 0] rfl) h
        · rw [if_pos c2] at h
          refine lv_iload hx hb dX5_change_22 (lv_at hl 4 rfl) ?_
          refine lv_goto (tgt := 34) hx hb dX5_change_24 (by decide) ?_
          obtain ⟨i8, h⟩ := o_t h
          refine va_iast (f := v_row) hx hb hK hP hD hS 1 0 rfl rfl (inb_in i8) dX5_change_34 (fun H locs hP hD hS => ?_)
          have hP : va_P E.1 vwCl ([gX5 E a (upd v_row (x5).toNatClampNeg x4) v_conflictCount v_lowest, gX1 E a_forest φ_forest] : List va_W).flatten H := hP
          have hD : va_D A ([gX5 E a (upd v_row (x5).toNatClampNeg x4) v_conflictCount v_lowest, gX1 E a_forest φ_forest] : List va_W).flatten := hD
          obtain ⟨u9, e10, h⟩ := lt_e h
          rw [← e10] at hP hD
          refine lv_iinc (v := (x5 + nI 1)) (lv' := [(5, .int (x5 + nI 1)), (0, .ref (a 0)), (1, .ref (a_forest 0)), (2, .int x2), (3, .int x3), (4, .int x4)]) hx hb dX5_change_35 hl (k := 5) rfl rfl (by decide) rfl (fun ls hl => ?_)
          refine lv_goto (tgt := 3) hx hb dX5_change_38 (by decide) ?_
          exact ih ((x5 + nI 1)) (u9) H locs ls hP hD hS (lv_sub hl [1, 2, 3, 4, 5, 0] rfl) h
  intro H locs hP hS
  refine lv_iconst (v := (nI 0)) hx hb dX5_change_0 (by decide) ?_
  refine lv_istore (lv' := [(5, .int (nI 0)), (0, .ref (a 0)), (1, .ref (a_forest 0)), (2, .int x2), (3, .int x3), (4, .int x4)]) hx hb dX5_change_1 hl (by decide) rfl (fun ls hl => ?_)
  exact L3 fuel ((nI 0)) (v_row) H locs ls hP hD hS (lv_sub hl [1, 2, 3, 4, 5, 0] rfl) h
def f5_putTogether_L13 (x2 : Int32) (x3 : Int32) (x4 : Int32) (x5 : Int32) (φ_forest : Fo) : Nat → Int32 → AI → Int32 → Int32 → Option (AI × Int32 × Int32)
  | 0, _, _, _, _ => none
  | n + 1, x6, v_row, v_conflictCount, v_lowest => (if x6 < 0 then (some (v_row, v_conflictCount, v_lowest)) else ((f1_amountIn (x2) (x6) (φ_forest)).bind fun r2 => ((f1_amountIn (x3) (x6) (φ_forest)).bind fun r4 => ((f1_amountIn (x4) (x6) (φ_forest)).bind fun r6 => (if r2 = r6 then (if inb x6 6 = true then (lt (upd v_row (x6).toNatClampNeg r4) fun u25 => (f5_putTogether_L13 x2 x3 x4 x5 φ_forest n ((x6 + (-1))) (u25) (v_conflictCount) (v_lowest))) else none) else (if r4 = r6 then (if inb x6 6 = true then (lt (upd v_row (x6).toNatClampNeg r2) fun u11 => (f5_putTogether_L13 x2 x3 x4 x5 φ_forest n ((x6 + (-1))) (u11) (v_conflictCount) (v_lowest))) else none) else (if r2 = r4 then (if inb x6 6 = true then (lt (upd v_row (x6).toNatClampNeg r2) fun u22 => (f5_putTogether_L13 x2 x3 x4 x5 φ_forest n ((x6 + (-1))) (u22) (v_conflictCount) (v_lowest))) else none) else ((f5_byRule (r2) (r4) (x5)).bind fun r14 => (if inb x6 6 = true then (lt (upd v_row (x6).toNatClampNeg r14) fun u17 => (lt (v_conflictCount + (nI 1)) fun u19 => (f5_putTogether_L13 x2 x3 x4 x5 φ_forest n ((x6 + (-1))) (u17) (u19) (x6)))) else none)))))))))
def f5_putTogether (x2 : Int32) (x3 : Int32) (x4 : Int32) (x5 : Int32) (v_row : AI) (v_conflictCount : Int32) (v_lowest : Int32) (φ_forest : Fo) : Option (AI × Int32 × Int32) := (f5_putTogether_L13 x2 x3 x4 x5 φ_forest fuel ((nI 5)) (v_row) ((nI 0)) ((-1 : Int32)))
set_option maxHeartbeats 4000000 in
set_option maxRecDepth 100000 in
theorem c5_putTogether (l : Launch) (E : PE) (a : Nat → Nat) (a_forest : Nat → Nat)  (x2 : Int32) (x3 : Int32) (x4 : Int32) (x5 : Int32) (v_row : AI) (v_conflictCount : Int32) (v_lowest : Int32) (φ_forest : Fo) (z_this_row : AI) (z_this_conflictCount : Int32) (z_this_lowest : Int32) (h : f5_putTogether x2 x3 x4 x5 v_row v_conflictCount v_lowest φ_forest = some (z_this_row, z_this_conflictCount, z_this_lowest)) : MW l yX5_putTogether cX5_putTogether 10 none { frames := 1, cells := 0, slots := 0, locals := 22 } E [.ref (a 0), .ref (a_forest 0), .int x2, .int x3, .int x4, .int x5] ([gX5 E a v_row v_conflictCount v_lowest, gX1 E a_forest φ_forest] : List va_W).flatten 0 0 none ([gX5 E a z_this_row z_this_conflictCount z_this_lowest, gX1 E a_forest φ_forest] : List va_W).flatten := by
  refine px_startW (by decide +kernel) (Nat.le_of_ble_eq_true rfl) ?_
  intro p e s m args below meth c R Q A ls hC hA0 hQ
  obtain ⟨hx, hb, hr, hml, hts, hown, hlocks, hR, hK, hN, hP, hD, hA, hl, hin⟩ := hC
  have hl : lv_has ls 10 [(0, .ref (a 0)), (1, .ref (a_forest 0)), (2, .int x2), (3, .int x3), (4, .int x4), (5, .int x5)] := hl
  suffices key : ∀ (H : Heap) (locs : List Loc), va_P E.1 vwCl ([gX5 E a v_row v_conflictCount v_lowest, gX1 E a_forest φ_forest] : List va_W).flatten H → va_S A s.heap H locs → W p l e R s m args below meth c H locs 0 0 Q (F0 m 0 ls []) from key s.heap [] hP va_S.rf
  unfold f5_putTogether at h
  have L13 : ∀ (n : Nat) (x6 : Int32) (v_row : AI) (v_conflictCount : Int32) (v_lowest : Int32) (H : Heap) (locs : List Loc) (ls : Array Slot), va_P E.1 vwCl ([gX5 E a v_row v_conflictCount v_lowest, gX1 E a_forest φ_forest] : List va_W).flatten H → va_D A ([gX5 E a v_row v_conflictCount v_lowest, gX1 E a_forest φ_forest] : List va_W).flatten → va_S A s.heap H locs → lv_has ls 10 [(0, .ref (a 0)), (1, .ref (a_forest 0)), (2, .int x2), (3, .int x3), (4, .int x4), (5, .int x5), (6, .int x6)] → f5_putTogether_L13 x2 x3 x4 x5 φ_forest n x6 v_row v_conflictCount v_lowest = some (z_this_row, z_this_conflictCount, z_this_lowest) → W p l e R s m args below meth c H locs 0 0 Q (F0 m 13 ls []) := by
    intro n
    induction n with
    | zero =>
      intro x6 v_row v_conflictCount v_lowest H locs ls hP hD hS hl h
      unfold f5_putTogether_L13 at h; cases h
    | succ n ih =>
      intro x6 v_row v_conflictCount v_lowest H locs ls hP hD hS hl h
      unfold f5_putTogether_L13 at h
      refine lv_iload hx hb dX5_putTogether_13 (lv_at hl 6 rfl) ?_
      refine lv_if_lt (tgt := 129) hx hb dX5_putTogether_15 (by decide) (fun c1 => ?_) (fun c1 => ?_)
      · rw [if_pos c1] at h
        cases h
        exact px_eWv hA0 hQ hP hD hS hx hb hr hlocks dX5_putTogether_129
      · rw [if_neg c1] at h
        refine lv_aload_n hx hb dX5_putTogether_18 rfl (lv_at hl 1 rfl) ?_
        refine lv_iload_n hx hb dX5_putTogether_19 rfl (lv_at hl 2 rfl) ?_
        refine lv_iload hx hb dX5_putTogether_20 (lv_at hl 6 rfl) ?_
        obtain ⟨r2, hr3, h⟩ := ob h
        refine px_Vp (As := [.int x2, .int x6]) (rest := []) (gs := ([gX5 E a v_row v_conflictCount v_lowest, gX1 E a_forest φ_forest] : List va_W)) (gc := ([gX1 E a_forest φ_forest] : List va_W)) ⟨hx, hb, hml, hown, hts⟩ (c1_amountIn l E a_forest  (x2) (x6) (φ_forest) r2 hr3) (cwV 2 hts (ws_v q314 q299 q300 q19 q301) rfl rfl rfl hdV_X1_amountIn (by rw [hR]; exact ⟨Nat.le_of_ble_eq_true rfl, Nat.le_of_ble_eq_true rfl⟩)) hK hN hP hD [1] rfl (by decide) 0 1 rfl rfl rfl rfl hl.1 rfl (Nat.le_of_ble_eq_true rfl) dX5_putTogether_22 (by rw [hR]; exact ⟨Nat.le_of_ble_eq_true rfl, Nat.le_of_ble_eq_true rfl⟩) ?_
        refine W.eq (g2 := F0 m 25 ls [.int r2]) rfl ?_
        refine lv_istore (lv' := [(7, .int r2), (0, .ref (a 0)), (1, .ref (a_forest 0)), (2, .int x2), (3, .int x3), (4, .int x4), (5, .int x5), (6, .int x6)]) hx hb dX5_putTogether_25 hl (by decide) rfl (fun ls hl => ?_)
        refine lv_aload_n hx hb dX5_putTogether_27 rfl (lv_at hl 2 rfl) ?_
        refine lv_iload_n hx hb dX5_putTogether_28 rfl (lv_at hl 4 rfl) ?_
        refine lv_iload hx hb dX5_putTogether_29 (lv_at hl 7 rfl) ?_
        obtain ⟨r4, hr5, h⟩ := ob h
        refine px_Vp (As := [.int x3, .int x6]) (rest := []) (gs := ([gX5 E a v_row v_conflictCount v_lowest, gX1 E a_forest φ_forest] : List va_W)) (gc := ([gX1 E a_forest φ_forest] : List va_W)) ⟨hx, hb, hml, hown, hts⟩ (c1_amountIn l E a_forest  (x3) (x6) (φ_forest) r4 hr5) (cwV 2 hts (ws_v q314 q299 q300 q19 q301) rfl rfl rfl hdV_X1_amountIn (by rw [hR]; exact ⟨Nat.le_of_ble_eq_true rfl, Nat.le_of_ble_eq_true rfl⟩)) hK hN hP hD [1] rfl (by decide) 0 1 rfl rfl rfl rfl hl.1 rfl (Nat.le_of_ble_eq_true rfl) dX5_putTogether_31 (by rw [hR]; exact ⟨Nat.le_of_ble_eq_true rfl, Nat.le_of_ble_eq_true rfl⟩) ?_
        refine W.eq (g2 := F0 m 34 ls [.int r4]) rfl ?_
        refine lv_istore (lv' := [(8, .int r4), (7, .int r2), (0, .ref (a 0)), (1, .ref (a_forest 0)), (2, .int x2), (3, .int x3), (4, .int x4), (5, .int x5), (6, .int x6)]) hx hb dX5_putTogether_34 hl (by decide) rfl (fun ls hl => ?_)
        refine lv_aload_n hx hb dX5_putTogether_36 rfl (lv_at hl 3 rfl) ?_
        refine lv_iload hx hb dX5_putTogether_37 (lv_at hl 6 rfl) ?_
        refine lv_iload hx hb dX5_putTogether_39 (lv_at hl 8 rfl) ?_
        obtain ⟨r6, hr7, h⟩ := ob h
        refine px_Vp (As := [.int x4, .int x6]) (rest := []) (gs := ([gX5 E a v_row v_conflictCount v_lowest, gX1 E a_forest φ_forest] : List va_W)) (gc := ([gX1 E a_forest φ_forest] : List va_W)) ⟨hx, hb, hml, hown, hts⟩ (c1_amountIn l E a_forest  (x4) (x6) (φ_forest) r6 hr7) (cwV 2 hts (ws_v q314 q299 q300 q19 q301) rfl rfl rfl hdV_X1_amountIn (by rw [hR]; exact ⟨Nat.le_of_ble_eq_true rfl, Nat.le_of_ble_eq_true rfl⟩)) hK hN hP hD [1] rfl (by decide) 0 1 rfl rfl rfl rfl hl.1 rfl (Nat.le_of_ble_eq_true rfl) dX5_putTogether_41 (by rw [hR]; exact ⟨Nat.le_of_ble_eq_true rfl, Nat.le_of_ble_eq_true rfl⟩) ?_
        refine W.eq (g2 := F0 m 44 ls [.int r6]) rfl ?_
        refine lv_istore (lv' := [(9, .int r6), (8, .int r4), (7, .int r2), (0, .ref (a 0)), (1, .ref (a_forest 0)), (2, .int x2), (3, .int x3), (4, .int x4), (5, .int x5), (6, .int x6)]) hx hb dX5_putTogether_44 hl (by decide) rfl (fun ls hl => ?_)
        refine lv_iload hx hb dX5_putTogether_46 (lv_at hl 2 rfl) ?_
        refine lv_iload hx hb dX5_putTogether_48 (lv_at hl 0 rfl) ?_
        refine lv_icmp_ne (tgt := 65) hx hb dX5_putTogether_50 (by decide) (fun c8 => ?_) (fun c8 => ?_)
        · rw [if_neg c8] at h
          refine lv_iload hx hb dX5_putTogether_65 (lv_at hl 1 rfl) ?_
          refine lv_iload hx hb dX5_putTogether_67 (lv_at hl 0 rfl) ?_
          refine lv_icmp_eq (tgt := 79) hx hb dX5_putTogether_69 (by decide) (fun c9 => ?_) (fun c9 => ?_)
          · rw [if_pos c9] at h
            refine lv_aload_n hx hb dX5_putTogether_79 rfl (lv_at hl 3 rfl) ?_
            refine va_get (D := E.1) (ci := 5) (v := .ref (a 1)) (C := RX5) (T := TX5) (N := 3) hx hb hts iX5 hown hK hP 0 rfl rfl 0 (by decide) (hts _ q129) (fun _ h9 => h9) rfl dX5_putTogether_80 ?_
            refine lv_iload hx hb dX5_putTogether_83 (lv_at hl 9 rfl) ?_
            refine lv_iload hx hb dX5_putTogether_85 (lv_at hl 2 rfl) ?_
            obtain ⟨i10, h⟩ := o_t h
            refine va_iast (f := v_row) hx hb hK hP hD hS 1 0 rfl rfl (inb_in i10) dX5_putTogether_87 (fun H locs hP hD hS => ?_)
            have hP : va_P E.1 vwCl ([gX5 E a (upd v_row (x6).toNatClampNeg r2) v_conflictCount v_lowest, gX1 E a_forest φ_forest] : List va_W).flatten H := hP
            have hD : va_D A ([gX5 E a (upd v_row (x6).toNatClampNeg r2) v_conflictCount v_lowest, gX1 E a_forest φ_forest] : List va_W).flatten := hD
            obtain ⟨u11, e12, h⟩ := lt_e h
            rw [← e12] at hP hD
            refine lv_goto (tgt := 123) hx hb dX5_putTogether_88 (by decide) ?_
            refine lv_iinc (v := (x6 + (-1))) (lv' := [(6, .int (x6 + (-1))), (9, .int r6), (8, .int r4), (7, .int r2), (0, .ref (a 0)), (1, .ref (a_forest 0)), (2, .int x2), (3, .int x3), (4, .int x4), (5, .int x5)]) hx hb dX5_putTogether_123 hl (k := 9) rfl rfl (by decide) rfl (fun ls hl => ?_)
            refine lv_goto (tgt := 13) hx hb dX5_putTogether_126 (by decide) ?_
            exact ih ((x6 + (-1))) (u11) (v_conflictCount) (v_lowest) H locs ls hP hD hS (lv_sub hl [4, 5, 6, 7, 8, 9, 0] rfl) h
          · rw [if_neg c9] at h
            refine lv_iload hx hb dX5_putTogether_72 (lv_at hl 2 rfl) ?_
            refine lv_iload hx hb dX5_putTogether_74 (lv_at hl 1 rfl) ?_
            refine lv_icmp_ne (tgt := 91) hx hb dX5_putTogether_76 (by decide) (fun c13 => ?_) (fun c13 => ?_)
            · rw [if_neg c13] at h
              refine lv_aload_n hx hb dX5_putTogether_91 rfl (lv_at hl 3 rfl) ?_
              refine va_get (D := E.1) (ci := 5) (v := .ref (a 1)) (C := RX5) (T := TX5) (N := 3) hx hb hts iX5 hown hK hP 0 rfl rfl 0 (by decide) (hts _ q129) (fun _ h9 => h9) rfl dX5_putTogether_92 ?_
              refine lv_iload hx hb dX5_putTogether_95 (lv_at hl 9 rfl) ?_
              refine lv_iload hx hb dX5_putTogether_97 (lv_at hl 2 rfl) ?_
              refine lv_iload hx hb dX5_putTogether_99 (lv_at hl 1 rfl) ?_
              refine lv_iload hx hb dX5_putTogether_101 (lv_at hl 8 rfl) ?_
              obtain ⟨r14, hr15, h⟩ := ob h
              refine px_Sp (As := [.int r2, .int r4, .int x5]) (rest := [.int x6, .ref (a 1)]) (gs := ([gX5 E a v_row v_conflictCount v_lowest, gX1 E a_forest φ_forest] : List va_W)) (gc := ([] : List va_W)) ⟨hx, hb, hml, hown, hts⟩ (c5_byRule l E   (r2) (r4) (x5)  r14 hr15) (va_cwS 3 hts (ws_s q578 q579 q22 q580) rfl rfl rfl hdS_X5_byRule (by rw [hR]; exact ⟨Nat.le_of_ble_eq_true rfl, Nat.le_of_ble_eq_true rfl⟩)) hK hN hP hD [] rfl (by decide) rfl hl.1 rfl (Nat.le_of_ble_eq_true rfl) dX5_putTogether_103 (by rw [hR]; exact ⟨Nat.le_of_ble_eq_true rfl, Nat.le_of_ble_eq_true rfl⟩) ?_
              refine W.eq (g2 := F0 m 106 ls [.int r14, .int x6, .ref (a 1)]) rfl ?_
              obtain ⟨i16, h⟩ := o_t h
              refine va_iast (f := v_row) hx hb hK hP hD hS 1 0 rfl rfl (inb_in i16) dX5_putTogether_106 (fun H locs hP hD hS => ?_)
              have hP : va_P E.1 vwCl ([gX5 E a (upd v_row (x6).toNatClampNeg r14) v_conflictCount v_lowest, gX1 E a_forest φ_forest] : List va_W).flatten H := hP
              have hD : va_D A ([gX5 E a (upd v_row (x6).toNatClampNeg r14) v_conflictCount v_lowest, gX1 E a_forest φ_forest] : List va_W).flatten := hD
              obtain ⟨u17, e18, h⟩ := lt_e h
              rw [← e18] at hP hD
              refine lv_aload_n hx hb dX5_putTogether_107 rfl (lv_at hl 3 rfl) ?_
              refine lv_dup hx hb dX5_putTogether_108 rfl ?_
              refine va_get (D := E.1) (ci := 5) (v := .int v_conflictCount) (C := RX5) (T := TX5) (N := 3) hx hb hts iX5 hown hK hP 0 rfl rfl 1 (by decide) (hts _ q130) (fun _ h9 => h9) rfl dX5_putTogether_109 ?_
              refine lv_iconst (v := (nI 1)) hx hb dX5_putTogether_112 (by decide) ?_
              refine lv_iadd hx hb dX5_putTogether_113 ?_
              refine va_put (D := E.1) (ci := 5) (v := .int (v_conflictCount + (nI 1))) (ty := .int) (C := RX5) (T := TX5) (N := 3) hx hb hts iX5 tyX5 tyX5_ok nmX5 hown hK hP hD hS 0 rfl rfl 1 (by decide) (hts _ q130) (fun _ h9 => h9) rfl (tyX5_ok 1 (by decide)) rfl rfl (Nat.le_of_ble_eq_true rfl) dX5_putTogether_114 (fun H locs hP hD hS => ?_)
              have hP : va_P E.1 vwCl ([gX5 E a u17 (v_conflictCount + (nI 1)) v_lowest, gX1 E a_forest φ_forest] : List va_W).flatten H := hP
              have hD : va_D A ([gX5 E a u17 (v_conflictCount + (nI 1)) v_lowest, gX1 E a_forest φ_forest] : List va_W).flatten := hD
              obtain ⟨u19, e20, h⟩ := lt_e h
              rw [← e20] at hP hD
              refine lv_aload_n hx hb dX5_putTogether_117 rfl (lv_at hl 3 rfl) ?_
              refine lv_iload hx hb dX5_putTogether_118 (lv_at hl 9 rfl) ?_
              refine va_put (D := E.1) (ci := 5) (v := .int x6) (ty := .int) (C := RX5) (T := TX5) (N := 3) hx hb hts iX5 tyX5 tyX5_ok nmX5 hown hK hP hD hS 0 rfl rfl 2 (by decide) (hts _ q131) (fun _ h9 => h9) rfl (tyX5_ok 2 (by decide)) rfl rfl (Nat.le_of_ble_eq_true rfl) dX5_putTogether_120 (fun H locs hP hD hS => ?_)
              have hP : va_P E.1 vwCl ([gX5 E a u17 u19 x6, gX1 E a_forest φ_forest] : List va_W).flatten H := hP
              have hD : va_D A ([gX5 E a u17 u19 x6, gX1 E a_forest φ_forest] : List va_W).flatten := hD
              refine lv_iinc (v := (x6 + (-1))) (lv' := [(6, .int (x6 + (-1))), (9, .int r6), (8, .int r4), (7, .int r2), (0, .ref (a 0)), (1, .ref (a_forest 0)), (2, .int x2), (3, .int x3), (4, .int x4), (5, .int x5)]) hx hb dX5_putTogether_123 hl (k := 9) rfl rfl (by decide) rfl (fun ls hl => ?_)
              refine lv_goto (tgt := 13) hx hb dX5_putTogether_126 (by decide) ?_
              exact ih ((x6 + (-1))) (u17) (u19) (x6) H locs ls hP hD hS (lv_sub hl [4, 5, 6, 7, 8, 9, 0] rfl) h
            · rw [if_pos c13] at h
              refine lv_aload_n hx hb dX5_putTogether_79 rfl (lv_at hl 3 rfl) ?_
              refine va_get (D := E.1) (ci := 5) (v := .ref (a 1)) (C := RX5) (T := TX5) (N := 3) hx hb hts iX5 hown hK hP 0 rfl rfl 0 (by decide) (hts _ q129) (fun _ h9 => h9) rfl dX5_putTogether_80 ?_
              refine lv_iload hx hb dX5_putTogether_83 (lv_at hl 9 rfl) ?_
              refine lv_iload hx hb dX5_putTogether_85 (lv_at hl 2 rfl) ?_
              obtain ⟨i21, h⟩ := o_t h
              refine va_iast (f := v_row) hx hb hK hP hD hS 1 0 rfl rfl (inb_in i21) dX5_putTogether_87 (fun H locs hP hD hS => ?_)
              have hP : va_P E.1 vwCl ([gX5 E a (upd v_row (x6).toNatClampNeg r2) v_conflictCount v_lowest, gX1 E a_forest φ_forest] : List va_W).flatten H := hP
              have hD : va_D A ([gX5 E a (upd v_row (x6).toNatClampNeg r2) v_conflictCount v_lowest, gX1 E a_forest φ_forest] : List va_W).flatten := hD
              obtain ⟨u22, e23, h⟩ := lt_e h
              rw [← e23] at hP hD
              refine lv_goto (tgt := 123) hx hb dX5_putTogether_88 (by decide) ?_
              refine lv_iinc (v := (x6 + (-1))) (lv' := [(6, .int (x6 + (-1))), (9, .int r6), (8, .int r4), (7, .int r2), (0, .ref (a 0)), (1, .ref (a_forest 0)), (2, .int x2), (3, .int x3), (4, .int x4), (5, .int x5)]) hx hb dX5_putTogether_123 hl (k := 9) rfl rfl (by decide) rfl (fun ls hl => ?_)
              refine lv_goto (tgt := 13) hx hb dX5_putTogether_126 (by decide) ?_
              exact ih ((x6 + (-1))) (u22) (v_conflictCount) (v_lowest) H locs ls hP hD hS (lv_sub hl [4, 5, 6, 7, 8, 9, 0] rfl) h
        · rw [if_pos c8] at h
          refine lv_aload_n hx hb dX5_putTogether_53 rfl (lv_at hl 3 rfl) ?_
          refine va_get (D := E.1) (ci := 5) (v := .ref (a 1)) (C := RX5) (T := TX5) (N := 3) hx hb hts iX5 hown hK hP 0 rfl rfl 0 (by decide) (hts _ q129) (fun _ h9 => h9) rfl dX5_putTogether_54 ?_
          refine lv_iload hx hb dX5_putTogether_57 (lv_at hl 9 rfl) ?_
          refine lv_iload hx hb dX5_putTogether_59 (lv_at hl 1 rfl) ?_
          obtain ⟨i24, h⟩ := o_t h
          refine va_iast (f := v_row) hx hb hK hP hD hS 1 0 rfl rfl (inb_in i24) dX5_putTogether_61 (fun H locs hP hD hS => ?_)
          have hP : va_P E.1 vwCl ([gX5 E a (upd v_row (x6).toNatClampNeg r4) v_conflictCount v_lowest, gX1 E a_forest φ_forest] : List va_W).flatten H := hP
          have hD : va_D A ([gX5 E a (upd v_row (x6).toNatClampNeg r4) v_conflictCount v_lowest, gX1 E a_forest φ_forest] : List va_W).flatten := hD
          obtain ⟨u25, e26, h⟩ := lt_e h
          rw [← e26] at hP hD
          refine lv_goto (tgt := 123) hx hb dX5_putTogether_62 (by decide) ?_
          refine lv_iinc (v := (x6 + (-1))) (lv' := [(6, .int (x6 + (-1))), (9, .int r6), (8, .int r4), (7, .int r2), (0, .ref (a 0)), (1, .ref (a_forest 0)), (2, .int x2), (3, .int x3), (4, .int x4), (5, .int x5)]) hx hb dX5_putTogether_123 hl (k := 9) rfl rfl (by decide) rfl (fun ls hl => ?_)
          refine lv_goto (tgt := 13) hx hb dX5_putTogether_126 (by decide) ?_
          exact ih ((x6 + (-1))) (u25) (v_conflictCount) (v_lowest) H locs ls hP hD hS (lv_sub hl [4, 5, 6, 7, 8, 9, 0] rfl) h
  intro H locs hP hS
  refine lv_aload_n hx hb dX5_putTogether_0 rfl (lv_at hl 0 rfl) ?_
  refine lv_iconst (v := (nI 0)) hx hb dX5_putTogether_1 (by decide) ?_
  refine va_put (D := E.1) (ci := 5) (v := .int (nI 0)) (ty := .int) (C := RX5) (T := TX5) (N := 3) hx hb hts iX5 tyX5 tyX5_ok nmX5 hown hK hP hD hS 0 rfl rfl 1 (by decide) (hts _ q130) (fun _ h9 => h9) rfl (tyX5_ok 1 (by decide)) rfl rfl (Nat.le_of_ble_eq_true rfl) dX5_putTogether_2 (fun H locs hP hD hS => ?_)
  have hP : va_P E.1 vwCl ([gX5 E a v_row (nI 0) v_lowest, gX1 E a_forest φ_forest] : List va_W).flatten H := hP
  have hD : va_D A ([gX5 E a v_row (nI 0) v_lowest, gX1 E a_forest φ_forest] : List va_W).flatten := hD
  refine lv_aload_n hx hb dX5_putTogether_5 rfl (lv_at hl 0 rfl) ?_
  refine lv_iconst (v := (-1 : Int32)) hx hb dX5_putTogether_6 (by decide) ?_
  refine va_put (D := E.1) (ci := 5) (v := .int (-1 : Int32)) (ty := .int) (C := RX5) (T := TX5) (N := 3) hx hb hts iX5 tyX5 tyX5_ok nmX5 hown hK hP hD hS 0 rfl rfl 2 (by decide) (hts _ q131) (fun _ h9 => h9) rfl (tyX5_ok 2 (by decide)) rfl rfl (Nat.le_of_ble_eq_true rfl) dX5_putTogether_7 (fun H locs hP hD hS => ?_)
  have hP : va_P E.1 vwCl ([gX5 E a v_row (nI 0) (-1 : Int32), gX1 E a_forest φ_forest] : List va_W).flatten H := hP
  have hD : va_D A ([gX5 E a v_row (nI 0) (-1 : Int32), gX1 E a_forest φ_forest] : List va_W).flatten := hD
  refine lv_iconst (v := (nI 5)) hx hb dX5_putTogether_10 (by decide) ?_
  refine lv_istore (lv' := [(6, .int (nI 5)), (0, .ref (a 0)), (1, .ref (a_forest 0)), (2, .int x2), (3, .int x3), (4, .int x4), (5, .int x5)]) hx hb dX5_putTogether_11 hl (by decide) rfl (fun ls hl => ?_)
  exact L13 fuel ((nI 5)) (v_row) ((nI 0)) ((-1 : Int32)) H locs ls hP hD hS (lv_sub hl [1, 2, 3, 4, 5, 6, 0] rfl) h
def f5_isRowOf_L2 (x2 : Int32) (v_row : AI) (φ_forest : Fo) : Nat → Int32 → Option (Bool)
  | 0, _ => none
  | n + 1, x3 => (if (nI 6) ≤ x3 then (some true) else (if inb x3 6 = true then ((f1_amountIn (x2) (x3) (φ_forest)).bind fun r3 => (if (v_row (x3).toNatClampNeg) = r3 then (f5_isRowOf_L2 x2 v_row φ_forest n ((x3 + nI 1))) else (some false))) else none))
def f5_isRowOf (x2 : Int32) (v_row : AI) (φ_forest : Fo) : Option (Bool) := (f5_isRowOf_L2 x2 v_row φ_forest fuel ((nI 0)))
set_option maxHeartbeats 4000000 in
set_option maxRecDepth 100000 in
theorem c5_isRowOf (l : Launch) (E : PE) (a : Nat → Nat) (a_forest : Nat → Nat)  (x2 : Int32) (v_row : AI) (v_conflictCount : Int32) (v_lowest : Int32) (φ_forest : Fo) (r : Bool) (h : f5_isRowOf x2 v_row φ_forest = some r) : MP l yX5_isRowOf cX5_isRowOf 4 (some .boolean) { frames := 1, cells := 0, slots := 0, locals := 22 } E [.ref (a 0), .ref (a_forest 0), .int x2] ([gX5 E a v_row v_conflictCount v_lowest, gX1 E a_forest φ_forest] : List va_W).flatten (some (.int (b2i r))) := by
  refine px_startP (by decide +kernel) (Nat.le_of_ble_eq_true rfl) ?_
  intro p e s m args below meth c R Q A ls hC hQ
  obtain ⟨hx, hb, hr, hml, hts, hown, hlocks, hR, hK, hN, hP, hD, hA, hl, hin⟩ := hC
  have hl : lv_has ls 4 [(0, .ref (a 0)), (1, .ref (a_forest 0)), (2, .int x2)] := hl
  unfold f5_isRowOf at h
  have L2 : ∀ (n : Nat) (x3 : Int32) (ls : Array Slot), lv_has ls 4 [(0, .ref (a 0)), (1, .ref (a_forest 0)), (2, .int x2), (3, .int x3)] → f5_isRowOf_L2 x2 v_row φ_forest n x3 = some r → W p l e R s m args below meth c s.heap [] 0 0 Q (F0 m 2 ls []) := by
    intro n
    induction n with
    | zero =>
      intro x3 ls hl h
      unfold f5_isRowOf_L2 at h; cases h
    | succ n ih =>
      intro x3 ls hl h
      unfold f5_isRowOf_L2 at h
      refine lv_iload_n hx hb dX5_isRowOf_2 rfl (lv_at hl 3 rfl) ?_
      refine lv_bipush (v := (nI 6)) hx hb dX5_isRowOf_3 (by decide) ?_
      refine lv_icmp_ge (tgt := 31) hx hb dX5_isRowOf_5 (by decide) (fun c1 => ?_) (fun c1 => ?_)
      · rw [if_pos c1] at h
        refine lv_iconst (v := (nI 1)) hx hb dX5_isRowOf_31 (by decide) ?_
        cases h
        refine W.eq (g2 := F0 m 32 ls [.int (b2i true)]) rfl ?_
        exact px_ePz (b2i_n _) hQ hx hb hr hlocks dX5_isRowOf_32
      · rw [if_neg c1] at h
        refine lv_aload_n hx hb dX5_isRowOf_8 rfl (lv_at hl 0 rfl) ?_
        refine va_get (D := E.1) (ci := 5) (v := .ref (a 1)) (C := RX5) (T := TX5) (N := 3) hx hb hts iX5 hown hK hP 0 rfl rfl 0 (by decide) (hts _ q129) (fun _ h9 => h9) rfl dX5_isRowOf_9 ?_
        refine lv_iload_n hx hb dX5_isRowOf_12 rfl (lv_at hl 3 rfl) ?_
        obtain ⟨i2, h⟩ := o_t h
        refine va_iald (f := v_row) hx hb hK hP 1 0 rfl rfl (inb_in i2) dX5_isRowOf_13 ?_
        refine lv_aload_n hx hb dX5_isRowOf_14 rfl (lv_at hl 1 rfl) ?_
        refine lv_iload_n hx hb dX5_isRowOf_15 rfl (lv_at hl 2 rfl) ?_
        refine lv_iload_n hx hb dX5_isRowOf_16 rfl (lv_at hl 3 rfl) ?_
        obtain ⟨r3, hr4, h⟩ := ob h
        refine px_Vp (As := [.int x2, .int x3]) (rest := [.int (v_row (x3).toNatClampNeg)]) (gs := ([gX5 E a v_row v_conflictCount v_lowest, gX1 E a_forest φ_forest] : List va_W)) (gc := ([gX1 E a_forest φ_forest] : List va_W)) ⟨hx, hb, hml, hown, hts⟩ (c1_amountIn l E a_forest  (x2) (x3) (φ_forest) r3 hr4) (cwV 2 hts (ws_v q314 q299 q300 q19 q301) rfl rfl rfl hdV_X1_amountIn (by rw [hR]; exact ⟨Nat.le_of_ble_eq_true rfl, Nat.le_of_ble_eq_true rfl⟩)) hK hN hP hD [1] rfl (by decide) 0 1 rfl rfl rfl rfl hl.1 rfl (Nat.le_of_ble_eq_true rfl) dX5_isRowOf_17 (by rw [hR]; exact ⟨Nat.le_of_ble_eq_true rfl, Nat.le_of_ble_eq_true rfl⟩) ?_
        refine W.eq (g2 := F0 m 20 ls [.int r3, .int (v_row (x3).toNatClampNeg)]) rfl ?_
        refine lv_icmp_eq (tgt := 25) hx hb dX5_isRowOf_20 (by decide) (fun c5 => ?_) (fun c5 => ?_)
        · rw [if_pos c5] at h
          refine lv_iinc (v := (x3 + nI 1)) (lv' := [(3, .int (x3 + nI 1)), (0, .ref (a 0)), (1, .ref (a_forest 0)), (2, .int x2)]) hx hb dX5_isRowOf_25 hl (k := 3) rfl rfl (by decide) rfl (fun ls hl => ?_)
          refine lv_goto (tgt := 2) hx hb dX5_isRowOf_28 (by decide) ?_
          exact ih ((x3 + nI 1)) ls (lv_sub hl [1, 2, 3, 0] rfl) h
        · rw [if_neg c5] at h
          refine lv_iconst (v := (nI 0)) hx hb dX5_isRowOf_23 (by decide) ?_
          cases h
          refine W.eq (g2 := F0 m 24 ls [.int (b2i false)]) rfl ?_
          exact px_ePz (b2i_n _) hQ hx hb hr hlocks dX5_isRowOf_24
  refine lv_iconst (v := (nI 0)) hx hb dX5_isRowOf_0 (by decide) ?_
  refine lv_istore_n (lv' := [(3, .int (nI 0)), (0, .ref (a 0)), (1, .ref (a_forest 0)), (2, .int x2)]) hx hb dX5_isRowOf_1 rfl hl (by decide) rfl (fun ls hl => ?_)
  exact L2 fuel ((nI 0)) ls (lv_sub hl [1, 2, 3, 0] rfl) h
