def f0_latestReason  (v_reason : Int32) : Option (Int32) := (some v_reason)
set_option maxHeartbeats 4000000 in
set_option maxRecDepth 100000 in
theorem c0_latestReason (l : Launch) (E : PE) (a : Nat → Nat) (r_this_forest : Nat) (r_this_mix : Nat)  (v_reason : Int32) (v_detail : Int32) (r : Int32) (h : f0_latestReason v_reason = some r) : MP l yX0_latestReason cX0_latestReason 1 (some .int) { frames := 0, cells := 0, slots := 0, locals := 0 } E [.ref (a 0)] ([gX0 E a r_this_forest r_this_mix v_reason v_detail] : List va_W).flatten (some (.int r)) := by
  refine px_startP (by decide +kernel) (Nat.le_of_ble_eq_true rfl) ?_
  intro p e s m args below meth c R Q A ls hC hQ
  obtain ⟨hx, hb, hr, hml, hts, hown, hlocks, hR, hK, hN, hP, hD, hA, hl, hin⟩ := hC
  have hl : lv_has ls 1 [(0, .ref (a 0))] := hl
  unfold f0_latestReason at h
  refine lv_aload_n hx hb dX0_latestReason_0 rfl (lv_at hl 0 rfl) ?_
  refine va_get (D := E.1) (ci := 0) (v := .int v_reason) (C := RX0) (T := TX0) (N := 4) hx hb hts iX0 hown hK hP 0 rfl rfl 2 (by decide) (hts _ q141) (fun _ h9 => h9) rfl dX0_latestReason_1 ?_
  cases h
  exact px_ePi hQ hx hb hr hlocks dX0_latestReason_4
def f0_latestDetail  (v_detail : Int32) : Option (Int32) := (some v_detail)
set_option maxHeartbeats 4000000 in
set_option maxRecDepth 100000 in
theorem c0_latestDetail (l : Launch) (E : PE) (a : Nat → Nat) (r_this_forest : Nat) (r_this_mix : Nat)  (v_reason : Int32) (v_detail : Int32) (r : Int32) (h : f0_latestDetail v_detail = some r) : MP l yX0_latestDetail cX0_latestDetail 1 (some .int) { frames := 0, cells := 0, slots := 0, locals := 0 } E [.ref (a 0)] ([gX0 E a r_this_forest r_this_mix v_reason v_detail] : List va_W).flatten (some (.int r)) := by
  refine px_startP (by decide +kernel) (Nat.le_of_ble_eq_true rfl) ?_
  intro p e s m args below meth c R Q A ls hC hQ
  obtain ⟨hx, hb, hr, hml, hts, hown, hlocks, hR, hK, hN, hP, hD, hA, hl, hin⟩ := hC
  have hl : lv_has ls 1 [(0, .ref (a 0))] := hl
  unfold f0_latestDetail at h
  refine lv_aload_n hx hb dX0_latestDetail_0 rfl (lv_at hl 0 rfl) ?_
  refine va_get (D := E.1) (ci := 0) (v := .int v_detail) (C := RX0) (T := TX0) (N := 4) hx hb hts iX0 hown hK hP 0 rfl rfl 3 (by decide) (hts _ q142) (fun _ h9 => h9) rfl dX0_latestDetail_1 ?_
  cases h
  exact px_ePi hQ hx hb hr hlocks dX0_latestDetail_4
def f0_refuse (x1 : Int32) (x2 : Int32) (v_reason : Int32) (v_detail : Int32) : Option (Int32 × Int32 × Int32) := (some ((-3 : Int32), x1, x2))
set_option maxHeartbeats 4000000 in
set_option maxRecDepth 100000 in
theorem c0_refuse (l : Launch) (E : PE) (a : Nat → Nat) (r_this_forest : Nat) (r_this_mix : Nat) (x1 : Int32) (x2 : Int32) (v_reason : Int32) (v_detail : Int32) (r : Int32) (z_this_reason : Int32) (z_this_detail : Int32) (h : f0_refuse x1 x2 v_reason v_detail = some (r, z_this_reason, z_this_detail)) : MW l yX0_refuse cX0_refuse 3 (some .int) { frames := 0, cells := 0, slots := 0, locals := 0 } E [.ref (a 0), .int x1, .int x2] ([gX0 E a r_this_forest r_this_mix v_reason v_detail] : List va_W).flatten 0 0 (some (.int r)) ([gX0 E a r_this_forest r_this_mix z_this_reason z_this_detail] : List va_W).flatten := by
  refine px_startW (by decide +kernel) (Nat.le_of_ble_eq_true rfl) ?_
  intro p e s m args below meth c R Q A ls hC hA0 hQ
  obtain ⟨hx, hb, hr, hml, hts, hown, hlocks, hR, hK, hN, hP, hD, hA, hl, hin⟩ := hC
  have hl : lv_has ls 3 [(0, .ref (a 0)), (1, .int x1), (2, .int x2)] := hl
  suffices key : ∀ (H : Heap) (locs : List Loc), va_P E.1 vwCl ([gX0 E a r_this_forest r_this_mix v_reason v_detail] : List va_W).flatten H → va_S A s.heap H locs → W p l e R s m args below meth c H locs 0 0 Q (F0 m 0 ls []) from key s.heap [] hP va_S.rf
  unfold f0_refuse at h
  intro H locs hP hS
  refine lv_aload_n hx hb dX0_refuse_0 rfl (lv_at hl 0 rfl) ?_
  refine lv_iload_n hx hb dX0_refuse_1 rfl (lv_at hl 1 rfl) ?_
  refine va_put (D := E.1) (ci := 0) (v := .int x1) (ty := .int) (C := RX0) (T := TX0) (N := 4) hx hb hts iX0 tyX0 tyX0_ok nmX0 hown hK hP hD hS 0 rfl rfl 2 (by decide) (hts _ q141) (fun _ h9 => h9) rfl (tyX0_ok 2 (by decide)) rfl rfl (Nat.le_of_ble_eq_true rfl) dX0_refuse_2 (fun H locs hP hD hS => ?_)
  have hP : va_P E.1 vwCl ([gX0 E a r_this_forest r_this_mix x1 v_detail] : List va_W).flatten H := hP
  have hD : va_D A ([gX0 E a r_this_forest r_this_mix x1 v_detail] : List va_W).flatten := hD
  refine lv_aload_n hx hb dX0_refuse_5 rfl (lv_at hl 0 rfl) ?_
  refine lv_iload_n hx hb dX0_refuse_6 rfl (lv_at hl 2 rfl) ?_
  refine va_put (D := E.1) (ci := 0) (v := .int x2) (ty := .int) (C := RX0) (T := TX0) (N := 4) hx hb hts iX0 tyX0 tyX0_ok nmX0 hown hK hP hD hS 0 rfl rfl 3 (by decide) (hts _ q142) (fun _ h9 => h9) rfl (tyX0_ok 3 (by decide)) rfl rfl (Nat.le_of_ble_eq_true rfl) dX0_refuse_7 (fun H locs hP hD hS => ?_)
  have hP : va_P E.1 vwCl ([gX0 E a r_this_forest r_this_mix x1 x2] : List va_W).flatten H := hP
  have hD : va_D A ([gX0 E a r_this_forest r_this_mix x1 x2] : List va_W).flatten := hD
  refine lv_bipush (v := (-3 : Int32)) hx hb dX0_refuse_10 (by decide) ?_
  cases h
  exact px_eWi hA0 hQ hP hD hS hx hb hr hlocks dX0_refuse_12
def f0_isStopped (x1 : Int32) (mix_conflictCount : Int32) : Option (Bool) := (if x1 = 0 then ((f5_conflictsFound (mix_conflictCount)).bind fun r2 => (if r2 ≤ 0 then (some false) else (some true))) else (some false))
set_option maxHeartbeats 4000000 in
set_option maxRecDepth 100000 in
theorem c0_isStopped (l : Launch) (E : PE) (a : Nat → Nat) (a_mix : Nat → Nat) (r_this_forest : Nat) (x1 : Int32) (v_reason : Int32) (v_detail : Int32) (mix_row : AI) (mix_conflictCount : Int32) (mix_lowest : Int32) (r : Bool) (h : f0_isStopped x1 mix_conflictCount = some r) : MP l yX0_isStopped cX0_isStopped 2 (some .boolean) { frames := 1, cells := 0, slots := 0, locals := 20 } E [.ref (a 0), .int x1] ([gX0 E a r_this_forest (a_mix 0) v_reason v_detail, gX5 E a_mix mix_row mix_conflictCount mix_lowest] : List va_W).flatten (some (.int (b2i r))) := by
  refine px_startP (by decide +kernel) (Nat.le_of_ble_eq_true rfl) ?_
  intro p e s m args below meth c R Q A ls hC hQ
  obtain ⟨hx, hb, hr, hml, hts, hown, hlocks, hR, hK, hN, hP, hD, hA, hl, hin⟩ := hC
  have hl : lv_has ls 2 [(0, .ref (a 0)), (1, .int x1)] := hl
  unfold f0_isStopped at h
  refine lv_iload_n hx hb dX0_isStopped_0 rfl (lv_at hl 1 rfl) ?_
  refine lv_if_ne (tgt := 18) hx hb dX0_isStopped_1 (by decide) (fun c1 => ?_) (fun c1 => ?_)
  · rw [if_neg c1] at h
    refine lv_iconst (v := (nI 0)) hx hb dX0_isStopped_18 (by decide) ?_
    cases h
    refine W.eq (g2 := F0 m 19 ls [.int (b2i false)]) rfl ?_
    exact px_ePz (b2i_n _) hQ hx hb hr hlocks dX0_isStopped_19
  · rw [if_pos c1] at h
    refine lv_aload_n hx hb dX0_isStopped_4 rfl (lv_at hl 0 rfl) ?_
    refine va_get (D := E.1) (ci := 0) (v := .ref (a_mix 0)) (C := RX0) (T := TX0) (N := 4) hx hb hts iX0 hown hK hP 0 rfl rfl 1 (by decide) (hts _ q140) (fun _ h9 => h9) rfl dX0_isStopped_5 ?_
    obtain ⟨r2, hr3, h⟩ := ob h
    refine px_Vp (As := []) (rest := []) (gs := ([gX0 E a r_this_forest (a_mix 0) v_reason v_detail, gX5 E a_mix mix_row mix_conflictCount mix_lowest] : List va_W)) (gc := ([gX5 E a_mix mix_row mix_conflictCount mix_lowest] : List va_W)) ⟨hx, hb, hml, hown, hts⟩ (c5_conflictsFound l E a_mix   (mix_row) (mix_conflictCount) (mix_lowest) r2 hr3) (cwV 0 hts (ws_v q585 q586 q587 q22 q588) rfl rfl rfl hdV_X5_conflictsFound (by rw [hR]; exact ⟨Nat.le_of_ble_eq_true rfl, Nat.le_of_ble_eq_true rfl⟩)) hK hN hP hD [1] rfl (by decide) 0 5 rfl rfl rfl rfl hl.1 rfl (Nat.le_of_ble_eq_true rfl) dX0_isStopped_8 (by rw [hR]; exact ⟨Nat.le_of_ble_eq_true rfl, Nat.le_of_ble_eq_true rfl⟩) ?_
    refine W.eq (g2 := F0 m 11 ls [.int r2]) rfl ?_
    refine lv_if_le (tgt := 18) hx hb dX0_isStopped_11 (by decide) (fun c4 => ?_) (fun c4 => ?_)
    · rw [if_pos c4] at h
      refine lv_iconst (v := (nI 0)) hx hb dX0_isStopped_18 (by decide) ?_
      cases h
      refine W.eq (g2 := F0 m 19 ls [.int (b2i false)]) rfl ?_
      exact px_ePz (b2i_n _) hQ hx hb hr hlocks dX0_isStopped_19
    · rw [if_neg c4] at h
      refine lv_iconst (v := (nI 1)) hx hb dX0_isStopped_14 (by decide) ?_
      refine lv_goto (tgt := 19) hx hb dX0_isStopped_15 (by decide) ?_
      cases h
      refine W.eq (g2 := F0 m 19 ls [.int (b2i true)]) rfl ?_
      exact px_ePz (b2i_n _) hQ hx hb hr hlocks dX0_isStopped_19
def f0_pickChange (x1 : Int32) (x2 : Int32) (x3 : Int32) (x4 : Int32) (v_reason : Int32) (v_detail : Int32) (mix_row : AI) (mix_conflictCount : Int32) (mix_lowest : Int32) (φ_forest : Fo) : Option (Int32 × Int32 × Int32 × AI × Int32 × Int32 × Fo) := ((f1_tipOf (x1) (φ_forest)).bind fun r1 => ((f5_putTogether (r1) (x2) (x3) (x4) (mix_row) (mix_conflictCount) (mix_lowest) (φ_forest)).bind fun (w3, w4, w5) => ((f0_isStopped (x4) (w4)).bind fun r7 => (if (b2i r7) = 0 then ((f5_isRowOf (r1) (w3) (φ_forest)).bind fun r10 => (if (b2i r10) = 0 then ((f1_isFull (φ_forest)).bind fun r13 => (if (b2i r13) = 0 then ((f5_amounts ).bind fun _u => ((f1_addCommit (x1) ((nI 2)) ((-1 : Int32)) (φ_forest) (w3)).bind fun (r17, w18) => (some (r17, v_reason, v_detail, w3, w4, w5, w18)))) else ((f0_refuse ((nI 1)) ((nI 24)) (v_reason) (v_detail)).bind fun (r20, w21, w22) => (some (r20, w21, w22, w3, w4, w5, φ_forest))))) else ((f0_refuse ((nI 7)) (r1) (v_reason) (v_detail)).bind fun (r24, w25, w26) => (some (r24, w25, w26, w3, w4, w5, φ_forest))))) else ((f5_lowestConflict (w5)).bind fun r28 => ((f0_refuse ((nI 5)) (r28) (v_reason) (v_detail)).bind fun (r30, w31, w32) => (some (r30, w31, w32, w3, w4, w5, φ_forest))))))))
set_option maxHeartbeats 4000000 in
set_option maxRecDepth 100000 in
theorem c0_pickChange (l : Launch) (E : PE) (a : Nat → Nat) (a_mix : Nat → Nat) (a_forest : Nat → Nat)  (x1 : Int32) (x2 : Int32) (x3 : Int32) (x4 : Int32) (v_reason : Int32) (v_detail : Int32) (mix_row : AI) (mix_conflictCount : Int32) (mix_lowest : Int32) (φ_forest : Fo) (r : Int32) (z_this_reason : Int32) (z_this_detail : Int32) (z_mix_row : AI) (z_mix_conflictCount : Int32) (z_mix_lowest : Int32) (z_forest_φ : Fo) (h : f0_pickChange x1 x2 x3 x4 v_reason v_detail mix_row mix_conflictCount mix_lowest φ_forest = some (r, z_this_reason, z_this_detail, z_mix_row, z_mix_conflictCount, z_mix_lowest, z_forest_φ)) : MW l yX0_pickChange cX0_pickChange 6 (some .int) { frames := 2, cells := 0, slots := 0, locals := 51 } E [.ref (a 0), .int x1, .int x2, .int x3, .int x4] ([gX0 E a (a_forest 0) (a_mix 0) v_reason v_detail, gX5 E a_mix mix_row mix_conflictCount mix_lowest, gX1 E a_forest φ_forest] : List va_W).flatten 0 0 (some (.int r)) ([gX0 E a (a_forest 0) (a_mix 0) z_this_reason z_this_detail, gX5 E a_mix z_mix_row z_mix_conflictCount z_mix_lowest, gX1 E a_forest z_forest_φ] : List va_W).flatten := by
  refine px_startW (by decide +kernel) (Nat.le_of_ble_eq_true rfl) ?_
  intro p e s m args below meth c R Q A ls hC hA0 hQ
  obtain ⟨hx, hb, hr, hml, hts, hown, hlocks, hR, hK, hN, hP, hD, hA, hl, hin⟩ := hC
  have hl : lv_has ls 6 [(0, .ref (a 0)), (1, .int x1), (2, .int x2), (3, .int x3), (4, .int x4)] := hl
  suffices key : ∀ (H : Heap) (locs : List Loc), va_P E.1 vwCl ([gX0 E a (a_forest 0) (a_mix 0) v_reason v_detail, gX5 E a_mix mix_row mix_conflictCount mix_lowest, gX1 E a_forest φ_forest] : List va_W).flatten H → va_S A s.heap H locs → W p l e R s m args below meth c H locs 0 0 Q (F0 m 0 ls []) from key s.heap [] hP va_S.rf
  unfold f0_pickChange at h
  intro H locs hP hS
  refine lv_aload_n hx hb dX0_pickChange_0 rfl (lv_at hl 0 rfl) ?_
  refine va_get (D := E.1) (ci := 0) (v := .ref (a_forest 0)) (C := RX0) (T := TX0) (N := 4) hx hb hts iX0 hown hK hP 0 rfl rfl 0 (by decide) (hts _ q139) (fun _ h9 => h9) rfl dX0_pickChange_1 ?_
  refine lv_iload_n hx hb dX0_pickChange_4 rfl (lv_at hl 1 rfl) ?_
  obtain ⟨r1, hr2, h⟩ := ob h
  refine px_Vp (As := [.int x1]) (rest := []) (gs := ([gX0 E a (a_forest 0) (a_mix 0) v_reason v_detail, gX5 E a_mix mix_row mix_conflictCount mix_lowest, gX1 E a_forest φ_forest] : List va_W)) (gc := ([gX1 E a_forest φ_forest] : List va_W)) ⟨hx, hb, hml, hown, hts⟩ (c1_tipOf l E a_forest  (x1) (φ_forest) r1 hr2) (cwV 1 hts (ws_v q294 q295 q296 q19 q297) rfl rfl rfl hdV_X1_tipOf (by rw [hR]; exact ⟨Nat.le_of_ble_eq_true rfl, Nat.le_of_ble_eq_true rfl⟩)) hK hN hP hD [2] rfl (by decide) 0 1 rfl rfl rfl rfl hl.1 rfl (Nat.le_of_ble_eq_true rfl) dX0_pickChange_5 (by rw [hR]; exact ⟨Nat.le_of_ble_eq_true rfl, Nat.le_of_ble_eq_true rfl⟩) ?_
  refine W.eq (g2 := F0 m 8 ls [.int r1]) rfl ?_
  refine lv_istore (lv' := [(5, .int r1), (0, .ref (a 0)), (1, .int x1), (2, .int x2), (3, .int x3), (4, .int x4)]) hx hb dX0_pickChange_8 hl (by decide) rfl (fun ls hl => ?_)
  refine lv_aload_n hx hb dX0_pickChange_10 rfl (lv_at hl 1 rfl) ?_
  refine va_get (D := E.1) (ci := 0) (v := .ref (a_mix 0)) (C := RX0) (T := TX0) (N := 4) hx hb hts iX0 hown hK hP 0 rfl rfl 1 (by decide) (hts _ q140) (fun _ h9 => h9) rfl dX0_pickChange_11 ?_
  refine lv_aload_n hx hb dX0_pickChange_14 rfl (lv_at hl 1 rfl) ?_
  refine va_get (D := E.1) (ci := 0) (v := .ref (a_forest 0)) (C := RX0) (T := TX0) (N := 4) hx hb hts iX0 hown hK hP 0 rfl rfl 0 (by decide) (hts _ q139) (fun _ h9 => h9) rfl dX0_pickChange_15 ?_
  refine lv_iload hx hb dX0_pickChange_18 (lv_at hl 0 rfl) ?_
  refine lv_iload_n hx hb dX0_pickChange_20 rfl (lv_at hl 3 rfl) ?_
  refine lv_iload_n hx hb dX0_pickChange_21 rfl (lv_at hl 4 rfl) ?_
  refine lv_iload hx hb dX0_pickChange_22 (lv_at hl 5 rfl) ?_
  obtain ⟨⟨w3, w4, w5⟩, hr6, h⟩ := ob h
  dsimp only at h
  refine px_V (As := [.ref (a_forest 0), .int r1, .int x2, .int x3, .int x4]) (rest := []) (gs := ([gX0 E a (a_forest 0) (a_mix 0) v_reason v_detail, gX5 E a_mix mix_row mix_conflictCount mix_lowest, gX1 E a_forest φ_forest] : List va_W)) (gr := ([gX0 E a (a_forest 0) (a_mix 0) v_reason v_detail] : List va_W)) (gc := ([gX5 E a_mix mix_row mix_conflictCount mix_lowest, gX1 E a_forest φ_forest] : List va_W)) (g1 := ([gX5 E a_mix w3 w4 w5, gX1 E a_forest φ_forest] : List va_W)) (g2 := ([gX0 E a (a_forest 0) (a_mix 0) v_reason v_detail, gX5 E a_mix w3 w4 w5, gX1 E a_forest φ_forest] : List va_W)) ⟨hx, hb, hml, hown, hts⟩ (c5_putTogether l E a_mix a_forest  (r1) (x2) (x3) (x4) (mix_row) (mix_conflictCount) (mix_lowest) (φ_forest) w3 w4 w5 hr6) (cwV 5 hts (ws_v q574 q575 q576 q22 q577) rfl rfl rfl hdV_X5_putTogether (by rw [hR]; exact ⟨Nat.le_of_ble_eq_true rfl, Nat.le_of_ble_eq_true rfl⟩)) hK hN hP hD hS hA [0] [1, 2] [0, 1, 2] rfl rfl (by decide) (by decide) rfl (by decide) 0 5 rfl rfl rfl rfl hl.1 rfl (Nat.le_of_ble_eq_true rfl) dX0_pickChange_24 (by rw [hR]; exact ⟨Nat.le_of_ble_eq_true rfl, Nat.le_of_ble_eq_true rfl⟩) (fun H locs hP hD hS => ?_)
  refine W.eq (g2 := F0 m 27 ls []) rfl ?_
  refine lv_aload_n hx hb dX0_pickChange_27 rfl (lv_at hl 1 rfl) ?_
  refine lv_iload hx hb dX0_pickChange_28 (lv_at hl 5 rfl) ?_
  obtain ⟨r7, hr8, h⟩ := ob h
  refine px_Vp (As := [.int x4]) (rest := []) (gs := ([gX0 E a (a_forest 0) (a_mix 0) v_reason v_detail, gX5 E a_mix w3 w4 w5, gX1 E a_forest φ_forest] : List va_W)) (gc := ([gX0 E a (a_forest 0) (a_mix 0) v_reason v_detail, gX5 E a_mix w3 w4 w5] : List va_W)) ⟨hx, hb, hml, hown, hts⟩ (c0_isStopped l E a a_mix (a_forest 0) (x4) (v_reason) (v_detail) (w3) (w4) (w5) r7 hr8) (cwV 1 hts (ws_v q581 q583 q6 q21 q584) rfl rfl rfl hdV_X0_isStopped (by rw [hR]; exact ⟨Nat.le_of_ble_eq_true rfl, Nat.le_of_ble_eq_true rfl⟩)) hK hN hP hD [0, 1] rfl (by decide) 0 0 rfl rfl rfl rfl hl.1 rfl (Nat.le_of_ble_eq_true rfl) dX0_pickChange_30 (by rw [hR]; exact ⟨Nat.le_of_ble_eq_true rfl, Nat.le_of_ble_eq_true rfl⟩) ?_
  refine W.eq (g2 := F0 m 33 ls [.int (b2i r7)]) rfl ?_
  refine lv_if_eq (tgt := 49) hx hb dX0_pickChange_33 (by decide) (fun c9 => ?_) (fun c9 => ?_)
  · rw [if_pos c9] at h
    refine lv_aload_n hx hb dX0_pickChange_49 rfl (lv_at hl 1 rfl) ?_
    refine va_get (D := E.1) (ci := 0) (v := .ref (a_mix 0)) (C := RX0) (T := TX0) (N := 4) hx hb hts iX0 hown hK hP 0 rfl rfl 1 (by decide) (hts _ q140) (fun _ h9 => h9) rfl dX0_pickChange_50 ?_
    refine lv_aload_n hx hb dX0_pickChange_53 rfl (lv_at hl 1 rfl) ?_
    refine va_get (D := E.1) (ci := 0) (v := .ref (a_forest 0)) (C := RX0) (T := TX0) (N := 4) hx hb hts iX0 hown hK hP 0 rfl rfl 0 (by decide) (hts _ q139) (fun _ h9 => h9) rfl dX0_pickChange_54 ?_
    refine lv_iload hx hb dX0_pickChange_57 (lv_at hl 0 rfl) ?_
    obtain ⟨r10, hr11, h⟩ := ob h
    refine px_Vp (As := [.ref (a_forest 0), .int r1]) (rest := []) (gs := ([gX0 E a (a_forest 0) (a_mix 0) v_reason v_detail, gX5 E a_mix w3 w4 w5, gX1 E a_forest φ_forest] : List va_W)) (gc := ([gX5 E a_mix w3 w4 w5, gX1 E a_forest φ_forest] : List va_W)) ⟨hx, hb, hml, hown, hts⟩ (c5_isRowOf l E a_mix a_forest  (r1) (w3) (w4) (w5) (φ_forest) r10 hr11) (cwV 2 hts (ws_v q609 q610 q611 q22 q612) rfl rfl rfl hdV_X5_isRowOf (by rw [hR]; exact ⟨Nat.le_of_ble_eq_true rfl, Nat.le_of_ble_eq_true rfl⟩)) hK hN hP hD [1, 2] rfl (by decide) 0 5 rfl rfl rfl rfl hl.1 rfl (Nat.le_of_ble_eq_true rfl) dX0_pickChange_59 (by rw [hR]; exact ⟨Nat.le_of_ble_eq_true rfl, Nat.le_of_ble_eq_true rfl⟩) ?_
    refine W.eq (g2 := F0 m 62 ls [.int (b2i r10)]) rfl ?_
    refine lv_if_eq (tgt := 74) hx hb dX0_pickChange_62 (by decide) (fun c12 => ?_) (fun c12 => ?_)
    · rw [if_pos c12] at h
      refine lv_aload_n hx hb dX0_pickChange_74 rfl (lv_at hl 1 rfl) ?_
      refine va_get (D := E.1) (ci := 0) (v := .ref (a_forest 0)) (C := RX0) (T := TX0) (N := 4) hx hb hts iX0 hown hK hP 0 rfl rfl 0 (by decide) (hts _ q139) (fun _ h9 => h9) rfl dX0_pickChange_75 ?_
      obtain ⟨r13, hr14, h⟩ := ob h
      refine px_Vp (As := []) (rest := []) (gs := ([gX0 E a (a_forest 0) (a_mix 0) v_reason v_detail, gX5 E a_mix w3 w4 w5, gX1 E a_forest φ_forest] : List va_W)) (gc := ([gX1 E a_forest φ_forest] : List va_W)) ⟨hx, hb, hml, hown, hts⟩ (c1_isFull l E a_forest   (φ_forest) r13 hr14) (cwV 0 hts (ws_v q306 q307 q308 q19 q309) rfl rfl rfl hdV_X1_isFull (by rw [hR]; exact ⟨Nat.le_of_ble_eq_true rfl, Nat.le_of_ble_eq_true rfl⟩)) hK hN hP hD [2] rfl (by decide) 0 1 rfl rfl rfl rfl hl.1 rfl (Nat.le_of_ble_eq_true rfl) dX0_pickChange_78 (by rw [hR]; exact ⟨Nat.le_of_ble_eq_true rfl, Nat.le_of_ble_eq_true rfl⟩) ?_
      refine W.eq (g2 := F0 m 81 ls [.int (b2i r13)]) rfl ?_
      refine lv_if_eq (tgt := 92) hx hb dX0_pickChange_81 (by decide) (fun c15 => ?_) (fun c15 => ?_)
      · rw [if_pos c15] at h
        refine lv_aload_n hx hb dX0_pickChange_92 rfl (lv_at hl 1 rfl) ?_
        refine va_get (D := E.1) (ci := 0) (v := .ref (a_forest 0)) (C := RX0) (T := TX0) (N := 4) hx hb hts iX0 hown hK hP 0 rfl rfl 0 (by decide) (hts _ q139) (fun _ h9 => h9) rfl dX0_pickChange_93 ?_
        refine lv_iload_n hx hb dX0_pickChange_96 rfl (lv_at hl 2 rfl) ?_
        refine lv_iconst (v := (nI 2)) hx hb dX0_pickChange_97 (by decide) ?_
        refine lv_iconst (v := (-1 : Int32)) hx hb dX0_pickChange_98 (by decide) ?_
        refine lv_aload_n hx hb dX0_pickChange_99 rfl (lv_at hl 1 rfl) ?_
        refine va_get (D := E.1) (ci := 0) (v := .ref (a_mix 0)) (C := RX0) (T := TX0) (N := 4) hx hb hts iX0 hown hK hP 0 rfl rfl 1 (by decide) (hts _ q140) (fun _ h9 => h9) rfl dX0_pickChange_100 ?_
        obtain ⟨_u, hr16, h⟩ := ob h
        refine px_Vp (As := []) (rest := [.int (-1 : Int32), .int (nI 2), .int x1, .ref (a_forest 0)]) (gs := ([gX0 E a (a_forest 0) (a_mix 0) v_reason v_detail, gX5 E a_mix w3 w4 w5, gX1 E a_forest φ_forest] : List va_W)) (gc := ([gX5 E a_mix w3 w4 w5] : List va_W)) ⟨hx, hb, hml, hown, hts⟩ (c5_amounts l E a_mix   (w3) (w4) (w5)  hr16) (cwV 0 hts (ws_v q315 q316 q317 q22 q318) rfl rfl rfl hdV_X5_amounts (by rw [hR]; exact ⟨Nat.le_of_ble_eq_true rfl, Nat.le_of_ble_eq_true rfl⟩)) hK hN hP hD [1] rfl (by decide) 0 5 rfl rfl rfl rfl hl.1 rfl (Nat.le_of_ble_eq_true rfl) dX0_pickChange_103 (by rw [hR]; exact ⟨Nat.le_of_ble_eq_true rfl, Nat.le_of_ble_eq_true rfl⟩) ?_
        refine W.eq (g2 := F0 m 106 ls [.ref (a_mix 1), .int (-1 : Int32), .int (nI 2), .int x1, .ref (a_forest 0)]) rfl ?_
        obtain ⟨⟨r17, w18⟩, hr19, h⟩ := ob h
        dsimp only at h
        refine px_V (As := [.int x1, .int (nI 2), .int (-1 : Int32), .ref (a_mix 1)]) (rest := []) (gs := ([gX0 E a (a_forest 0) (a_mix 0) v_reason v_detail, gX5 E a_mix w3 w4 w5, gX1 E a_forest φ_forest] : List va_W)) (gr := ([gX0 E a (a_forest 0) (a_mix 0) v_reason v_detail] : List va_W)) (gc := ([gX1 E a_forest φ_forest, gX5 E a_mix w3 w4 w5] : List va_W)) (g1 := ([gX1 E a_forest w18, gX5 E a_mix w3 w4 w5] : List va_W)) (g2 := ([gX0 E a (a_forest 0) (a_mix 0) v_reason v_detail, gX5 E a_mix w3 w4 w5, gX1 E a_forest w18] : List va_W)) ⟨hx, hb, hml, hown, hts⟩ (c1_addCommit l E a_forest a_mix  (x1) ((nI 2)) ((-1 : Int32)) (φ_forest) (w3) (w4) (w5) r17 w18 hr19) (cwV 4 hts (ws_v q319 q320 q321 q19 q322) rfl rfl rfl hdV_X1_addCommit (by rw [hR]; exact ⟨Nat.le_of_ble_eq_true rfl, Nat.le_of_ble_eq_true rfl⟩)) hK hN hP hD hS hA [0] [2, 1] [0, 2, 1] rfl rfl (by decide) (by decide) rfl (by decide) 0 1 rfl rfl rfl rfl hl.1 rfl (Nat.le_of_ble_eq_true rfl) dX0_pickChange_106 (by rw [hR]; exact ⟨Nat.le_of_ble_eq_true rfl, Nat.le_of_ble_eq_true rfl⟩) (fun H locs hP hD hS => ?_)
        refine W.eq (g2 := F0 m 109 ls [.int r17]) rfl ?_
        cases h
        exact px_eWi hA0 hQ hP hD hS hx hb hr hlocks dX0_pickChange_109
      · rw [if_neg c15] at h
        refine lv_aload_n hx hb dX0_pickChange_84 rfl (lv_at hl 1 rfl) ?_
        refine lv_iconst (v := (nI 1)) hx hb dX0_pickChange_85 (by decide) ?_
        refine lv_bipush (v := (nI 24)) hx hb dX0_pickChange_86 (by decide) ?_
        obtain ⟨⟨r20, w21, w22⟩, hr23, h⟩ := ob h
        dsimp only at h
        refine px_V (As := [.int (nI 1), .int (nI 24)]) (rest := []) (gs := ([gX0 E a (a_forest 0) (a_mix 0) v_reason v_detail, gX5 E a_mix w3 w4 w5, gX1 E a_forest φ_forest] : List va_W)) (gr := ([gX5 E a_mix w3 w4 w5, gX1 E a_forest φ_forest] : List va_W)) (gc := ([gX0 E a (a_forest 0) (a_mix 0) v_reason v_detail] : List va_W)) (g1 := ([gX0 E a (a_forest 0) (a_mix 0) w21 w22] : List va_W)) (g2 := ([gX0 E a (a_forest 0) (a_mix 0) w21 w22, gX5 E a_mix w3 w4 w5, gX1 E a_forest φ_forest] : List va_W)) ⟨hx, hb, hml, hown, hts⟩ (c0_refuse l E a (a_forest 0) (a_mix 0) ((nI 1)) ((nI 24)) (v_reason) (v_detail) r20 w21 w22 hr23) (cwV 2 hts (ws_v q302 q304 q0 q21 q305) rfl rfl rfl hdV_X0_refuse (by rw [hR]; exact ⟨Nat.le_of_ble_eq_true rfl, Nat.le_of_ble_eq_true rfl⟩)) hK hN hP hD hS hA [1, 2] [0] [2, 0, 1] rfl rfl (by decide) (by decide) rfl (by decide) 0 0 rfl rfl rfl rfl hl.1 rfl (Nat.le_of_ble_eq_true rfl) dX0_pickChange_88 (by rw [hR]; exact ⟨Nat.le_of_ble_eq_true rfl, Nat.le_of_ble_eq_true rfl⟩) (fun H locs hP hD hS => ?_)
        refine W.eq (g2 := F0 m 91 ls [.int r20]) rfl ?_
        cases h
        exact px_eWi hA0 hQ hP hD hS hx hb hr hlocks dX0_pickChange_91
    · rw [if_neg c12] at h
      refine lv_aload_n hx hb dX0_pickChange_65 rfl (lv_at hl 1 rfl) ?_
      refine lv_bipush (v := (nI 7)) hx hb dX0_pickChange_66 (by decide) ?_
      refine lv_iload hx hb dX0_pickChange_68 (lv_at hl 0 rfl) ?_
      obtain ⟨⟨r24, w25, w26⟩, hr27, h⟩ := ob h
      dsimp only at h
      refine px_V (As := [.int (nI 7), .int r1]) (rest := []) (gs := ([gX0 E a (a_forest 0) (a_mix 0) v_reason v_detail, gX5 E a_mix w3 w4 w5, gX1 E a_forest φ_forest] : List va_W)) (gr := ([gX5 E a_mix w3 w4 w5, gX1 E a_forest φ_forest] : List va_W)) (gc := ([gX0 E a (a_forest 0) (a_mix 0) v_reason v_detail] : List va_W)) (g1 := ([gX0 E a (a_forest 0) (a_mix 0) w25 w26] : List va_W)) (g2 := ([gX0 E a (a_forest 0) (a_mix 0) w25 w26, gX5 E a_mix w3 w4 w5, gX1 E a_forest φ_forest] : List va_W)) ⟨hx, hb, hml, hown, hts⟩ (c0_refuse l E a (a_forest 0) (a_mix 0) ((nI 7)) (r1) (v_reason) (v_detail) r24 w25 w26 hr27) (cwV 2 hts (ws_v q302 q304 q0 q21 q305) rfl rfl rfl hdV_X0_refuse (by rw [hR]; exact ⟨Nat.le_of_ble_eq_true rfl, Nat.le_of_ble_eq_true rfl⟩)) hK hN hP hD hS hA [1, 2] [0] [2, 0, 1] rfl rfl (by decide) (by decide) rfl (by decide) 0 0 rfl rfl rfl rfl hl.1 rfl (Nat.le_of_ble_eq_true rfl) dX0_pickChange_70 (by rw [hR]; exact ⟨Nat.le_of_ble_eq_true rfl, Nat.le_of_ble_eq_true rfl⟩) (fun H locs hP hD hS => ?_)
      refine W.eq (g2 := F0 m 73 ls [.int r24]) rfl ?_
      cases h
      exact px_eWi hA0 hQ hP hD hS hx hb hr hlocks dX0_pickChange_73
  · rw [if_neg c9] at h
    refine lv_aload_n hx hb dX0_pickChange_36 rfl (lv_at hl 1 rfl) ?_
    refine lv_iconst (v := (nI 5)) hx hb dX0_pickChange_37 (by decide) ?_
    refine lv_aload_n hx hb dX0_pickChange_38 rfl (lv_at hl 1 rfl) ?_
    refine va_get (D := E.1) (ci := 0) (v := .ref (a_mix 0)) (C := RX0) (T := TX0) (N := 4) hx hb hts iX0 hown hK hP 0 rfl rfl 1 (by decide) (hts _ q140) (fun _ h9 => h9) rfl dX0_pickChange_39 ?_
    obtain ⟨r28, hr29, h⟩ := ob h
    refine px_Vp (As := []) (rest := [.int (nI 5), .ref (a 0)]) (gs := ([gX0 E a (a_forest 0) (a_mix 0) v_reason v_detail, gX5 E a_mix w3 w4 w5, gX1 E a_forest φ_forest] : List va_W)) (gc := ([gX5 E a_mix w3 w4 w5] : List va_W)) ⟨hx, hb, hml, hown, hts⟩ (c5_lowestConflict l E a_mix   (w3) (w4) (w5) r28 hr29) (cwV 0 hts (ws_v q589 q590 q591 q22 q592) rfl rfl rfl hdV_X5_lowestConflict (by rw [hR]; exact ⟨Nat.le_of_ble_eq_true rfl, Nat.le_of_ble_eq_true rfl⟩)) hK hN hP hD [1] rfl (by decide) 0 5 rfl rfl rfl rfl hl.1 rfl (Nat.le_of_ble_eq_true rfl) dX0_pickChange_42 (by rw [hR]; exact ⟨Nat.le_of_ble_eq_true rfl, Nat.le_of_ble_eq_true rfl⟩) ?_
    refine W.eq (g2 := F0 m 45 ls [.int r28, .int (nI 5), .ref (a 0)]) rfl ?_
    obtain ⟨⟨r30, w31, w32⟩, hr33, h⟩ := ob h
    dsimp only at h
    refine px_V (As := [.int (nI 5), .int r28]) (rest := []) (gs := ([gX0 E a (a_forest 0) (a_mix 0) v_reason v_detail, gX5 E a_mix w3 w4 w5, gX1 E a_forest φ_forest] : List va_W)) (gr := ([gX5 E a_mix w3 w4 w5, gX1 E a_forest φ_forest] : List va_W)) (gc := ([gX0 E a (a_forest 0) (a_mix 0) v_reason v_detail] : List va_W)) (g1 := ([gX0 E a (a_forest 0) (a_mix 0) w31 w32] : List va_W)) (g2 := ([gX0 E a (a_forest 0) (a_mix 0) w31 w32, gX5 E a_mix w3 w4 w5, gX1 E a_forest φ_forest] : List va_W)) ⟨hx, hb, hml, hown, hts⟩ (c0_refuse l E a (a_forest 0) (a_mix 0) ((nI 5)) (r28) (v_reason) (v_detail) r30 w31 w32 hr33) (cwV 2 hts (ws_v q302 q304 q0 q21 q305) rfl rfl rfl hdV_X0_refuse (by rw [hR]; exact ⟨Nat.le_of_ble_eq_true rfl, Nat.le_of_ble_eq_true rfl⟩)) hK hN hP hD hS hA [1, 2] [0] [2, 0, 1] rfl rfl (by decide) (by decide) rfl (by decide) 0 0 rfl rfl rfl rfl hl.1 rfl (Nat.le_of_ble_eq_true rfl) dX0_pickChange_45 (by rw [hR]; exact ⟨Nat.le_of_ble_eq_true rfl, Nat.le_of_ble_eq_true rfl⟩) (fun H locs hP hD hS => ?_)
    refine W.eq (g2 := F0 m 48 ls [.int r30]) rfl ?_
    cases h
    exact px_eWi hA0 hQ hP hD hS hx hb hr hlocks dX0_pickChange_48
def f0_tryEdit (x1 : Int32) (x2 : Int32) (x3 : Int32) (v_reason : Int32) (v_detail : Int32) (mix_row : AI) (φ_forest : Fo) : Option (Int32 × Int32 × Int32 × AI × Fo) := ((f1_isBranch (x1) (φ_forest)).bind fun r1 => (if (b2i r1) = 0 then (some ((-1 : Int32), v_reason, v_detail, mix_row, φ_forest)) else ((f8_isIngredient (x2)).bind fun r4 => (if (b2i r4) = 0 then (some ((-1 : Int32), v_reason, v_detail, mix_row, φ_forest)) else ((f8_isAmount (x3)).bind fun r7 => (if (b2i r7) = 0 then (some ((-2 : Int32), v_reason, v_detail, mix_row, φ_forest)) else ((f1_tipOf (x1) (φ_forest)).bind fun r10 => ((f1_amountIn (r10) (x2) (φ_forest)).bind fun r12 => (if r12 = x3 then ((f0_refuse ((nI 2)) (x3) (v_reason) (v_detail)).bind fun (r28, w29, w30) => (some (r28, w29, w30, mix_row, φ_forest))) else ((f1_isFull (φ_forest)).bind fun r15 => (if (b2i r15) = 0 then ((f5_change (r10) (x2) (x3) (mix_row) (φ_forest)).bind fun w18 => ((f5_amounts ).bind fun _u => ((f1_addCommit (x1) ((nI 0)) ((-1 : Int32)) (φ_forest) (w18)).bind fun (r21, w22) => (some (r21, v_reason, v_detail, w18, w22))))) else ((f0_refuse ((nI 1)) ((nI 24)) (v_reason) (v_detail)).bind fun (r24, w25, w26) => (some (r24, w25, w26, mix_row, φ_forest))))))))))))))
set_option maxHeartbeats 4000000 in
set_option maxRecDepth 100000 in
theorem c0_tryEdit (l : Launch) (E : PE) (a : Nat → Nat) (a_mix : Nat → Nat) (a_forest : Nat → Nat)  (x1 : Int32) (x2 : Int32) (x3 : Int32) (v_reason : Int32) (v_detail : Int32) (mix_row : AI) (mix_conflictCount : Int32) (mix_lowest : Int32) (φ_forest : Fo) (r : Int32) (z_this_reason : Int32) (z_this_detail : Int32) (z_mix_row : AI) (z_forest_φ : Fo) (h : f0_tryEdit x1 x2 x3 v_reason v_detail mix_row φ_forest = some (r, z_this_reason, z_this_detail, z_mix_row, z_forest_φ)) : MW l yX0_tryEdit cX0_tryEdit 5 (some .int) { frames := 2, cells := 0, slots := 0, locals := 48 } E [.ref (a 0), .int x1, .int x2, .int x3] ([gX0 E a (a_forest 0) (a_mix 0) v_reason v_detail, gX5 E a_mix mix_row mix_conflictCount mix_lowest, gX1 E a_forest φ_forest] : List va_W).flatten 0 0 (some (.int r)) ([gX0 E a (a_forest 0) (a_mix 0) z_this_reason z_this_detail, gX5 E a_mix z_mix_row mix_conflictCount mix_lowest, gX1 E a_forest z_forest_φ] : List va_W).flatten := by
  refine px_startW (by decide +kernel) (Nat.le_of_ble_eq_true rfl) ?_
  intro p e s m args below meth c R Q A ls hC hA0 hQ
  obtain ⟨hx, hb, hr, hml, hts, hown, hlocks, hR, hK, hN, hP, hD, hA, hl, hin⟩ := hC
  have hl : lv_has ls 5 [(0, .ref (a 0)), (1, .int x1), (2, .int x2), (3, .int x3)] := hl
  suffices key : ∀ (H : Heap) (locs : List Loc), va_P E.1 vwCl ([gX0 E a (a_forest 0) (a_mix 0) v_reason v_detail, gX5 E a_mix mix_row mix_conflictCount mix_lowest, gX1 E a_forest φ_forest] : List va_W).flatten H → va_S A s.heap H locs → W p l e R s m args below meth c H locs 0 0 Q (F0 m 0 ls []) from key s.heap [] hP va_S.rf
  unfold f0_tryEdit at h
  intro H locs hP hS
  refine lv_aload_n hx hb dX0_tryEdit_0 rfl (lv_at hl 0 rfl) ?_
  refine va_get (D := E.1) (ci := 0) (v := .ref (a_forest 0)) (C := RX0) (T := TX0) (N := 4) hx hb hts iX0 hown hK hP 0 rfl rfl 0 (by decide) (hts _ q139) (fun _ h9 => h9) rfl dX0_tryEdit_1 ?_
  refine lv_iload_n hx hb dX0_tryEdit_4 rfl (lv_at hl 1 rfl) ?_
  obtain ⟨r1, hr2, h⟩ := ob h
  refine px_Vp (As := [.int x1]) (rest := []) (gs := ([gX0 E a (a_forest 0) (a_mix 0) v_reason v_detail, gX5 E a_mix mix_row mix_conflictCount mix_lowest, gX1 E a_forest φ_forest] : List va_W)) (gc := ([gX1 E a_forest φ_forest] : List va_W)) ⟨hx, hb, hml, hown, hts⟩ (c1_isBranch l E a_forest  (x1) (φ_forest) r1 hr2) (cwV 1 hts (ws_v q284 q285 q286 q19 q287) rfl rfl rfl hdV_X1_isBranch (by rw [hR]; exact ⟨Nat.le_of_ble_eq_true rfl, Nat.le_of_ble_eq_true rfl⟩)) hK hN hP hD [2] rfl (by decide) 0 1 rfl rfl rfl rfl hl.1 rfl (Nat.le_of_ble_eq_true rfl) dX0_tryEdit_5 (by rw [hR]; exact ⟨Nat.le_of_ble_eq_true rfl, Nat.le_of_ble_eq_true rfl⟩) ?_
  refine W.eq (g2 := F0 m 8 ls [.int (b2i r1)]) rfl ?_
  refine lv_if_eq (tgt := 18) hx hb dX0_tryEdit_8 (by decide) (fun c3 => ?_) (fun c3 => ?_)
  · rw [if_pos c3] at h
    refine lv_iconst (v := (-1 : Int32)) hx hb dX0_tryEdit_18 (by decide) ?_
    cases h
    exact px_eWi hA0 hQ hP hD hS hx hb hr hlocks dX0_tryEdit_19
  · rw [if_neg c3] at h
    refine lv_iload_n hx hb dX0_tryEdit_11 rfl (lv_at hl 2 rfl) ?_
    obtain ⟨r4, hr5, h⟩ := ob h
    refine px_SNp (As := [.int x2]) (rest := []) (gs := ([gX0 E a (a_forest 0) (a_mix 0) v_reason v_detail, gX5 E a_mix mix_row mix_conflictCount mix_lowest, gX1 E a_forest φ_forest] : List va_W)) (gc := ([] : List va_W)) ⟨hx, hb, hml, hown, hts⟩ (c8_isIngredient l E   (x2)  r4 hr5) ⟨va_cnB 1 hts (ws_g q290) rfl rfl rfl (hN _ (List.mem_of_getElem? (i := 0) rfl)) (hts _ q18) hdS_X8_isIngredient (by rw [hR]; exact ⟨Nat.le_of_ble_eq_true rfl, Nat.le_of_ble_eq_true rfl⟩), hts _ q289, trivial⟩ hK hN hP hD [] rfl (by decide) rfl hl.1 rfl (Nat.le_of_ble_eq_true rfl) dX0_tryEdit_12 (by rw [hR]; exact ⟨Nat.le_of_ble_eq_true rfl, Nat.le_of_ble_eq_true rfl⟩) ?_
    refine W.eq (g2 := F0 m 15 ls [.int (b2i r4)]) rfl ?_
    refine lv_if_ne (tgt := 20) hx hb dX0_tryEdit_15 (by decide) (fun c6 => ?_) (fun c6 => ?_)
    · rw [if_neg c6] at h
      refine lv_iload_n hx hb dX0_tryEdit_20 rfl (lv_at hl 3 rfl) ?_
      obtain ⟨r7, hr8, h⟩ := ob h
      refine px_SNp (As := [.int x3]) (rest := []) (gs := ([gX0 E a (a_forest 0) (a_mix 0) v_reason v_detail, gX5 E a_mix mix_row mix_conflictCount mix_lowest, gX1 E a_forest φ_forest] : List va_W)) (gc := ([] : List va_W)) ⟨hx, hb, hml, hown, hts⟩ (c8_isAmount l E   (x3)  r7 hr8) ⟨va_cnB 1 hts (ws_g q293) rfl rfl rfl (hN _ (List.mem_of_getElem? (i := 1) rfl)) (hts _ q18) hdS_X8_isAmount (by rw [hR]; exact ⟨Nat.le_of_ble_eq_true rfl, Nat.le_of_ble_eq_true rfl⟩), hts _ q292, trivial⟩ hK hN hP hD [] rfl (by decide) rfl hl.1 rfl (Nat.le_of_ble_eq_true rfl) dX0_tryEdit_21 (by rw [hR]; exact ⟨Nat.le_of_ble_eq_true rfl, Nat.le_of_ble_eq_true rfl⟩) ?_
      refine W.eq (g2 := F0 m 24 ls [.int (b2i r7)]) rfl ?_
      refine lv_if_ne (tgt := 30) hx hb dX0_tryEdit_24 (by decide) (fun c9 => ?_) (fun c9 => ?_)
      · rw [if_neg c9] at h
        refine lv_aload_n hx hb dX0_tryEdit_30 rfl (lv_at hl 0 rfl) ?_
        refine va_get (D := E.1) (ci := 0) (v := .ref (a_forest 0)) (C := RX0) (T := TX0) (N := 4) hx hb hts iX0 hown hK hP 0 rfl rfl 0 (by decide) (hts _ q139) (fun _ h9 => h9) rfl dX0_tryEdit_31 ?_
        refine lv_iload_n hx hb dX0_tryEdit_34 rfl (lv_at hl 1 rfl) ?_
        obtain ⟨r10, hr11, h⟩ := ob h
        refine px_Vp (As := [.int x1]) (rest := []) (gs := ([gX0 E a (a_forest 0) (a_mix 0) v_reason v_detail, gX5 E a_mix mix_row mix_conflictCount mix_lowest, gX1 E a_forest φ_forest] : List va_W)) (gc := ([gX1 E a_forest φ_forest] : List va_W)) ⟨hx, hb, hml, hown, hts⟩ (c1_tipOf l E a_forest  (x1) (φ_forest) r10 hr11) (cwV 1 hts (ws_v q294 q295 q296 q19 q297) rfl rfl rfl hdV_X1_tipOf (by rw [hR]; exact ⟨Nat.le_of_ble_eq_true rfl, Nat.le_of_ble_eq_true rfl⟩)) hK hN hP hD [2] rfl (by decide) 0 1 rfl rfl rfl rfl hl.1 rfl (Nat.le_of_ble_eq_true rfl) dX0_tryEdit_35 (by rw [hR]; exact ⟨Nat.le_of_ble_eq_true rfl, Nat.le_of_ble_eq_true rfl⟩) ?_
        refine W.eq (g2 := F0 m 38 ls [.int r10]) rfl ?_
        refine lv_istore (lv' := [(4, .int r10), (0, .ref (a 0)), (1, .int x1), (2, .int x2), (3, .int x3)]) hx hb dX0_tryEdit_38 hl (by decide) rfl (fun ls hl => ?_)
        refine lv_aload_n hx hb dX0_tryEdit_40 rfl (lv_at hl 1 rfl) ?_
        refine va_get (D := E.1) (ci := 0) (v := .ref (a_forest 0)) (C := RX0) (T := TX0) (N := 4) hx hb hts iX0 hown hK hP 0 rfl rfl 0 (by decide) (hts _ q139) (fun _ h9 => h9) rfl dX0_tryEdit_41 ?_
        refine lv_iload hx hb dX0_tryEdit_44 (lv_at hl 0 rfl) ?_
        refine lv_iload_n hx hb dX0_tryEdit_46 rfl (lv_at hl 3 rfl) ?_
        obtain ⟨r12, hr13, h⟩ := ob h
        refine px_Vp (As := [.int r10, .int x2]) (rest := []) (gs := ([gX0 E a (a_forest 0) (a_mix 0) v_reason v_detail, gX5 E a_mix mix_row mix_conflictCount mix_lowest, gX1 E a_forest φ_forest] : List va_W)) (gc := ([gX1 E a_forest φ_forest] : List va_W)) ⟨hx, hb, hml, hown, hts⟩ (c1_amountIn l E a_forest  (r10) (x2) (φ_forest) r12 hr13) (cwV 2 hts (ws_v q298 q299 q300 q19 q301) rfl rfl rfl hdV_X1_amountIn (by rw [hR]; exact ⟨Nat.le_of_ble_eq_true rfl, Nat.le_of_ble_eq_true rfl⟩)) hK hN hP hD [2] rfl (by decide) 0 1 rfl rfl rfl rfl hl.1 rfl (Nat.le_of_ble_eq_true rfl) dX0_tryEdit_47 (by rw [hR]; exact ⟨Nat.le_of_ble_eq_true rfl, Nat.le_of_ble_eq_true rfl⟩) ?_
        refine W.eq (g2 := F0 m 50 ls [.int r12]) rfl ?_
        refine lv_iload_n hx hb dX0_tryEdit_50 rfl (lv_at hl 4 rfl) ?_
        refine lv_icmp_ne (tgt := 61) hx hb dX0_tryEdit_51 (by decide) (fun c14 => ?_) (fun c14 => ?_)
        · rw [if_neg c14] at h
          refine lv_aload_n hx hb dX0_tryEdit_61 rfl (lv_at hl 1 rfl) ?_
          refine va_get (D := E.1) (ci := 0) (v := .ref (a_forest 0)) (C := RX0) (T := TX0) (N := 4) hx hb hts iX0 hown hK hP 0 rfl rfl 0 (by decide) (hts _ q139) (fun _ h9 => h9) rfl dX0_tryEdit_62 ?_
          obtain ⟨r15, hr16, h⟩ := ob h
          refine px_Vp (As := []) (rest := []) (gs := ([gX0 E a (a_forest 0) (a_mix 0) v_reason v_detail, gX5 E a_mix mix_row mix_conflictCount mix_lowest, gX1 E a_forest φ_forest] : List va_W)) (gc := ([gX1 E a_forest φ_forest] : List va_W)) ⟨hx, hb, hml, hown, hts⟩ (c1_isFull l E a_forest   (φ_forest) r15 hr16) (cwV 0 hts (ws_v q306 q307 q308 q19 q309) rfl rfl rfl hdV_X1_isFull (by rw [hR]; exact ⟨Nat.le_of_ble_eq_true rfl, Nat.le_of_ble_eq_true rfl⟩)) hK hN hP hD [2] rfl (by decide) 0 1 rfl rfl rfl rfl hl.1 rfl (Nat.le_of_ble_eq_true rfl) dX0_tryEdit_65 (by rw [hR]; exact ⟨Nat.le_of_ble_eq_true rfl, Nat.le_of_ble_eq_true rfl⟩) ?_
          refine W.eq (g2 := F0 m 68 ls [.int (b2i r15)]) rfl ?_
          refine lv_if_eq (tgt := 79) hx hb dX0_tryEdit_68 (by decide) (fun c17 => ?_) (fun c17 => ?_)
          · rw [if_pos c17] at h
            refine lv_aload_n hx hb dX0_tryEdit_79 rfl (lv_at hl 1 rfl) ?_
            refine va_get (D := E.1) (ci := 0) (v := .ref (a_mix 0)) (C := RX0) (T := TX0) (N := 4) hx hb hts iX0 hown hK hP 0 rfl rfl 1 (by decide) (hts _ q140) (fun _ h9 => h9) rfl dX0_tryEdit_80 ?_
            refine lv_aload_n hx hb dX0_tryEdit_83 rfl (lv_at hl 1 rfl) ?_
            refine va_get (D := E.1) (ci := 0) (v := .ref (a_forest 0)) (C := RX0) (T := TX0) (N := 4) hx hb hts iX0 hown hK hP 0 rfl rfl 0 (by decide) (hts _ q139) (fun _ h9 => h9) rfl dX0_tryEdit_84 ?_
            refine lv_iload hx hb dX0_tryEdit_87 (lv_at hl 0 rfl) ?_
            refine lv_iload_n hx hb dX0_tryEdit_89 rfl (lv_at hl 3 rfl) ?_
            refine lv_iload_n hx hb dX0_tryEdit_90 rfl (lv_at hl 4 rfl) ?_
            obtain ⟨w18, hr19, h⟩ := ob h
            refine px_V (As := [.ref (a_forest 0), .int r10, .int x2, .int x3]) (rest := []) (gs := ([gX0 E a (a_forest 0) (a_mix 0) v_reason v_detail, gX5 E a_mix mix_row mix_conflictCount mix_lowest, gX1 E a_forest φ_forest] : List va_W)) (gr := ([gX0 E a (a_forest 0) (a_mix 0) v_reason v_detail] : List va_W)) (gc := ([gX5 E a_mix mix_row mix_conflictCount mix_lowest, gX1 E a_forest φ_forest] : List va_W)) (g1 := ([gX5 E a_mix w18 mix_conflictCount mix_lowest, gX1 E a_forest φ_forest] : List va_W)) (g2 := ([gX0 E a (a_forest 0) (a_mix 0) v_reason v_detail, gX5 E a_mix w18 mix_conflictCount mix_lowest, gX1 E a_forest φ_forest] : List va_W)) ⟨hx, hb, hml, hown, hts⟩ (c5_change l E a_mix a_forest  (r10) (x2) (x3) (mix_row) (mix_conflictCount) (mix_lowest) (φ_forest) w18 hr19) (cwV 4 hts (ws_v q310 q311 q312 q22 q313) rfl rfl rfl hdV_X5_change (by rw [hR]; exact ⟨Nat.le_of_ble_eq_true rfl, Nat.le_of_ble_eq_true rfl⟩)) hK hN hP hD hS hA [0] [1, 2] [0, 1, 2] rfl rfl (by decide) (by decide) rfl (by decide) 0 5 rfl rfl rfl rfl hl.1 rfl (Nat.le_of_ble_eq_true rfl) dX0_tryEdit_91 (by rw [hR]; exact ⟨Nat.le_of_ble_eq_true rfl, Nat.le_of_ble_eq_true rfl⟩) (fun H locs hP hD hS => ?_)
            refine W.eq (g2 := F0 m 94 ls []) rfl ?_
            refine lv_aload_n hx hb dX0_tryEdit_94 rfl (lv_at hl 1 rfl) ?_
            refine va_get (D := E.1) (ci := 0) (v := .ref (a_forest 0)) (C := RX0) (T := TX0) (N := 4) hx hb hts iX0 hown hK hP 0 rfl rfl 0 (by decide) (hts _ q139) (fun _ h9 => h9) rfl dX0_tryEdit_95 ?_
            refine lv_iload_n hx hb dX0_tryEdit_98 rfl (lv_at hl 2 rfl) ?_
            refine lv_iconst (v := (nI 0)) hx hb dX0_tryEdit_99 (by decide) ?_
            refine lv_iconst (v := (-1 : Int32)) hx hb dX0_tryEdit_100 (by decide) ?_
            refine lv_aload_n hx hb dX0_tryEdit_101 rfl (lv_at hl 1 rfl) ?_
            refine va_get (D := E.1) (ci := 0) (v := .ref (a_mix 0)) (C := RX0) (T := TX0) (N := 4) hx hb hts iX0 hown hK hP 0 rfl rfl 1 (by decide) (hts _ q140) (fun _ h9 => h9) rfl dX0_tryEdit_102 ?_
            obtain ⟨_u, hr20, h⟩ := ob h
            refine px_Vp (As := []) (rest := [.int (-1 : Int32), .int (nI 0), .int x1, .ref (a_forest 0)]) (gs := ([gX0 E a (a_forest 0) (a_mix 0) v_reason v_detail, gX5 E a_mix w18 mix_conflictCount mix_lowest, gX1 E a_forest φ_forest] : List va_W)) (gc := ([gX5 E a_mix w18 mix_conflictCount mix_lowest] : List va_W)) ⟨hx, hb, hml, hown, hts⟩ (c5_amounts l E a_mix   (w18) (mix_conflictCount) (mix_lowest)  hr20) (cwV 0 hts (ws_v q315 q316 q317 q22 q318) rfl rfl rfl hdV_X5_amounts (by rw [hR]; exact ⟨Nat.le_of_ble_eq_true rfl, Nat.le_of_ble_eq_true rfl⟩)) hK hN hP hD [1] rfl (by decide) 0 5 rfl rfl rfl rfl hl.1 rfl (Nat.le_of_ble_eq_true rfl) dX0_tryEdit_105 (by rw [hR]; exact ⟨Nat.le_of_ble_eq_true rfl, Nat.le_of_ble_eq_true rfl⟩) ?_
            refine W.eq (g2 := F0 m 108 ls [.ref (a_mix 1), .int (-1 : Int32), .int (nI 0), .int x1, .ref (a_forest 0)]) rfl ?_
            obtain ⟨⟨r21, w22⟩, hr23, h⟩ := ob h
            dsimp only at h
            refine px_V (As := [.int x1, .int (nI 0), .int (-1 : Int32), .ref (a_mix 1)]) (rest := []) (gs := ([gX0 E a (a_forest 0) (a_mix 0) v_reason v_detail, gX5 E a_mix w18 mix_conflictCount mix_lowest, gX1 E a_forest φ_forest] : List va_W)) (gr := ([gX0 E a (a_forest 0) (a_mix 0) v_reason v_detail] : List va_W)) (gc := ([gX1 E a_forest φ_forest, gX5 E a_mix w18 mix_conflictCount mix_lowest] : List va_W)) (g1 := ([gX1 E a_forest w22, gX5 E a_mix w18 mix_conflictCount mix_lowest] : List va_W)) (g2 := ([gX0 E a (a_forest 0) (a_mix 0) v_reason v_detail, gX5 E a_mix w18 mix_conflictCount mix_lowest, gX1 E a_forest w22] : List va_W)) ⟨hx, hb, hml, hown, hts⟩ (c1_addCommit l E a_forest a_mix  (x1) ((nI 0)) ((-1 : Int32)) (φ_forest) (w18) (mix_conflictCount) (mix_lowest) r21 w22 hr23) (cwV 4 hts (ws_v q319 q320 q321 q19 q322) rfl rfl rfl hdV_X1_addCommit (by rw [hR]; exact ⟨Nat.le_of_ble_eq_true rfl, Nat.le_of_ble_eq_true rfl⟩)) hK hN hP hD hS hA [0] [2, 1] [0, 2, 1] rfl rfl (by decide) (by decide) rfl (by decide) 0 1 rfl rfl rfl rfl hl.1 rfl (Nat.le_of_ble_eq_true rfl) dX0_tryEdit_108 (by rw [hR]; exact ⟨Nat.le_of_ble_eq_true rfl, Nat.le_of_ble_eq_true rfl⟩) (fun H locs hP hD hS => ?_)
            refine W.eq (g2 := F0 m 111 ls [.int r21]) rfl ?_
            cases h
            exact px_eWi hA0 hQ hP hD hS hx hb hr hlocks dX0_tryEdit_111
          · rw [if_neg c17] at h
            refine lv_aload_n hx hb dX0_tryEdit_71 rfl (lv_at hl 1 rfl) ?_
            refine lv_iconst (v := (nI 1)) hx hb dX0_tryEdit_72 (by decide) ?_
            refine lv_bipush (v := (nI 24)) hx hb dX0_tryEdit_73 (by decide) ?_
            obtain ⟨⟨r24, w25, w26⟩, hr27, h⟩ := ob h
            dsimp only at h
            refine px_V (As := [.int (nI 1), .int (nI 24)]) (rest := []) (gs := ([gX0 E a (a_forest 0) (a_mix 0) v_reason v_detail, gX5 E a_mix mix_row mix_conflictCount mix_lowest, gX1 E a_forest φ_forest] : List va_W)) (gr := ([gX5 E a_mix mix_row mix_conflictCount mix_lowest, gX1 E a_forest φ_forest] : List va_W)) (gc := ([gX0 E a (a_forest 0) (a_mix 0) v_reason v_detail] : List va_W)) (g1 := ([gX0 E a (a_forest 0) (a_mix 0) w25 w26] : List va_W)) (g2 := ([gX0 E a (a_forest 0) (a_mix 0) w25 w26, gX5 E a_mix mix_row mix_conflictCount mix_lowest, gX1 E a_forest φ_forest] : List va_W)) ⟨hx, hb, hml, hown, hts⟩ (c0_refuse l E a (a_forest 0) (a_mix 0) ((nI 1)) ((nI 24)) (v_reason) (v_detail) r24 w25 w26 hr27) (cwV 2 hts (ws_v q302 q304 q0 q21 q305) rfl rfl rfl hdV_X0_refuse (by rw [hR]; exact ⟨Nat.le_of_ble_eq_true rfl, Nat.le_of_ble_eq_true rfl⟩)) hK hN hP hD hS hA [1, 2] [0] [2, 0, 1] rfl rfl (by decide) (by decide) rfl (by decide) 0 0 rfl rfl rfl rfl hl.1 rfl (Nat.le_of_ble_eq_true rfl) dX0_tryEdit_75 (by rw [hR]; exact ⟨Nat.le_of_ble_eq_true rfl, Nat.le_of_ble_eq_true rfl⟩) (fun H locs hP hD hS => ?_)
            refine W.eq (g2 := F0 m 78 ls [.int r24]) rfl ?_
            cases h
            exact px_eWi hA0 hQ hP hD hS hx hb hr hlocks dX0_tryEdit_78
        · rw [if_pos c14] at h
          refine lv_aload_n hx hb dX0_tryEdit_54 rfl (lv_at hl 1 rfl) ?_
          refine lv_iconst (v := (nI 2)) hx hb dX0_tryEdit_55 (by decide) ?_
          refine lv_iload_n hx hb dX0_tryEdit_56 rfl (lv_at hl 4 rfl) ?_
          obtain ⟨⟨r28, w29, w30⟩, hr31, h⟩ := ob h
          dsimp only at h
          refine px_V (As := [.int (nI 2), .int x3]) (rest := []) (gs := ([gX0 E a (a_forest 0) (a_mix 0) v_reason v_detail, gX5 E a_mix mix_row mix_conflictCount mix_lowest, gX1 E a_forest φ_forest] : List va_W)) (gr := ([gX5 E a_mix mix_row mix_conflictCount mix_lowest, gX1 E a_forest φ_forest] : List va_W)) (gc := ([gX0 E a (a_forest 0) (a_mix 0) v_reason v_detail] : List va_W)) (g1 := ([gX0 E a (a_forest 0) (a_mix 0) w29 w30] : List va_W)) (g2 := ([gX0 E a (a_forest 0) (a_mix 0) w29 w30, gX5 E a_mix mix_row mix_conflictCount mix_lowest, gX1 E a_forest φ_forest] : List va_W)) ⟨hx, hb, hml, hown, hts⟩ (c0_refuse l E a (a_forest 0) (a_mix 0) ((nI 2)) (x3) (v_reason) (v_detail) r28 w29 w30 hr31) (cwV 2 hts (ws_v q302 q304 q0 q21 q305) rfl rfl rfl hdV_X0_refuse (by rw [hR]; exact ⟨Nat.le_of_ble_eq_true rfl, Nat.le_of_ble_eq_true rfl⟩)) hK hN hP hD hS hA [1, 2] [0] [2, 0, 1] rfl rfl (by decide) (by decide) rfl (by decide) 0 0 rfl rfl rfl rfl hl.1 rfl (Nat.le_of_ble_eq_true rfl) dX0_tryEdit_57 (by rw [hR]; exact ⟨Nat.le_of_ble_eq_true rfl, Nat.le_of_ble_eq_true rfl⟩) (fun H locs hP hD hS => ?_)
          refine W.eq (g2 := F0 m 60 ls [.int r28]) rfl ?_
          cases h
          exact px_eWi hA0 hQ hP hD hS hx hb hr hlocks dX0_tryEdit_60
      · rw [if_pos c9] at h
        refine lv_bipush (v := (-2 : Int32)) hx hb dX0_tryEdit_27 (by decide) ?_
        cases h
        exact px_eWi hA0 hQ hP hD hS hx hb hr hlocks dX0_tryEdit_29
    · rw [if_pos c6] at h
      refine lv_iconst (v := (-1 : Int32)) hx hb dX0_tryEdit_18 (by decide) ?_
      cases h
      exact px_eWi hA0 hQ hP hD hS hx hb hr hlocks dX0_tryEdit_19
def f0_tryFork (x1 : Int32) (v_reason : Int32) (v_detail : Int32) (φ_forest : Fo) : Option (Int32 × Int32 × Int32 × Fo) := ((f1_isBranch (x1) (φ_forest)).bind fun r1 => (if (b2i r1) = 0 then (some ((-1 : Int32), v_reason, v_detail, φ_forest)) else ((f1_branchCount (φ_forest)).bind fun r4 => (if r4 < (nI 5) then ((f1_tipOf (x1) (φ_forest)).bind fun r7 => ((f1_addBranch (r7) (φ_forest)).bind fun (r9, w10) => (some (r9, v_reason, v_detail, w10)))) else ((f0_refuse ((nI 1)) ((nI 5)) (v_reason) (v_detail)).bind fun (r12, w13, w14) => (some (r12, w13, w14, φ_forest)))))))
set_option maxHeartbeats 4000000 in
set_option maxRecDepth 100000 in
theorem c0_tryFork (l : Launch) (E : PE) (a : Nat → Nat) (a_forest : Nat → Nat) (r_this_mix : Nat) (x1 : Int32) (v_reason : Int32) (v_detail : Int32) (φ_forest : Fo) (r : Int32) (z_this_reason : Int32) (z_this_detail : Int32) (z_forest_φ : Fo) (h : f0_tryFork x1 v_reason v_detail φ_forest = some (r, z_this_reason, z_this_detail, z_forest_φ)) : MW l yX0_tryFork cX0_tryFork 2 (some .int) { frames := 1, cells := 0, slots := 0, locals := 22 } E [.ref (a 0), .int x1] ([gX0 E a (a_forest 0) r_this_mix v_reason v_detail, gX1 E a_forest φ_forest] : List va_W).flatten 0 0 (some (.int r)) ([gX0 E a (a_forest 0) r_this_mix z_this_reason z_this_detail, gX1 E a_forest z_forest_φ] : List va_W).flatten := by
  refine px_startW (by decide +kernel) (Nat.le_of_ble_eq_true rfl) ?_
  intro p e s m args below meth c R Q A ls hC hA0 hQ
  obtain ⟨hx, hb, hr, hml, hts, hown, hlocks, hR, hK, hN, hP, hD, hA, hl, hin⟩ := hC
  have hl : lv_has ls 2 [(0, .ref (a 0)), (1, .int x1)] := hl
  suffices key : ∀ (H : Heap) (locs : List Loc), va_P E.1 vwCl ([gX0 E a (a_forest 0) r_this_mix v_reason v_detail, gX1 E a_forest φ_forest] : List va_W).flatten H → va_S A s.heap H locs → W p l e R s m args below meth c H locs 0 0 Q (F0 m 0 ls []) from key s.heap [] hP va_S.rf
  unfold f0_tryFork at h
  intro H locs hP hS
  refine lv_aload_n hx hb dX0_tryFork_0 rfl (lv_at hl 0 rfl) ?_
  refine va_get (D := E.1) (ci := 0) (v := .ref (a_forest 0)) (C := RX0) (T := TX0) (N := 4) hx hb hts iX0 hown hK hP 0 rfl rfl 0 (by decide) (hts _ q139) (fun _ h9 => h9) rfl dX0_tryFork_1 ?_
  refine lv_iload_n hx hb dX0_tryFork_4 rfl (lv_at hl 1 rfl) ?_
  obtain ⟨r1, hr2, h⟩ := ob h
  refine px_Vp (As := [.int x1]) (rest := []) (gs := ([gX0 E a (a_forest 0) r_this_mix v_reason v_detail, gX1 E a_forest φ_forest] : List va_W)) (gc := ([gX1 E a_forest φ_forest] : List va_W)) ⟨hx, hb, hml, hown, hts⟩ (c1_isBranch l E a_forest  (x1) (φ_forest) r1 hr2) (cwV 1 hts (ws_v q284 q285 q286 q19 q287) rfl rfl rfl hdV_X1_isBranch (by rw [hR]; exact ⟨Nat.le_of_ble_eq_true rfl, Nat.le_of_ble_eq_true rfl⟩)) hK hN hP hD [1] rfl (by decide) 0 1 rfl rfl rfl rfl hl.1 rfl (Nat.le_of_ble_eq_true rfl) dX0_tryFork_5 (by rw [hR]; exact ⟨Nat.le_of_ble_eq_true rfl, Nat.le_of_ble_eq_true rfl⟩) ?_
  refine W.eq (g2 := F0 m 8 ls [.int (b2i r1)]) rfl ?_
  refine lv_if_ne (tgt := 13) hx hb dX0_tryFork_8 (by decide) (fun c3 => ?_) (fun c3 => ?_)
  · rw [if_neg c3] at h
    refine lv_aload_n hx hb dX0_tryFork_13 rfl (lv_at hl 0 rfl) ?_
    refine va_get (D := E.1) (ci := 0) (v := .ref (a_forest 0)) (C := RX0) (T := TX0) (N := 4) hx hb hts iX0 hown hK hP 0 rfl rfl 0 (by decide) (hts _ q139) (fun _ h9 => h9) rfl dX0_tryFork_14 ?_
    obtain ⟨r4, hr5, h⟩ := ob h
    refine px_Vp (As := []) (rest := []) (gs := ([gX0 E a (a_forest 0) r_this_mix v_reason v_detail, gX1 E a_forest φ_forest] : List va_W)) (gc := ([gX1 E a_forest φ_forest] : List va_W)) ⟨hx, hb, hml, hown, hts⟩ (c1_branchCount l E a_forest   (φ_forest) r4 hr5) (cwV 0 hts (ws_v q467 q468 q469 q19 q470) rfl rfl rfl hdV_X1_branchCount (by rw [hR]; exact ⟨Nat.le_of_ble_eq_true rfl, Nat.le_of_ble_eq_true rfl⟩)) hK hN hP hD [1] rfl (by decide) 0 1 rfl rfl rfl rfl hl.1 rfl (Nat.le_of_ble_eq_true rfl) dX0_tryFork_17 (by rw [hR]; exact ⟨Nat.le_of_ble_eq_true rfl, Nat.le_of_ble_eq_true rfl⟩) ?_
    refine W.eq (g2 := F0 m 20 ls [.int r4]) rfl ?_
    refine lv_iconst (v := (nI 5)) hx hb dX0_tryFork_20 (by decide) ?_
    refine lv_icmp_lt (tgt := 31) hx hb dX0_tryFork_21 (by decide) (fun c6 => ?_) (fun c6 => ?_)
    · rw [if_pos c6] at h
      refine lv_aload_n hx hb dX0_tryFork_31 rfl (lv_at hl 0 rfl) ?_
      refine va_get (D := E.1) (ci := 0) (v := .ref (a_forest 0)) (C := RX0) (T := TX0) (N := 4) hx hb hts iX0 hown hK hP 0 rfl rfl 0 (by decide) (hts _ q139) (fun _ h9 => h9) rfl dX0_tryFork_32 ?_
      refine lv_aload_n hx hb dX0_tryFork_35 rfl (lv_at hl 0 rfl) ?_
      refine va_get (D := E.1) (ci := 0) (v := .ref (a_forest 0)) (C := RX0) (T := TX0) (N := 4) hx hb hts iX0 hown hK hP 0 rfl rfl 0 (by decide) (hts _ q139) (fun _ h9 => h9) rfl dX0_tryFork_36 ?_
      refine lv_iload_n hx hb dX0_tryFork_39 rfl (lv_at hl 1 rfl) ?_
      obtain ⟨r7, hr8, h⟩ := ob h
      refine px_Vp (As := [.int x1]) (rest := [.ref (a_forest 0)]) (gs := ([gX0 E a (a_forest 0) r_this_mix v_reason v_detail, gX1 E a_forest φ_forest] : List va_W)) (gc := ([gX1 E a_forest φ_forest] : List va_W)) ⟨hx, hb, hml, hown, hts⟩ (c1_tipOf l E a_forest  (x1) (φ_forest) r7 hr8) (cwV 1 hts (ws_v q294 q295 q296 q19 q297) rfl rfl rfl hdV_X1_tipOf (by rw [hR]; exact ⟨Nat.le_of_ble_eq_true rfl, Nat.le_of_ble_eq_true rfl⟩)) hK hN hP hD [1] rfl (by decide) 0 1 rfl rfl rfl rfl hl.1 rfl (Nat.le_of_ble_eq_true rfl) dX0_tryFork_40 (by rw [hR]; exact ⟨Nat.le_of_ble_eq_true rfl, Nat.le_of_ble_eq_true rfl⟩) ?_
      refine W.eq (g2 := F0 m 43 ls [.int r7, .ref (a_forest 0)]) rfl ?_
      obtain ⟨⟨r9, w10⟩, hr11, h⟩ := ob h
      dsimp only at h
      refine px_V (As := [.int r7]) (rest := []) (gs := ([gX0 E a (a_forest 0) r_this_mix v_reason v_detail, gX1 E a_forest φ_forest] : List va_W)) (gr := ([gX0 E a (a_forest 0) r_this_mix v_reason v_detail] : List va_W)) (gc := ([gX1 E a_forest φ_forest] : List va_W)) (g1 := ([gX1 E a_forest w10] : List va_W)) (g2 := ([gX0 E a (a_forest 0) r_this_mix v_reason v_detail, gX1 E a_forest w10] : List va_W)) ⟨hx, hb, hml, hown, hts⟩ (c1_addBranch l E a_forest  (r7) (φ_forest) r9 w10 hr11) (cwV 1 hts (ws_v q471 q472 q473 q19 q474) rfl rfl rfl hdV_X1_addBranch (by rw [hR]; exact ⟨Nat.le_of_ble_eq_true rfl, Nat.le_of_ble_eq_true rfl⟩)) hK hN hP hD hS hA [0] [1] [0, 1] rfl rfl (by decide) (by decide) rfl (by decide) 0 1 rfl rfl rfl rfl hl.1 rfl (Nat.le_of_ble_eq_true rfl) dX0_tryFork_43 (by rw [hR]; exact ⟨Nat.le_of_ble_eq_true rfl, Nat.le_of_ble_eq_true rfl⟩) (fun H locs hP hD hS => ?_)
      refine W.eq (g2 := F0 m 46 ls [.int r9]) rfl ?_
      cases h
      exact px_eWi hA0 hQ hP hD hS hx hb hr hlocks dX0_tryFork_46
    · rw [if_neg c6] at h
      refine lv_aload_n hx hb dX0_tryFork_24 rfl (lv_at hl 0 rfl) ?_
      refine lv_iconst (v := (nI 1)) hx hb dX0_tryFork_25 (by decide) ?_
      refine lv_iconst (v := (nI 5)) hx hb dX0_tryFork_26 (by decide) ?_
      obtain ⟨⟨r12, w13, w14⟩, hr15, h⟩ := ob h
      dsimp only at h
      refine px_V (As := [.int (nI 1), .int (nI 5)]) (rest := []) (gs := ([gX0 E a (a_forest 0) r_this_mix v_reason v_detail, gX1 E a_forest φ_forest] : List va_W)) (gr := ([gX1 E a_forest φ_forest] : List va_W)) (gc := ([gX0 E a (a_forest 0) r_this_mix v_reason v_detail] : List va_W)) (g1 := ([gX0 E a (a_forest 0) r_this_mix w13 w14] : List va_W)) (g2 := ([gX0 E a (a_forest 0) r_this_mix w13 w14, gX1 E a_forest φ_forest] : List va_W)) ⟨hx, hb, hml, hown, hts⟩ (c0_refuse l E a (a_forest 0) r_this_mix ((nI 1)) ((nI 5)) (v_reason) (v_detail) r12 w13 w14 hr15) (cwV 2 hts (ws_v q302 q304 q0 q21 q305) rfl rfl rfl hdV_X0_refuse (by rw [hR]; exact ⟨Nat.le_of_ble_eq_true rfl, Nat.le_of_ble_eq_true rfl⟩)) hK hN hP hD hS hA [1] [0] [1, 0] rfl rfl (by decide) (by decide) rfl (by decide) 0 0 rfl rfl rfl rfl hl.1 rfl (Nat.le_of_ble_eq_true rfl) dX0_tryFork_27 (by rw [hR]; exact ⟨Nat.le_of_ble_eq_true rfl, Nat.le_of_ble_eq_true rfl⟩) (fun H locs hP hD hS => ?_)
      refine W.eq (g2 := F0 m 30 ls [.int r12]) rfl ?_
      cases h
      exact px_eWi hA0 hQ hP hD hS hx hb hr hlocks dX0_tryFork_30
  · rw [if_pos c3] at h
    refine lv_iconst (v := (-1 : Int32)) hx hb dX0_tryFork_11 (by decide) ?_
    cases h
    exact px_eWi hA0 hQ hP hD hS hx hb hr hlocks dX0_tryFork_12
def f0_tryReset (x1 : Int32) (x2 : Int32) (v_reason : Int32) (v_detail : Int32) (φ_forest : Fo) : Option (Int32 × Int32 × Int32 × Fo) := ((f1_isBranch (x1) (φ_forest)).bind fun r1 => (if (b2i r1) = 0 then (some ((-1 : Int32), v_reason, v_detail, φ_forest)) else ((f1_isCommit (x2) (φ_forest)).bind fun r4 => (if (b2i r4) = 0 then (some ((-1 : Int32), v_reason, v_detail, φ_forest)) else ((f1_tipOf (x1) (φ_forest)).bind fun r7 => (if r7 = x2 then ((f0_refuse ((nI 3)) (r7) (v_reason) (v_detail)).bind fun (r12, w13, w14) => (some (r12, w13, w14, φ_forest))) else ((f1_moveTip (x1) (x2) (φ_forest)).bind fun w10 => (some (r7, v_reason, v_detail, w10)))))))))
set_option maxHeartbeats 4000000 in
set_option maxRecDepth 100000 in
theorem c0_tryReset (l : Launch) (E : PE) (a : Nat → Nat) (a_forest : Nat → Nat) (r_this_mix : Nat) (x1 : Int32) (x2 : Int32) (v_reason : Int32) (v_detail : Int32) (φ_forest : Fo) (r : Int32) (z_this_reason : Int32) (z_this_detail : Int32) (z_forest_φ : Fo) (h : f0_tryReset x1 x2 v_reason v_detail φ_forest = some (r, z_this_reason, z_this_detail, z_forest_φ)) : MW l yX0_tryReset cX0_tryReset 4 (some .int) { frames := 2, cells := 0, slots := 0, locals := 43 } E [.ref (a 0), .int x1, .int x2] ([gX0 E a (a_forest 0) r_this_mix v_reason v_detail, gX1 E a_forest φ_forest] : List va_W).flatten 0 0 (some (.int r)) ([gX0 E a (a_forest 0) r_this_mix z_this_reason z_this_detail, gX1 E a_forest z_forest_φ] : List va_W).flatten := by
  refine px_startW (by decide +kernel) (Nat.le_of_ble_eq_true rfl) ?_
  intro p e s m args below meth c R Q A ls hC hA0 hQ
  obtain ⟨hx, hb, hr, hml, hts, hown, hlocks, hR, hK, hN, hP, hD, hA, hl, hin⟩ := hC
  have hl : lv_has ls 4 [(0, .ref (a 0)), (1, .int x1), (2, .int x2)] := hl
  suffices key : ∀ (H : Heap) (locs : List Loc), va_P E.1 vwCl ([gX0 E a (a_forest 0) r_this_mix v_reason v_detail, gX1 E a_forest φ_forest] : List va_W).flatten H → va_S A s.heap H locs → W p l e R s m args below meth c H locs 0 0 Q (F0 m 0 ls []) from key s.heap [] hP va_S.rf
  unfold f0_tryReset at h
  intro H locs hP hS
  refine lv_aload_n hx hb dX0_tryReset_0 rfl (lv_at hl 0 rfl) ?_
  refine va_get (D := E.1) (ci := 0) (v := .ref (a_forest 0)) (C := RX0) (T := TX0) (N := 4) hx hb hts iX0 hown hK hP 0 rfl rfl 0 (by decide) (hts _ q139) (fun _ h9 => h9) rfl dX0_tryReset_1 ?_
  refine lv_iload_n hx hb dX0_tryReset_4 rfl (lv_at hl 1 rfl) ?_
  obtain ⟨r1, hr2, h⟩ := ob h
  refine px_Vp (As := [.int x1]) (rest := []) (gs := ([gX0 E a (a_forest 0) r_this_mix v_reason v_detail, gX1 E a_forest φ_forest] : List va_W)) (gc := ([gX1 E a_forest φ_forest] : List va_W)) ⟨hx, hb, hml, hown, hts⟩ (c1_isBranch l E a_forest  (x1) (φ_forest) r1 hr2) (cwV 1 hts (ws_v q284 q285 q286 q19 q287) rfl rfl rfl hdV_X1_isBranch (by rw [hR]; exact ⟨Nat.le_of_ble_eq_true rfl, Nat.le_of_ble_eq_true rfl⟩)) hK hN hP hD [1] rfl (by decide) 0 1 rfl rfl rfl rfl hl.1 rfl (Nat.le_of_ble_eq_true rfl) dX0_tryReset_5 (by rw [hR]; exact ⟨Nat.le_of_ble_eq_true rfl, Nat.le_of_ble_eq_true rfl⟩) ?_
  refine W.eq (g2 := F0 m 8 ls [.int (b2i r1)]) rfl ?_
  refine lv_if_eq (tgt := 22) hx hb dX0_tryReset_8 (by decide) (fun c3 => ?_) (fun c3 => ?_)
  · rw [if_pos c3] at h
    refine lv_iconst (v := (-1 : Int32)) hx hb dX0_tryReset_22 (by decide) ?_
    cases h
    exact px_eWi hA0 hQ hP hD hS hx hb hr hlocks dX0_tryReset_23
  · rw [if_neg c3] at h
    refine lv_aload_n hx hb dX0_tryReset_11 rfl (lv_at hl 0 rfl) ?_
    refine va_get (D := E.1) (ci := 0) (v := .ref (a_forest 0)) (C := RX0) (T := TX0) (N := 4) hx hb hts iX0 hown hK hP 0 rfl rfl 0 (by decide) (hts _ q139) (fun _ h9 => h9) rfl dX0_tryReset_12 ?_
    refine lv_iload_n hx hb dX0_tryReset_15 rfl (lv_at hl 2 rfl) ?_
    obtain ⟨r4, hr5, h⟩ := ob h
    refine px_Vp (As := [.int x2]) (rest := []) (gs := ([gX0 E a (a_forest 0) r_this_mix v_reason v_detail, gX1 E a_forest φ_forest] : List va_W)) (gc := ([gX1 E a_forest φ_forest] : List va_W)) ⟨hx, hb, hml, hown, hts⟩ (c1_isCommit l E a_forest  (x2) (φ_forest) r4 hr5) (cwV 1 hts (ws_v q486 q487 q488 q19 q489) rfl rfl rfl hdV_X1_isCommit (by rw [hR]; exact ⟨Nat.le_of_ble_eq_true rfl, Nat.le_of_ble_eq_true rfl⟩)) hK hN hP hD [1] rfl (by decide) 0 1 rfl rfl rfl rfl hl.1 rfl (Nat.le_of_ble_eq_true rfl) dX0_tryReset_16 (by rw [hR]; exact ⟨Nat.le_of_ble_eq_true rfl, Nat.le_of_ble_eq_true rfl⟩) ?_
    refine W.eq (g2 := F0 m 19 ls [.int (b2i r4)]) rfl ?_
    refine lv_if_ne (tgt := 24) hx hb dX0_tryReset_19 (by decide) (fun c6 => ?_) (fun c6 => ?_)
    · rw [if_neg c6] at h
      refine lv_aload_n hx hb dX0_tryReset_24 rfl (lv_at hl 0 rfl) ?_
      refine va_get (D := E.1) (ci := 0) (v := .ref (a_forest 0)) (C := RX0) (T := TX0) (N := 4) hx hb hts iX0 hown hK hP 0 rfl rfl 0 (by decide) (hts _ q139) (fun _ h9 => h9) rfl dX0_tryReset_25 ?_
      refine lv_iload_n hx hb dX0_tryReset_28 rfl (lv_at hl 1 rfl) ?_
      obtain ⟨r7, hr8, h⟩ := ob h
      refine px_Vp (As := [.int x1]) (rest := []) (gs := ([gX0 E a (a_forest 0) r_this_mix v_reason v_detail, gX1 E a_forest φ_forest] : List va_W)) (gc := ([gX1 E a_forest φ_forest] : List va_W)) ⟨hx, hb, hml, hown, hts⟩ (c1_tipOf l E a_forest  (x1) (φ_forest) r7 hr8) (cwV 1 hts (ws_v q294 q295 q296 q19 q297) rfl rfl rfl hdV_X1_tipOf (by rw [hR]; exact ⟨Nat.le_of_ble_eq_true rfl, Nat.le_of_ble_eq_true rfl⟩)) hK hN hP hD [1] rfl (by decide) 0 1 rfl rfl rfl rfl hl.1 rfl (Nat.le_of_ble_eq_true rfl) dX0_tryReset_29 (by rw [hR]; exact ⟨Nat.le_of_ble_eq_true rfl, Nat.le_of_ble_eq_true rfl⟩) ?_
      refine W.eq (g2 := F0 m 32 ls [.int r7]) rfl ?_
      refine lv_istore_n (lv' := [(3, .int r7), (0, .ref (a 0)), (1, .int x1), (2, .int x2)]) hx hb dX0_tryReset_32 rfl hl (by decide) rfl (fun ls hl => ?_)
      refine lv_iload_n hx hb dX0_tryReset_33 rfl (lv_at hl 0 rfl) ?_
      refine lv_iload_n hx hb dX0_tryReset_34 rfl (lv_at hl 3 rfl) ?_
      refine lv_icmp_ne (tgt := 45) hx hb dX0_tryReset_35 (by decide) (fun c9 => ?_) (fun c9 => ?_)
      · rw [if_neg c9] at h
        refine lv_aload_n hx hb dX0_tryReset_45 rfl (lv_at hl 1 rfl) ?_
        refine va_get (D := E.1) (ci := 0) (v := .ref (a_forest 0)) (C := RX0) (T := TX0) (N := 4) hx hb hts iX0 hown hK hP 0 rfl rfl 0 (by decide) (hts _ q139) (fun _ h9 => h9) rfl dX0_tryReset_46 ?_
        refine lv_iload_n hx hb dX0_tryReset_49 rfl (lv_at hl 2 rfl) ?_
        refine lv_iload_n hx hb dX0_tryReset_50 rfl (lv_at hl 3 rfl) ?_
        obtain ⟨w10, hr11, h⟩ := ob h
        refine px_V (As := [.int x1, .int x2]) (rest := []) (gs := ([gX0 E a (a_forest 0) r_this_mix v_reason v_detail, gX1 E a_forest φ_forest] : List va_W)) (gr := ([gX0 E a (a_forest 0) r_this_mix v_reason v_detail] : List va_W)) (gc := ([gX1 E a_forest φ_forest] : List va_W)) (g1 := ([gX1 E a_forest w10] : List va_W)) (g2 := ([gX0 E a (a_forest 0) r_this_mix v_reason v_detail, gX1 E a_forest w10] : List va_W)) ⟨hx, hb, hml, hown, hts⟩ (c1_moveTip l E a_forest  (x1) (x2) (φ_forest) w10 hr11) (cwV 2 hts (ws_v q490 q491 q492 q19 q493) rfl rfl rfl hdV_X1_moveTip (by rw [hR]; exact ⟨Nat.le_of_ble_eq_true rfl, Nat.le_of_ble_eq_true rfl⟩)) hK hN hP hD hS hA [0] [1] [0, 1] rfl rfl (by decide) (by decide) rfl (by decide) 0 1 rfl rfl rfl rfl hl.1 rfl (Nat.le_of_ble_eq_true rfl) dX0_tryReset_51 (by rw [hR]; exact ⟨Nat.le_of_ble_eq_true rfl, Nat.le_of_ble_eq_true rfl⟩) (fun H locs hP hD hS => ?_)
        refine W.eq (g2 := F0 m 54 ls []) rfl ?_
        refine lv_iload_n hx hb dX0_tryReset_54 rfl (lv_at hl 0 rfl) ?_
        cases h
        exact px_eWi hA0 hQ hP hD hS hx hb hr hlocks dX0_tryReset_55
      · rw [if_pos c9] at h
        refine lv_aload_n hx hb dX0_tryReset_38 rfl (lv_at hl 1 rfl) ?_
        refine lv_iconst (v := (nI 3)) hx hb dX0_tryReset_39 (by decide) ?_
        refine lv_iload_n hx hb dX0_tryReset_40 rfl (lv_at hl 0 rfl) ?_
        obtain ⟨⟨r12, w13, w14⟩, hr15, h⟩ := ob h
        dsimp only at h
        refine px_V (As := [.int (nI 3), .int r7]) (rest := []) (gs := ([gX0 E a (a_forest 0) r_this_mix v_reason v_detail, gX1 E a_forest φ_forest] : List va_W)) (gr := ([gX1 E a_forest φ_forest] : List va_W)) (gc := ([gX0 E a (a_forest 0) r_this_mix v_reason v_detail] : List va_W)) (g1 := ([gX0 E a (a_forest 0) r_this_mix w13 w14] : List va_W)) (g2 := ([gX0 E a (a_forest 0) r_this_mix w13 w14, gX1 E a_forest φ_forest] : List va_W)) ⟨hx, hb, hml, hown, hts⟩ (c0_refuse l E a (a_forest 0) r_this_mix ((nI 3)) (r7) (v_reason) (v_detail) r12 w13 w14 hr15) (cwV 2 hts (ws_v q302 q304 q0 q21 q305) rfl rfl rfl hdV_X0_refuse (by rw [hR]; exact ⟨Nat.le_of_ble_eq_true rfl, Nat.le_of_ble_eq_true rfl⟩)) hK hN hP hD hS hA [1] [0] [1, 0] rfl rfl (by decide) (by decide) rfl (by decide) 0 0 rfl rfl rfl rfl hl.1 rfl (Nat.le_of_ble_eq_true rfl) dX0_tryReset_41 (by rw [hR]; exact ⟨Nat.le_of_ble_eq_true rfl, Nat.le_of_ble_eq_true rfl⟩) (fun H locs hP hD hS => ?_)
        refine W.eq (g2 := F0 m 44 ls [.int r12]) rfl ?_
        cases h
        exact px_eWi hA0 hQ hP hD hS hx hb hr hlocks dX0_tryReset_44
    · rw [if_pos c6] at h
      refine lv_iconst (v := (-1 : Int32)) hx hb dX0_tryReset_22 (by decide) ?_
      cases h
      exact px_eWi hA0 hQ hP hD hS hx hb hr hlocks dX0_tryReset_23
def f0_tryMerge (x1 : Int32) (x2 : Int32) (x3 : Int32) (v_reason : Int32) (v_detail : Int32) (mix_row : AI) (mix_conflictCount : Int32) (mix_lowest : Int32) (φ_forest : Fo) : Option (Int32 × Int32 × Int32 × AI × Int32 × Int32 × Fo) := ((f1_isBranch (x1) (φ_forest)).bind fun r1 => (if (b2i r1) = 0 then (some ((-1 : Int32), v_reason, v_detail, mix_row, mix_conflictCount, mix_lowest, φ_forest)) else ((f1_isBranch (x2) (φ_forest)).bind fun r4 => (if (b2i r4) = 0 then (some ((-1 : Int32), v_reason, v_detail, mix_row, mix_conflictCount, mix_lowest, φ_forest)) else ((f8_isRule (x3)).bind fun r7 => (if (b2i r7) = 0 then (some ((-2 : Int32), v_reason, v_detail, mix_row, mix_conflictCount, mix_lowest, φ_forest)) else ((f1_tipOf (x1) (φ_forest)).bind fun r10 => ((f1_tipOf (x2) (φ_forest)).bind fun r12 => ((f1_hasInFamily (r10) (r12) (φ_forest)).bind fun r14 => (if (b2i r14) = 0 then ((f1_hasInFamily (r12) (r10) (φ_forest)).bind fun r17 => (if (b2i r17) = 0 then ((f1_commonGround (r10) (r12) (φ_forest)).bind fun r20 => ((f5_putTogether (r10) (r12) (r20) (x3) (mix_row) (mix_conflictCount) (mix_lowest) (φ_forest)).bind fun (w22, w23, w24) => ((f0_isStopped (x3) (w23)).bind fun r26 => (if (b2i r26) = 0 then ((f1_isFull (φ_forest)).bind fun r29 => (if (b2i r29) = 0 then ((f5_amounts ).bind fun _u => ((f1_addCommit (x1) ((nI 1)) (r12) (φ_forest) (w22)).bind fun (r33, w34) => (some (r33, v_reason, v_detail, w22, w23, w24, w34)))) else ((f0_refuse ((nI 1)) ((nI 24)) (v_reason) (v_detail)).bind fun (r36, w37, w38) => (some (r36, w37, w38, w22, w23, w24, φ_forest))))) else ((f5_lowestConflict (w24)).bind fun r40 => ((f0_refuse ((nI 5)) (r40) (v_reason) (v_detail)).bind fun (r42, w43, w44) => (some (r42, w43, w44, w22, w23, w24, φ_forest)))))))) else ((f1_moveTip (x1) (r12) (φ_forest)).bind fun w46 => (some (r12, v_reason, v_detail, mix_row, mix_conflictCount, mix_lowest, w46))))) else ((f0_refuse ((nI 4)) (r12) (v_reason) (v_detail)).bind fun (r48, w49, w50) => (some (r48, w49, w50, mix_row, mix_conflictCount, mix_lowest, φ_forest)))))))))))))
set_option maxHeartbeats 4000000 in
set_option maxRecDepth 100000 in
theorem c0_tryMerge (l : Launch) (E : PE) (a : Nat → Nat) (a_mix : Nat → Nat) (a_forest : Nat → Nat)  (x1 : Int32) (x2 : Int32) (x3 : Int32) (v_reason : Int32) (v_detail : Int32) (mix_row : AI) (mix_conflictCount : Int32) (mix_lowest : Int32) (φ_forest : Fo) (r : Int32) (z_this_reason : Int32) (z_this_detail : Int32) (z_mix_row : AI) (z_mix_conflictCount : Int32) (z_mix_lowest : Int32) (z_forest_φ : Fo) (h : f0_tryMerge x1 x2 x3 v_reason v_detail mix_row mix_conflictCount mix_lowest φ_forest = some (r, z_this_reason, z_this_detail, z_mix_row, z_mix_conflictCount, z_mix_lowest, z_forest_φ)) : MW l yX0_tryMerge cX0_tryMerge 6 (some .int) { frames := 2, cells := 0, slots := 0, locals := 51 } E [.ref (a 0), .int x1, .int x2, .int x3] ([gX0 E a (a_forest 0) (a_mix 0) v_reason v_detail, gX5 E a_mix mix_row mix_conflictCount mix_lowest, gX1 E a_forest φ_forest] : List va_W).flatten 0 0 (some (.int r)) ([gX0 E a (a_forest 0) (a_mix 0) z_this_reason z_this_detail, gX5 E a_mix z_mix_row z_mix_conflictCount z_mix_lowest, gX1 E a_forest z_forest_φ] : List va_W).flatten := by
  refine px_startW (by decide +kernel) (Nat.le_of_ble_eq_true rfl) ?_
  intro p e s m args below meth c R Q A ls hC hA0 hQ
  obtain ⟨hx, hb, hr, hml, hts, hown, hlocks, hR, hK, hN, hP, hD, hA, hl, hin⟩ := hC
  have hl : lv_has ls 6 [(0, .ref (a 0)), (1, .int x1), (2, .int x2), (3, .int x3)] := hl
  suffices key : ∀ (H : Heap) (locs : List Loc), va_P E.1 vwCl ([gX0 E a (a_forest 0) (a_mix 0) v_reason v_detail, gX5 E a_mix mix_row mix_conflictCount mix_lowest, gX1 E a_forest φ_forest] : List va_W).flatten H → va_S A s.heap H locs → W p l e R s m args below meth c H locs 0 0 Q (F0 m 0 ls []) from key s.heap [] hP va_S.rf
  unfold f0_tryMerge at h
  intro H locs hP hS
  refine lv_aload_n hx hb dX0_tryMerge_0 rfl (lv_at hl 0 rfl) ?_
  refine va_get (D := E.1) (ci := 0) (v := .ref (a_forest 0)) (C := RX0) (T := TX0) (N := 4) hx hb hts iX0 hown hK hP 0 rfl rfl 0 (by decide) (hts _ q139) (fun _ h9 => h9) rfl dX0_tryMerge_1 ?_
  refine lv_iload_n hx hb dX0_tryMerge_4 rfl (lv_at hl 1 rfl) ?_
  obtain ⟨r1, hr2, h⟩ := ob h
  refine px_Vp (As := [.int x1]) (rest := []) (gs := ([gX0 E a (a_forest 0) (a_mix 0) v_reason v_detail, gX5 E a_mix mix_row mix_conflictCount mix_lowest, gX1 E a_forest φ_forest] : List va_W)) (gc := ([gX1 E a_forest φ_forest] : List va_W)) ⟨hx, hb, hml, hown, hts⟩ (c1_isBranch l E a_forest  (x1) (φ_forest) r1 hr2) (cwV 1 hts (ws_v q284 q285 q286 q19 q287) rfl rfl rfl hdV_X1_isBranch (by rw [hR]; exact ⟨Nat.le_of_ble_eq_true rfl, Nat.le_of_ble_eq_true rfl⟩)) hK hN hP hD [2] rfl (by decide) 0 1 rfl rfl rfl rfl hl.1 rfl (Nat.le_of_ble_eq_true rfl) dX0_tryMerge_5 (by rw [hR]; exact ⟨Nat.le_of_ble_eq_true rfl, Nat.le_of_ble_eq_true rfl⟩) ?_
  refine W.eq (g2 := F0 m 8 ls [.int (b2i r1)]) rfl ?_
  refine lv_if_eq (tgt := 22) hx hb dX0_tryMerge_8 (by decide) (fun c3 => ?_) (fun c3 => ?_)
  · rw [if_pos c3] at h
    refine lv_iconst (v := (-1 : Int32)) hx hb dX0_tryMerge_22 (by decide) ?_
    cases h
    exact px_eWi hA0 hQ hP hD hS hx hb hr hlocks dX0_tryMerge_23
  · rw [if_neg c3] at h
    refine lv_aload_n hx hb dX0_tryMerge_11 rfl (lv_at hl 0 rfl) ?_
    refine va_get (D := E.1) (ci := 0) (v := .ref (a_forest 0)) (C := RX0) (T := TX0) (N := 4) hx hb hts iX0 hown hK hP 0 rfl rfl 0 (by decide) (hts _ q139) (fun _ h9 => h9) rfl dX0_tryMerge_12 ?_
    refine lv_iload_n hx hb dX0_tryMerge_15 rfl (lv_at hl 2 rfl) ?_
    obtain ⟨r4, hr5, h⟩ := ob h
    refine px_Vp (As := [.int x2]) (rest := []) (gs := ([gX0 E a (a_forest 0) (a_mix 0) v_reason v_detail, gX5 E a_mix mix_row mix_conflictCount mix_lowest, gX1 E a_forest φ_forest] : List va_W)) (gc := ([gX1 E a_forest φ_forest] : List va_W)) ⟨hx, hb, hml, hown, hts⟩ (c1_isBranch l E a_forest  (x2) (φ_forest) r4 hr5) (cwV 1 hts (ws_v q284 q285 q286 q19 q287) rfl rfl rfl hdV_X1_isBranch (by rw [hR]; exact ⟨Nat.le_of_ble_eq_true rfl, Nat.le_of_ble_eq_true rfl⟩)) hK hN hP hD [2] rfl (by decide) 0 1 rfl rfl rfl rfl hl.1 rfl (Nat.le_of_ble_eq_true rfl) dX0_tryMerge_16 (by rw [hR]; exact ⟨Nat.le_of_ble_eq_true rfl, Nat.le_of_ble_eq_true rfl⟩) ?_
    refine W.eq (g2 := F0 m 19 ls [.int (b2i r4)]) rfl ?_
    refine lv_if_ne (tgt := 24) hx hb dX0_tryMerge_19 (by decide) (fun c6 => ?_) (fun c6 => ?_)
    · rw [if_neg c6] at h
      refine lv_iload_n hx hb dX0_tryMerge_24 rfl (lv_at hl 3 rfl) ?_
      obtain ⟨r7, hr8, h⟩ := ob h
      refine px_SNp (As := [.int x3]) (rest := []) (gs := ([gX0 E a (a_forest 0) (a_mix 0) v_reason v_detail, gX5 E a_mix mix_row mix_conflictCount mix_lowest, gX1 E a_forest φ_forest] : List va_W)) (gc := ([] : List va_W)) ⟨hx, hb, hml, hown, hts⟩ (c8_isRule l E   (x3)  r7 hr8) ⟨va_cnB 1 hts (ws_g q561) rfl rfl rfl (hN _ (List.mem_of_getElem? (i := 3) rfl)) (hts _ q18) hdS_X8_isRule (by rw [hR]; exact ⟨Nat.le_of_ble_eq_true rfl, Nat.le_of_ble_eq_true rfl⟩), hts _ q560, trivial⟩ hK hN hP hD [] rfl (by decide) rfl hl.1 rfl (Nat.le_of_ble_eq_true rfl) dX0_tryMerge_25 (by rw [hR]; exact ⟨Nat.le_of_ble_eq_true rfl, Nat.le_of_ble_eq_true rfl⟩) ?_
      refine W.eq (g2 := F0 m 28 ls [.int (b2i r7)]) rfl ?_
      refine lv_if_ne (tgt := 34) hx hb dX0_tryMerge_28 (by decide) (fun c9 => ?_) (fun c9 => ?_)
      · rw [if_neg c9] at h
        refine lv_aload_n hx hb dX0_tryMerge_34 rfl (lv_at hl 0 rfl) ?_
        refine va_get (D := E.1) (ci := 0) (v := .ref (a_forest 0)) (C := RX0) (T := TX0) (N := 4) hx hb hts iX0 hown hK hP 0 rfl rfl 0 (by decide) (hts _ q139) (fun _ h9 => h9) rfl dX0_tryMerge_35 ?_
        refine lv_iload_n hx hb dX0_tryMerge_38 rfl (lv_at hl 1 rfl) ?_
        obtain ⟨r10, hr11, h⟩ := ob h
        refine px_Vp (As := [.int x1]) (rest := []) (gs := ([gX0 E a (a_forest 0) (a_mix 0) v_reason v_detail, gX5 E a_mix mix_row mix_conflictCount mix_lowest, gX1 E a_forest φ_forest] : List va_W)) (gc := ([gX1 E a_forest φ_forest] : List va_W)) ⟨hx, hb, hml, hown, hts⟩ (c1_tipOf l E a_forest  (x1) (φ_forest) r10 hr11) (cwV 1 hts (ws_v q294 q295 q296 q19 q297) rfl rfl rfl hdV_X1_tipOf (by rw [hR]; exact ⟨Nat.le_of_ble_eq_true rfl, Nat.le_of_ble_eq_true rfl⟩)) hK hN hP hD [2] rfl (by decide) 0 1 rfl rfl rfl rfl hl.1 rfl (Nat.le_of_ble_eq_true rfl) dX0_tryMerge_39 (by rw [hR]; exact ⟨Nat.le_of_ble_eq_true rfl, Nat.le_of_ble_eq_true rfl⟩) ?_
        refine W.eq (g2 := F0 m 42 ls [.int r10]) rfl ?_
        refine lv_istore (lv' := [(4, .int r10), (0, .ref (a 0)), (1, .int x1), (2, .int x2), (3, .int x3)]) hx hb dX0_tryMerge_42 hl (by decide) rfl (fun ls hl => ?_)
        refine lv_aload_n hx hb dX0_tryMerge_44 rfl (lv_at hl 1 rfl) ?_
        refine va_get (D := E.1) (ci := 0) (v := .ref (a_forest 0)) (C := RX0) (T := TX0) (N := 4) hx hb hts iX0 hown hK hP 0 rfl rfl 0 (by decide) (hts _ q139) (fun _ h9 => h9) rfl dX0_tryMerge_45 ?_
        refine lv_iload_n hx hb dX0_tryMerge_48 rfl (lv_at hl 3 rfl) ?_
        obtain ⟨r12, hr13, h⟩ := ob h
        refine px_Vp (As := [.int x2]) (rest := []) (gs := ([gX0 E a (a_forest 0) (a_mix 0) v_reason v_detail, gX5 E a_mix mix_row mix_conflictCount mix_lowest, gX1 E a_forest φ_forest] : List va_W)) (gc := ([gX1 E a_forest φ_forest] : List va_W)) ⟨hx, hb, hml, hown, hts⟩ (c1_tipOf l E a_forest  (x2) (φ_forest) r12 hr13) (cwV 1 hts (ws_v q294 q295 q296 q19 q297) rfl rfl rfl hdV_X1_tipOf (by rw [hR]; exact ⟨Nat.le_of_ble_eq_true rfl, Nat.le_of_ble_eq_true rfl⟩)) hK hN hP hD [2] rfl (by decide) 0 1 rfl rfl rfl rfl hl.1 rfl (Nat.le_of_ble_eq_true rfl) dX0_tryMerge_49 (by rw [hR]; exact ⟨Nat.le_of_ble_eq_true rfl, Nat.le_of_ble_eq_true rfl⟩) ?_
        refine W.eq (g2 := F0 m 52 ls [.int r12]) rfl ?_
        refine lv_istore (lv' := [(5, .int r12), (4, .int r10), (0, .ref (a 0)), (1, .int x1), (2, .int x2), (3, .int x3)]) hx hb dX0_tryMerge_52 hl (by decide) rfl (fun ls hl => ?_)
        refine lv_aload_n hx hb dX0_tryMerge_54 rfl (lv_at hl 2 rfl) ?_
        refine va_get (D := E.1) (ci := 0) (v := .ref (a_forest 0)) (C := RX0) (T := TX0) (N := 4) hx hb hts iX0 hown hK hP 0 rfl rfl 0 (by decide) (hts _ q139) (fun _ h9 => h9) rfl dX0_tryMerge_55 ?_
        refine lv_iload hx hb dX0_tryMerge_58 (lv_at hl 1 rfl) ?_
        refine lv_iload hx hb dX0_tryMerge_60 (lv_at hl 0 rfl) ?_
        obtain ⟨r14, hr15, h⟩ := ob h
        refine px_Vp (As := [.int r10, .int r12]) (rest := []) (gs := ([gX0 E a (a_forest 0) (a_mix 0) v_reason v_detail, gX5 E a_mix mix_row mix_conflictCount mix_lowest, gX1 E a_forest φ_forest] : List va_W)) (gc := ([gX1 E a_forest φ_forest] : List va_W)) ⟨hx, hb, hml, hown, hts⟩ (c1_hasInFamily l E a_forest  (r10) (r12) (φ_forest) r14 hr15) (cwV 2 hts (ws_v q562 q563 q564 q19 q565) rfl rfl rfl hdV_X1_hasInFamily (by rw [hR]; exact ⟨Nat.le_of_ble_eq_true rfl, Nat.le_of_ble_eq_true rfl⟩)) hK hN hP hD [2] rfl (by decide) 0 1 rfl rfl rfl rfl hl.1 rfl (Nat.le_of_ble_eq_true rfl) dX0_tryMerge_62 (by rw [hR]; exact ⟨Nat.le_of_ble_eq_true rfl, Nat.le_of_ble_eq_true rfl⟩) ?_
        refine W.eq (g2 := F0 m 65 ls [.int (b2i r14)]) rfl ?_
        refine lv_if_eq (tgt := 76) hx hb dX0_tryMerge_65 (by decide) (fun c16 => ?_) (fun c16 => ?_)
        · rw [if_pos c16] at h
          refine lv_aload_n hx hb dX0_tryMerge_76 rfl (lv_at hl 2 rfl) ?_
          refine va_get (D := E.1) (ci := 0) (v := .ref (a_forest 0)) (C := RX0) (T := TX0) (N := 4) hx hb hts iX0 hown hK hP 0 rfl rfl 0 (by decide) (hts _ q139) (fun _ h9 => h9) rfl dX0_tryMerge_77 ?_
          refine lv_iload hx hb dX0_tryMerge_80 (lv_at hl 0 rfl) ?_
          refine lv_iload hx hb dX0_tryMerge_82 (lv_at hl 1 rfl) ?_
          obtain ⟨r17, hr18, h⟩ := ob h
          refine px_Vp (As := [.int r12, .int r10]) (rest := []) (gs := ([gX0 E a (a_forest 0) (a_mix 0) v_reason v_detail, gX5 E a_mix mix_row mix_conflictCount mix_lowest, gX1 E a_forest φ_forest] : List va_W)) (gc := ([gX1 E a_forest φ_forest] : List va_W)) ⟨hx, hb, hml, hown, hts⟩ (c1_hasInFamily l E a_forest  (r12) (r10) (φ_forest) r17 hr18) (cwV 2 hts (ws_v q562 q563 q564 q19 q565) rfl rfl rfl hdV_X1_hasInFamily (by rw [hR]; exact ⟨Nat.le_of_ble_eq_true rfl, Nat.le_of_ble_eq_true rfl⟩)) hK hN hP hD [2] rfl (by decide) 0 1 rfl rfl rfl rfl hl.1 rfl (Nat.le_of_ble_eq_true rfl) dX0_tryMerge_84 (by rw [hR]; exact ⟨Nat.le_of_ble_eq_true rfl, Nat.le_of_ble_eq_true rfl⟩) ?_
          refine W.eq (g2 := F0 m 87 ls [.int (b2i r17)]) rfl ?_
          refine lv_if_eq (tgt := 103) hx hb dX0_tryMerge_87 (by decide) (fun c19 => ?_) (fun c19 => ?_)
          · rw [if_pos c19] at h
            refine lv_aload_n hx hb dX0_tryMerge_103 rfl (lv_at hl 2 rfl) ?_
            refine va_get (D := E.1) (ci := 0) (v := .ref (a_mix 0)) (C := RX0) (T := TX0) (N := 4) hx hb hts iX0 hown hK hP 0 rfl rfl 1 (by decide) (hts _ q140) (fun _ h9 => h9) rfl dX0_tryMerge_104 ?_
            refine lv_aload_n hx hb dX0_tryMerge_107 rfl (lv_at hl 2 rfl) ?_
            refine va_get (D := E.1) (ci := 0) (v := .ref (a_forest 0)) (C := RX0) (T := TX0) (N := 4) hx hb hts iX0 hown hK hP 0 rfl rfl 0 (by decide) (hts _ q139) (fun _ h9 => h9) rfl dX0_tryMerge_108 ?_
            refine lv_iload hx hb dX0_tryMerge_111 (lv_at hl 1 rfl) ?_
            refine lv_iload hx hb dX0_tryMerge_113 (lv_at hl 0 rfl) ?_
            refine lv_aload_n hx hb dX0_tryMerge_115 rfl (lv_at hl 2 rfl) ?_
            refine va_get (D := E.1) (ci := 0) (v := .ref (a_forest 0)) (C := RX0) (T := TX0) (N := 4) hx hb hts iX0 hown hK hP 0 rfl rfl 0 (by decide) (hts _ q139) (fun _ h9 => h9) rfl dX0_tryMerge_116 ?_
            refine lv_iload hx hb dX0_tryMerge_119 (lv_at hl 1 rfl) ?_
            refine lv_iload hx hb dX0_tryMerge_121 (lv_at hl 0 rfl) ?_
            obtain ⟨r20, hr21, h⟩ := ob h
            refine px_Vp (As := [.int r10, .int r12]) (rest := [.int r12, .int r10, .ref (a_forest 0), .ref (a_mix 0)]) (gs := ([gX0 E a (a_forest 0) (a_mix 0) v_reason v_detail, gX5 E a_mix mix_row mix_conflictCount mix_lowest, gX1 E a_forest φ_forest] : List va_W)) (gc := ([gX1 E a_forest φ_forest] : List va_W)) ⟨hx, hb, hml, hown, hts⟩ (c1_commonGround l E a_forest  (r10) (r12) (φ_forest) r20 hr21) (cwV 2 hts (ws_v q569 q570 q571 q19 q572) rfl rfl rfl hdV_X1_commonGround (by rw [hR]; exact ⟨Nat.le_of_ble_eq_true rfl, Nat.le_of_ble_eq_true rfl⟩)) hK hN hP hD [2] rfl (by decide) 0 1 rfl rfl rfl rfl hl.1 rfl (Nat.le_of_ble_eq_true rfl) dX0_tryMerge_123 (by rw [hR]; exact ⟨Nat.le_of_ble_eq_true rfl, Nat.le_of_ble_eq_true rfl⟩) ?_
            refine W.eq (g2 := F0 m 126 ls [.int r20, .int r12, .int r10, .ref (a_forest 0), .ref (a_mix 0)]) rfl ?_
            refine lv_iload_n hx hb dX0_tryMerge_126 rfl (lv_at hl 5 rfl) ?_
            obtain ⟨⟨w22, w23, w24⟩, hr25, h⟩ := ob h
            dsimp only at h
            refine px_V (As := [.ref (a_forest 0), .int r10, .int r12, .int r20, .int x3]) (rest := []) (gs := ([gX0 E a (a_forest 0) (a_mix 0) v_reason v_detail, gX5 E a_mix mix_row mix_conflictCount mix_lowest, gX1 E a_forest φ_forest] : List va_W)) (gr := ([gX0 E a (a_forest 0) (a_mix 0) v_reason v_detail] : List va_W)) (gc := ([gX5 E a_mix mix_row mix_conflictCount mix_lowest, gX1 E a_forest φ_forest] : List va_W)) (g1 := ([gX5 E a_mix w22 w23 w24, gX1 E a_forest φ_forest] : List va_W)) (g2 := ([gX0 E a (a_forest 0) (a_mix 0) v_reason v_detail, gX5 E a_mix w22 w23 w24, gX1 E a_forest φ_forest] : List va_W)) ⟨hx, hb, hml, hown, hts⟩ (c5_putTogether l E a_mix a_forest  (r10) (r12) (r20) (x3) (mix_row) (mix_conflictCount) (mix_lowest) (φ_forest) w22 w23 w24 hr25) (cwV 5 hts (ws_v q574 q575 q576 q22 q577) rfl rfl rfl hdV_X5_putTogether (by rw [hR]; exact ⟨Nat.le_of_ble_eq_true rfl, Nat.le_of_ble_eq_true rfl⟩)) hK hN hP hD hS hA [0] [1, 2] [0, 1, 2] rfl rfl (by decide) (by decide) rfl (by decide) 0 5 rfl rfl rfl rfl hl.1 rfl (Nat.le_of_ble_eq_true rfl) dX0_tryMerge_127 (by rw [hR]; exact ⟨Nat.le_of_ble_eq_true rfl, Nat.le_of_ble_eq_true rfl⟩) (fun H locs hP hD hS => ?_)
            refine W.eq (g2 := F0 m 130 ls []) rfl ?_
            refine lv_aload_n hx hb dX0_tryMerge_130 rfl (lv_at hl 2 rfl) ?_
            refine lv_iload_n hx hb dX0_tryMerge_131 rfl (lv_at hl 5 rfl) ?_
            obtain ⟨r26, hr27, h⟩ := ob h
            refine px_Vp (As := [.int x3]) (rest := []) (gs := ([gX0 E a (a_forest 0) (a_mix 0) v_reason v_detail, gX5 E a_mix w22 w23 w24, gX1 E a_forest φ_forest] : List va_W)) (gc := ([gX0 E a (a_forest 0) (a_mix 0) v_reason v_detail, gX5 E a_mix w22 w23 w24] : List va_W)) ⟨hx, hb, hml, hown, hts⟩ (c0_isStopped l E a a_mix (a_forest 0) (x3) (v_reason) (v_detail) (w22) (w23) (w24) r26 hr27) (cwV 1 hts (ws_v q581 q583 q6 q21 q584) rfl rfl rfl hdV_X0_isStopped (by rw [hR]; exact ⟨Nat.le_of_ble_eq_true rfl, Nat.le_of_ble_eq_true rfl⟩)) hK hN hP hD [0, 1] rfl (by decide) 0 0 rfl rfl rfl rfl hl.1 rfl (Nat.le_of_ble_eq_true rfl) dX0_tryMerge_132 (by rw [hR]; exact ⟨Nat.le_of_ble_eq_true rfl, Nat.le_of_ble_eq_true rfl⟩) ?_
            refine W.eq (g2 := F0 m 135 ls [.int (b2i r26)]) rfl ?_
            refine lv_if_eq (tgt := 151) hx hb dX0_tryMerge_135 (by decide) (fun c28 => ?_) (fun c28 => ?_)
            · rw [if_pos c28] at h
              refine lv_aload_n hx hb dX0_tryMerge_151 rfl (lv_at hl 2 rfl) ?_
              refine va_get (D := E.1) (ci := 0) (v := .ref (a_forest 0)) (C := RX0) (T := TX0) (N := 4) hx hb hts iX0 hown hK hP 0 rfl rfl 0 (by decide) (hts _ q139) (fun _ h9 => h9) rfl dX0_tryMerge_152 ?_
              obtain ⟨r29, hr30, h⟩ := ob h
              refine px_Vp (As := []) (rest := []) (gs := ([gX0 E a (a_forest 0) (a_mix 0) v_reason v_detail, gX5 E a_mix w22 w23 w24, gX1 E a_forest φ_forest] : List va_W)) (gc := ([gX1 E a_forest φ_forest] : List va_W)) ⟨hx, hb, hml, hown, hts⟩ (c1_isFull l E a_forest   (φ_forest) r29 hr30) (cwV 0 hts (ws_v q306 q307 q308 q19 q309) rfl rfl rfl hdV_X1_isFull (by rw [hR]; exact ⟨Nat.le_of_ble_eq_true rfl, Nat.le_of_ble_eq_true rfl⟩)) hK hN hP hD [2] rfl (by decide) 0 1 rfl rfl rfl rfl hl.1 rfl (Nat.le_of_ble_eq_true rfl) dX0_tryMerge_155 (by rw [hR]; exact ⟨Nat.le_of_ble_eq_true rfl, Nat.le_of_ble_eq_true rfl⟩) ?_
              refine W.eq (g2 := F0 m 158 ls [.int (b2i r29)]) rfl ?_
              refine lv_if_eq (tgt := 169) hx hb dX0_tryMerge_158 (by decide) (fun c31 => ?_) (fun c31 => ?_)
              · rw [if_pos c31] at h
                refine lv_aload_n hx hb dX0_tryMerge_169 rfl (lv_at hl 2 rfl) ?_
                refine va_get (D := E.1) (ci := 0) (v := .ref (a_forest 0)) (C := RX0) (T := TX0) (N := 4) hx hb hts iX0 hown hK hP 0 rfl rfl 0 (by decide) (hts _ q139) (fun _ h9 => h9) rfl dX0_tryMerge_170 ?_
                refine lv_iload_n hx hb dX0_tryMerge_173 rfl (lv_at hl 3 rfl) ?_
                refine lv_iconst (v := (nI 1)) hx hb dX0_tryMerge_174 (by decide) ?_
                refine lv_iload hx hb dX0_tryMerge_175 (lv_at hl 0 rfl) ?_
                refine lv_aload_n hx hb dX0_tryMerge_177 rfl (lv_at hl 2 rfl) ?_
                refine va_get (D := E.1) (ci := 0) (v := .ref (a_mix 0)) (C := RX0) (T := TX0) (N := 4) hx hb hts iX0 hown hK hP 0 rfl rfl 1 (by decide) (hts _ q140) (fun _ h9 => h9) rfl dX0_tryMerge_178 ?_
                obtain ⟨_u, hr32, h⟩ := ob h
                refine px_Vp (As := []) (rest := [.int r12, .int (nI 1), .int x1, .ref (a_forest 0)]) (gs := ([gX0 E a (a_forest 0) (a_mix 0) v_reason v_detail, gX5 E a_mix w22 w23 w24, gX1 E a_forest φ_forest] : List va_W)) (gc := ([gX5 E a_mix w22 w23 w24] : List va_W)) ⟨hx, hb, hml, hown, hts⟩ (c5_amounts l E a_mix   (w22) (w23) (w24)  hr32) (cwV 0 hts (ws_v q315 q316 q317 q22 q318) rfl rfl rfl hdV_X5_amounts (by rw [hR]; exact ⟨Nat.le_of_ble_eq_true rfl, Nat.le_of_ble_eq_true rfl⟩)) hK hN hP hD [1] rfl (by decide) 0 5 rfl rfl rfl rfl hl.1 rfl (Nat.le_of_ble_eq_true rfl) dX0_tryMerge_181 (by rw [hR]; exact ⟨Nat.le_of_ble_eq_true rfl, Nat.le_of_ble_eq_true rfl⟩) ?_
                refine W.eq (g2 := F0 m 184 ls [.ref (a_mix 1), .int r12, .int (nI 1), .int x1, .ref (a_forest 0)]) rfl ?_
                obtain ⟨⟨r33, w34⟩, hr35, h⟩ := ob h
                dsimp only at h
                refine px_V (As := [.int x1, .int (nI 1), .int r12, .ref (a_mix 1)]) (rest := []) (gs := ([gX0 E a (a_forest 0) (a_mix 0) v_reason v_detail, gX5 E a_mix w22 w23 w24, gX1 E a_forest φ_forest] : List va_W)) (gr := ([gX0 E a (a_forest 0) (a_mix 0) v_reason v_detail] : List va_W)) (gc := ([gX1 E a_forest φ_forest, gX5 E a_mix w22 w23 w24] : List va_W)) (g1 := ([gX1 E a_forest w34, gX5 E a_mix w22 w23 w24] : List va_W)) (g2 := ([gX0 E a (a_forest 0) (a_mix 0) v_reason v_detail, gX5 E a_mix w22 w23 w24, gX1 E a_forest w34] : List va_W)) ⟨hx, hb, hml, hown, hts⟩ (c1_addCommit l E a_forest a_mix  (x1) ((nI 1)) (r12) (φ_forest) (w22) (w23) (w24) r33 w34 hr35) (cwV 4 hts (ws_v q319 q320 q321 q19 q322) rfl rfl rfl hdV_X1_addCommit (by rw [hR]; exact ⟨Nat.le_of_ble_eq_true rfl, Nat.le_of_ble_eq_true rfl⟩)) hK hN hP hD hS hA [0] [2, 1] [0, 2, 1] rfl rfl (by decide) (by decide) rfl (by decide) 0 1 rfl rfl rfl rfl hl.1 rfl (Nat.le_of_ble_eq_true rfl) dX0_tryMerge_184 (by rw [hR]; exact ⟨Nat.le_of_ble_eq_true rfl, Nat.le_of_ble_eq_true rfl⟩) (fun H locs hP hD hS => ?_)
                refine W.eq (g2 := F0 m 187 ls [.int r33]) rfl ?_
                cases h
                exact px_eWi hA0 hQ hP hD hS hx hb hr hlocks dX0_tryMerge_187
              · rw [if_neg c31] at h
                refine lv_aload_n hx hb dX0_tryMerge_161 rfl (lv_at hl 2 rfl) ?_
                refine lv_iconst (v := (nI 1)) hx hb dX0_tryMerge_162 (by decide) ?_
                refine lv_bipush (v := (nI 24)) hx hb dX0_tryMerge_163 (by decide) ?_
                obtain ⟨⟨r36, w37, w38⟩, hr39, h⟩ := ob h
                dsimp only at h
                refine px_V (As := [.int (nI 1), .int (nI 24)]) (rest := []) (gs := ([gX0 E a (a_forest 0) (a_mix 0) v_reason v_detail, gX5 E a_mix w22 w23 w24, gX1 E a_forest φ_forest] : List va_W)) (gr := ([gX5 E a_mix w22 w23 w24, gX1 E a_forest φ_forest] : List va_W)) (gc := ([gX0 E a (a_forest 0) (a_mix 0) v_reason v_detail] : List va_W)) (g1 := ([gX0 E a (a_forest 0) (a_mix 0) w37 w38] : List va_W)) (g2 := ([gX0 E a (a_forest 0) (a_mix 0) w37 w38, gX5 E a_mix w22 w23 w24, gX1 E a_forest φ_forest] : List va_W)) ⟨hx, hb, hml, hown, hts⟩ (c0_refuse l E a (a_forest 0) (a_mix 0) ((nI 1)) ((nI 24)) (v_reason) (v_detail) r36 w37 w38 hr39) (cwV 2 hts (ws_v q302 q304 q0 q21 q305) rfl rfl rfl hdV_X0_refuse (by rw [hR]; exact ⟨Nat.le_of_ble_eq_true rfl, Nat.le_of_ble_eq_true rfl⟩)) hK hN hP hD hS hA [1, 2] [0] [2, 0, 1] rfl rfl (by decide) (by decide) rfl (by decide) 0 0 rfl rfl rfl rfl hl.1 rfl (Nat.le_of_ble_eq_true rfl) dX0_tryMerge_165 (by rw [hR]; exact ⟨Nat.le_of_ble_eq_true rfl, Nat.le_of_ble_eq_true rfl⟩) (fun H locs hP hD hS => ?_)
                refine W.eq (g2 := F0 m 168 ls [.int r36]) rfl ?_
                cases h
                exact px_eWi hA0 hQ hP hD hS hx hb hr hlocks dX0_tryMerge_168
            · rw [if_neg c28] at h
              refine lv_aload_n hx hb dX0_tryMerge_138 rfl (lv_at hl 2 rfl) ?_
              refine lv_iconst (v := (nI 5)) hx hb dX0_tryMerge_139 (by decide) ?_
              refine lv_aload_n hx hb dX0_tryMerge_140 rfl (lv_at hl 2 rfl) ?_
              refine va_get (D := E.1) (ci := 0) (v := .ref (a_mix 0)) (C := RX0) (T := TX0) (N := 4) hx hb hts iX0 hown hK hP 0 rfl rfl 1 (by decide) (hts _ q140) (fun _ h9 => h9) rfl dX0_tryMerge_141 ?_
              obtain ⟨r40, hr41, h⟩ := ob h
              refine px_Vp (As := []) (rest := [.int (nI 5), .ref (a 0)]) (gs := ([gX0 E a (a_forest 0) (a_mix 0) v_reason v_detail, gX5 E a_mix w22 w23 w24, gX1 E a_forest φ_forest] : List va_W)) (gc := ([gX5 E a_mix w22 w23 w24] : List va_W)) ⟨hx, hb, hml, hown, hts⟩ (c5_lowestConflict l E a_mix   (w22) (w23) (w24) r40 hr41) (cwV 0 hts (ws_v q589 q590 q591 q22 q592) rfl rfl rfl hdV_X5_lowestConflict (by rw [hR]; exact ⟨Nat.le_of_ble_eq_true rfl, Nat.le_of_ble_eq_true rfl⟩)) hK hN hP hD [1] rfl (by decide) 0 5 rfl rfl rfl rfl hl.1 rfl (Nat.le_of_ble_eq_true rfl) dX0_tryMerge_144 (by rw [hR]; exact ⟨Nat.le_of_ble_eq_true rfl, Nat.le_of_ble_eq_true rfl⟩) ?_
              refine W.eq (g2 := F0 m 147 ls [.int r40, .int (nI 5), .ref (a 0)]) rfl ?_
              obtain ⟨⟨r42, w43, w44⟩, hr45, h⟩ := ob h
              dsimp only at h
              refine px_V (As := [.int (nI 5), .int r40]) (rest := []) (gs := ([gX0 E a (a_forest 0) (a_mix 0) v_reason v_detail, gX5 E a_mix w22 w23 w24, gX1 E a_forest φ_forest] : List va_W)) (gr := ([gX5 E a_mix w22 w23 w24, gX1 E a_forest φ_forest] : List va_W)) (gc := ([gX0 E a (a_forest 0) (a_mix 0) v_reason v_detail] : List va_W)) (g1 := ([gX0 E a (a_forest 0) (a_mix 0) w43 w44] : List va_W)) (g2 := ([gX0 E a (a_forest 0) (a_mix 0) w43 w44, gX5 E a_mix w22 w23 w24, gX1 E a_forest φ_forest] : List va_W)) ⟨hx, hb, hml, hown, hts⟩ (c0_refuse l E a (a_forest 0) (a_mix 0) ((nI 5)) (r40) (v_reason) (v_detail) r42 w43 w44 hr45) (cwV 2 hts (ws_v q302 q304 q0 q21 q305) rfl rfl rfl hdV_X0_refuse (by rw [hR]; exact ⟨Nat.le_of_ble_eq_true rfl, Nat.le_of_ble_eq_true rfl⟩)) hK hN hP hD hS hA [1, 2] [0] [2, 0, 1] rfl rfl (by decide) (by decide) rfl (by decide) 0 0 rfl rfl rfl rfl hl.1 rfl (Nat.le_of_ble_eq_true rfl) dX0_tryMerge_147 (by rw [hR]; exact ⟨Nat.le_of_ble_eq_true rfl, Nat.le_of_ble_eq_true rfl⟩) (fun H locs hP hD hS => ?_)
              refine W.eq (g2 := F0 m 150 ls [.int r42]) rfl ?_
              cases h
              exact px_eWi hA0 hQ hP hD hS hx hb hr hlocks dX0_tryMerge_150
          · rw [if_neg c19] at h
            refine lv_aload_n hx hb dX0_tryMerge_90 rfl (lv_at hl 2 rfl) ?_
            refine va_get (D := E.1) (ci := 0) (v := .ref (a_forest 0)) (C := RX0) (T := TX0) (N := 4) hx hb hts iX0 hown hK hP 0 rfl rfl 0 (by decide) (hts _ q139) (fun _ h9 => h9) rfl dX0_tryMerge_91 ?_
            refine lv_iload_n hx hb dX0_tryMerge_94 rfl (lv_at hl 3 rfl) ?_
            refine lv_iload hx hb dX0_tryMerge_95 (lv_at hl 0 rfl) ?_
            obtain ⟨w46, hr47, h⟩ := ob h
            refine px_V (As := [.int x1, .int r12]) (rest := []) (gs := ([gX0 E a (a_forest 0) (a_mix 0) v_reason v_detail, gX5 E a_mix mix_row mix_conflictCount mix_lowest, gX1 E a_forest φ_forest] : List va_W)) (gr := ([gX0 E a (a_forest 0) (a_mix 0) v_reason v_detail, gX5 E a_mix mix_row mix_conflictCount mix_lowest] : List va_W)) (gc := ([gX1 E a_forest φ_forest] : List va_W)) (g1 := ([gX1 E a_forest w46] : List va_W)) (g2 := ([gX0 E a (a_forest 0) (a_mix 0) v_reason v_detail, gX5 E a_mix mix_row mix_conflictCount mix_lowest, gX1 E a_forest w46] : List va_W)) ⟨hx, hb, hml, hown, hts⟩ (c1_moveTip l E a_forest  (x1) (r12) (φ_forest) w46 hr47) (cwV 2 hts (ws_v q490 q491 q492 q19 q493) rfl rfl rfl hdV_X1_moveTip (by rw [hR]; exact ⟨Nat.le_of_ble_eq_true rfl, Nat.le_of_ble_eq_true rfl⟩)) hK hN hP hD hS hA [0, 1] [2] [0, 1, 2] rfl rfl (by decide) (by decide) rfl (by decide) 0 1 rfl rfl rfl rfl hl.1 rfl (Nat.le_of_ble_eq_true rfl) dX0_tryMerge_97 (by rw [hR]; exact ⟨Nat.le_of_ble_eq_true rfl, Nat.le_of_ble_eq_true rfl⟩) (fun H locs hP hD hS => ?_)
            refine W.eq (g2 := F0 m 100 ls []) rfl ?_
            refine lv_iload hx hb dX0_tryMerge_100 (lv_at hl 0 rfl) ?_
            cases h
            exact px_eWi hA0 hQ hP hD hS hx hb hr hlocks dX0_tryMerge_102
        · rw [if_neg c16] at h
          refine lv_aload_n hx hb dX0_tryMerge_68 rfl (lv_at hl 2 rfl) ?_
          refine lv_iconst (v := (nI 4)) hx hb dX0_tryMerge_69 (by decide) ?_
          refine lv_iload hx hb dX0_tryMerge_70 (lv_at hl 0 rfl) ?_
          obtain ⟨⟨r48, w49, w50⟩, hr51, h⟩ := ob h
          dsimp only at h
          refine px_V (As := [.int (nI 4), .int r12]) (rest := []) (gs := ([gX0 E a (a_forest 0) (a_mix 0) v_reason v_detail, gX5 E a_mix mix_row mix_conflictCount mix_lowest, gX1 E a_forest φ_forest] : List va_W)) (gr := ([gX5 E a_mix mix_row mix_conflictCount mix_lowest, gX1 E a_forest φ_forest] : List va_W)) (gc := ([gX0 E a (a_forest 0) (a_mix 0) v_reason v_detail] : List va_W)) (g1 := ([gX0 E a (a_forest 0) (a_mix 0) w49 w50] : List va_W)) (g2 := ([gX0 E a (a_forest 0) (a_mix 0) w49 w50, gX5 E a_mix mix_row mix_conflictCount mix_lowest, gX1 E a_forest φ_forest] : List va_W)) ⟨hx, hb, hml, hown, hts⟩ (c0_refuse l E a (a_forest 0) (a_mix 0) ((nI 4)) (r12) (v_reason) (v_detail) r48 w49 w50 hr51) (cwV 2 hts (ws_v q302 q304 q0 q21 q305) rfl rfl rfl hdV_X0_refuse (by rw [hR]; exact ⟨Nat.le_of_ble_eq_true rfl, Nat.le_of_ble_eq_true rfl⟩)) hK hN hP hD hS hA [1, 2] [0] [2, 0, 1] rfl rfl (by decide) (by decide) rfl (by decide) 0 0 rfl rfl rfl rfl hl.1 rfl (Nat.le_of_ble_eq_true rfl) dX0_tryMerge_72 (by rw [hR]; exact ⟨Nat.le_of_ble_eq_true rfl, Nat.le_of_ble_eq_true rfl⟩) (fun H locs hP hD hS => ?_)
          refine W.eq (g2 := F0 m 75 ls [.int r48]) rfl ?_
          cases h
          exact px_eWi hA0 hQ hP hD hS hx hb hr hlocks dX0_tryMerge_75
      · rw [if_pos c9] at h
        refine lv_bipush (v := (-2 : Int32)) hx hb dX0_tryMerge_31 (by decide) ?_
        cases h
        exact px_eWi hA0 hQ hP hD hS hx hb hr hlocks dX0_tryMerge_33
    · rw [if_pos c6] at h
      refine lv_iconst (v := (-1 : Int32)) hx hb dX0_tryMerge_22 (by decide) ?_
      cases h
      exact px_eWi hA0 hQ hP hD hS hx hb hr hlocks dX0_tryMerge_23
def f0_tryPick (x1 : Int32) (x2 : Int32) (x3 : Int32) (v_reason : Int32) (v_detail : Int32) (mix_row : AI) (mix_conflictCount : Int32) (mix_lowest : Int32) (φ_forest : Fo) : Option (Int32 × Int32 × Int32 × AI × Int32 × Int32 × Fo) := ((f1_isBranch (x1) (φ_forest)).bind fun r1 => (if (b2i r1) = 0 then (some ((-1 : Int32), v_reason, v_detail, mix_row, mix_conflictCount, mix_lowest, φ_forest)) else ((f1_isCommit (x2) (φ_forest)).bind fun r4 => (if (b2i r4) = 0 then (some ((-1 : Int32), v_reason, v_detail, mix_row, mix_conflictCount, mix_lowest, φ_forest)) else ((f8_isRule (x3)).bind fun r7 => (if (b2i r7) = 0 then (some ((-2 : Int32), v_reason, v_detail, mix_row, mix_conflictCount, mix_lowest, φ_forest)) else ((f1_tipOf (x1) (φ_forest)).bind fun r10 => ((f1_hasInFamily (r10) (x2) (φ_forest)).bind fun r12 => (if (b2i r12) = 0 then ((f1_firstOf (x2) (φ_forest)).bind fun r15 => ((f0_pickChange (x1) (x2) (r15) (x3) (v_reason) (v_detail) (mix_row) (mix_conflictCount) (mix_lowest) (φ_forest)).bind fun (r17, w18, w19, w20, w21, w22, w23) => (some (r17, w18, w19, w20, w21, w22, w23)))) else ((f0_refuse ((nI 4)) (x2) (v_reason) (v_detail)).bind fun (r25, w26, w27) => (some (r25, w26, w27, mix_row, mix_conflictCount, mix_lowest, φ_forest))))))))))))
set_option maxHeartbeats 4000000 in
set_option maxRecDepth 100000 in
theorem c0_tryPick (l : Launch) (E : PE) (a : Nat → Nat) (a_mix : Nat → Nat) (a_forest : Nat → Nat)  (x1 : Int32) (x2 : Int32) (x3 : Int32) (v_reason : Int32) (v_detail : Int32) (mix_row : AI) (mix_conflictCount : Int32) (mix_lowest : Int32) (φ_forest : Fo) (r : Int32) (z_this_reason : Int32) (z_this_detail : Int32) (z_mix_row : AI) (z_mix_conflictCount : Int32) (z_mix_lowest : Int32) (z_forest_φ : Fo) (h : f0_tryPick x1 x2 x3 v_reason v_detail mix_row mix_conflictCount mix_lowest φ_forest = some (r, z_this_reason, z_this_detail, z_mix_row, z_mix_conflictCount, z_mix_lowest, z_forest_φ)) : MW l yX0_tryPick cX0_tryPick 4 (some .int) { frames := 3, cells := 0, slots := 0, locals := 76 } E [.ref (a 0), .int x1, .int x2, .int x3] ([gX0 E a (a_forest 0) (a_mix 0) v_reason v_detail, gX5 E a_mix mix_row mix_conflictCount mix_lowest, gX1 E a_forest φ_forest] : List va_W).flatten 0 0 (some (.int r)) ([gX0 E a (a_forest 0) (a_mix 0) z_this_reason z_this_detail, gX5 E a_mix z_mix_row z_mix_conflictCount z_mix_lowest, gX1 E a_forest z_forest_φ] : List va_W).flatten := by
  refine px_startW (by decide +kernel) (Nat.le_of_ble_eq_true rfl) ?_
  intro p e s m args below meth c R Q A ls hC hA0 hQ
  obtain ⟨hx, hb, hr, hml, hts, hown, hlocks, hR, hK, hN, hP, hD, hA, hl, hin⟩ := hC
  have hl : lv_has ls 4 [(0, .ref (a 0)), (1, .int x1), (2, .int x2), (3, .int x3)] := hl
  suffices key : ∀ (H : Heap) (locs : List Loc), va_P E.1 vwCl ([gX0 E a (a_forest 0) (a_mix 0) v_reason v_detail, gX5 E a_mix mix_row mix_conflictCount mix_lowest, gX1 E a_forest φ_forest] : List va_W).flatten H → va_S A s.heap H locs → W p l e R s m args below meth c H locs 0 0 Q (F0 m 0 ls []) from key s.heap [] hP va_S.rf
  unfold f0_tryPick at h
  intro H locs hP hS
  refine lv_aload_n hx hb dX0_tryPick_0 rfl (lv_at hl 0 rfl) ?_
  refine va_get (D := E.1) (ci := 0) (v := .ref (a_forest 0)) (C := RX0) (T := TX0) (N := 4) hx hb hts iX0 hown hK hP 0 rfl rfl 0 (by decide) (hts _ q139) (fun _ h9 => h9) rfl dX0_tryPick_1 ?_
  refine lv_iload_n hx hb dX0_tryPick_4 rfl (lv_at hl 1 rfl) ?_
  obtain ⟨r1, hr2, h⟩ := ob h
  refine px_Vp (As := [.int x1]) (rest := []) (gs := ([gX0 E a (a_forest 0) (a_mix 0) v_reason v_detail, gX5 E a_mix mix_row mix_conflictCount mix_lowest, gX1 E a_forest φ_forest] : List va_W)) (gc := ([gX1 E a_forest φ_forest] : List va_W)) ⟨hx, hb, hml, hown, hts⟩ (c1_isBranch l E a_forest  (x1) (φ_forest) r1 hr2) (cwV 1 hts (ws_v q284 q285 q286 q19 q287) rfl rfl rfl hdV_X1_isBranch (by rw [hR]; exact ⟨Nat.le_of_ble_eq_true rfl, Nat.le_of_ble_eq_true rfl⟩)) hK hN hP hD [2] rfl (by decide) 0 1 rfl rfl rfl rfl hl.1 rfl (Nat.le_of_ble_eq_true rfl) dX0_tryPick_5 (by rw [hR]; exact ⟨Nat.le_of_ble_eq_true rfl, Nat.le_of_ble_eq_true rfl⟩) ?_
  refine W.eq (g2 := F0 m 8 ls [.int (b2i r1)]) rfl ?_
  refine lv_if_eq (tgt := 22) hx hb dX0_tryPick_8 (by decide) (fun c3 => ?_) (fun c3 => ?_)
  · rw [if_pos c3] at h
    refine lv_iconst (v := (-1 : Int32)) hx hb dX0_tryPick_22 (by decide) ?_
    cases h
    exact px_eWi hA0 hQ hP hD hS hx hb hr hlocks dX0_tryPick_23
  · rw [if_neg c3] at h
    refine lv_aload_n hx hb dX0_tryPick_11 rfl (lv_at hl 0 rfl) ?_
    refine va_get (D := E.1) (ci := 0) (v := .ref (a_forest 0)) (C := RX0) (T := TX0) (N := 4) hx hb hts iX0 hown hK hP 0 rfl rfl 0 (by decide) (hts _ q139) (fun _ h9 => h9) rfl dX0_tryPick_12 ?_
    refine lv_iload_n hx hb dX0_tryPick_15 rfl (lv_at hl 2 rfl) ?_
    obtain ⟨r4, hr5, h⟩ := ob h
    refine px_Vp (As := [.int x2]) (rest := []) (gs := ([gX0 E a (a_forest 0) (a_mix 0) v_reason v_detail, gX5 E a_mix mix_row mix_conflictCount mix_lowest, gX1 E a_forest φ_forest] : List va_W)) (gc := ([gX1 E a_forest φ_forest] : List va_W)) ⟨hx, hb, hml, hown, hts⟩ (c1_isCommit l E a_forest  (x2) (φ_forest) r4 hr5) (cwV 1 hts (ws_v q486 q487 q488 q19 q489) rfl rfl rfl hdV_X1_isCommit (by rw [hR]; exact ⟨Nat.le_of_ble_eq_true rfl, Nat.le_of_ble_eq_true rfl⟩)) hK hN hP hD [2] rfl (by decide) 0 1 rfl rfl rfl rfl hl.1 rfl (Nat.le_of_ble_eq_true rfl) dX0_tryPick_16 (by rw [hR]; exact ⟨Nat.le_of_ble_eq_true rfl, Nat.le_of_ble_eq_true rfl⟩) ?_
    refine W.eq (g2 := F0 m 19 ls [.int (b2i r4)]) rfl ?_
    refine lv_if_ne (tgt := 24) hx hb dX0_tryPick_19 (by decide) (fun c6 => ?_) (fun c6 => ?_)
    · rw [if_neg c6] at h
      refine lv_iload_n hx hb dX0_tryPick_24 rfl (lv_at hl 3 rfl) ?_
      obtain ⟨r7, hr8, h⟩ := ob h
      refine px_SNp (As := [.int x3]) (rest := []) (gs := ([gX0 E a (a_forest 0) (a_mix 0) v_reason v_detail, gX5 E a_mix mix_row mix_conflictCount mix_lowest, gX1 E a_forest φ_forest] : List va_W)) (gc := ([] : List va_W)) ⟨hx, hb, hml, hown, hts⟩ (c8_isRule l E   (x3)  r7 hr8) ⟨va_cnB 1 hts (ws_g q561) rfl rfl rfl (hN _ (List.mem_of_getElem? (i := 3) rfl)) (hts _ q18) hdS_X8_isRule (by rw [hR]; exact ⟨Nat.le_of_ble_eq_true rfl, Nat.le_of_ble_eq_true rfl⟩), hts _ q560, trivial⟩ hK hN hP hD [] rfl (by decide) rfl hl.1 rfl (Nat.le_of_ble_eq_true rfl) dX0_tryPick_25 (by rw [hR]; exact ⟨Nat.le_of_ble_eq_true rfl, Nat.le_of_ble_eq_true rfl⟩) ?_
      refine W.eq (g2 := F0 m 28 ls [.int (b2i r7)]) rfl ?_
      refine lv_if_ne (tgt := 34) hx hb dX0_tryPick_28 (by decide) (fun c9 => ?_) (fun c9 => ?_)
      · rw [if_neg c9] at h
        refine lv_aload_n hx hb dX0_tryPick_34 rfl (lv_at hl 0 rfl) ?_
        refine va_get (D := E.1) (ci := 0) (v := .ref (a_forest 0)) (C := RX0) (T := TX0) (N := 4) hx hb hts iX0 hown hK hP 0 rfl rfl 0 (by decide) (hts _ q139) (fun _ h9 => h9) rfl dX0_tryPick_35 ?_
        refine lv_aload_n hx hb dX0_tryPick_38 rfl (lv_at hl 0 rfl) ?_
        refine va_get (D := E.1) (ci := 0) (v := .ref (a_forest 0)) (C := RX0) (T := TX0) (N := 4) hx hb hts iX0 hown hK hP 0 rfl rfl 0 (by decide) (hts _ q139) (fun _ h9 => h9) rfl dX0_tryPick_39 ?_
        refine lv_iload_n hx hb dX0_tryPick_42 rfl (lv_at hl 1 rfl) ?_
        obtain ⟨r10, hr11, h⟩ := ob h
        refine px_Vp (As := [.int x1]) (rest := [.ref (a_forest 0)]) (gs := ([gX0 E a (a_forest 0) (a_mix 0) v_reason v_detail, gX5 E a_mix mix_row mix_conflictCount mix_lowest, gX1 E a_forest φ_forest] : List va_W)) (gc := ([gX1 E a_forest φ_forest] : List va_W)) ⟨hx, hb, hml, hown, hts⟩ (c1_tipOf l E a_forest  (x1) (φ_forest) r10 hr11) (cwV 1 hts (ws_v q294 q295 q296 q19 q297) rfl rfl rfl hdV_X1_tipOf (by rw [hR]; exact ⟨Nat.le_of_ble_eq_true rfl, Nat.le_of_ble_eq_true rfl⟩)) hK hN hP hD [2] rfl (by decide) 0 1 rfl rfl rfl rfl hl.1 rfl (Nat.le_of_ble_eq_true rfl) dX0_tryPick_43 (by rw [hR]; exact ⟨Nat.le_of_ble_eq_true rfl, Nat.le_of_ble_eq_true rfl⟩) ?_
        refine W.eq (g2 := F0 m 46 ls [.int r10, .ref (a_forest 0)]) rfl ?_
        refine lv_iload_n hx hb dX0_tryPick_46 rfl (lv_at hl 2 rfl) ?_
        obtain ⟨r12, hr13, h⟩ := ob h
        refine px_Vp (As := [.int r10, .int x2]) (rest := []) (gs := ([gX0 E a (a_forest 0) (a_mix 0) v_reason v_detail, gX5 E a_mix mix_row mix_conflictCount mix_lowest, gX1 E a_forest φ_forest] : List va_W)) (gc := ([gX1 E a_forest φ_forest] : List va_W)) ⟨hx, hb, hml, hown, hts⟩ (c1_hasInFamily l E a_forest  (r10) (x2) (φ_forest) r12 hr13) (cwV 2 hts (ws_v q562 q563 q564 q19 q565) rfl rfl rfl hdV_X1_hasInFamily (by rw [hR]; exact ⟨Nat.le_of_ble_eq_true rfl, Nat.le_of_ble_eq_true rfl⟩)) hK hN hP hD [2] rfl (by decide) 0 1 rfl rfl rfl rfl hl.1 rfl (Nat.le_of_ble_eq_true rfl) dX0_tryPick_47 (by rw [hR]; exact ⟨Nat.le_of_ble_eq_true rfl, Nat.le_of_ble_eq_true rfl⟩) ?_
        refine W.eq (g2 := F0 m 50 ls [.int (b2i r12)]) rfl ?_
        refine lv_if_eq (tgt := 60) hx hb dX0_tryPick_50 (by decide) (fun c14 => ?_) (fun c14 => ?_)
        · rw [if_pos c14] at h
          refine lv_aload_n hx hb dX0_tryPick_60 rfl (lv_at hl 0 rfl) ?_
          refine lv_iload_n hx hb dX0_tryPick_61 rfl (lv_at hl 1 rfl) ?_
          refine lv_iload_n hx hb dX0_tryPick_62 rfl (lv_at hl 2 rfl) ?_
          refine lv_aload_n hx hb dX0_tryPick_63 rfl (lv_at hl 0 rfl) ?_
          refine va_get (D := E.1) (ci := 0) (v := .ref (a_forest 0)) (C := RX0) (T := TX0) (N := 4) hx hb hts iX0 hown hK hP 0 rfl rfl 0 (by decide) (hts _ q139) (fun _ h9 => h9) rfl dX0_tryPick_64 ?_
          refine lv_iload_n hx hb dX0_tryPick_67 rfl (lv_at hl 2 rfl) ?_
          obtain ⟨r15, hr16, h⟩ := ob h
          refine px_Vp (As := [.int x2]) (rest := [.int x2, .int x1, .ref (a 0)]) (gs := ([gX0 E a (a_forest 0) (a_mix 0) v_reason v_detail, gX5 E a_mix mix_row mix_conflictCount mix_lowest, gX1 E a_forest φ_forest] : List va_W)) (gc := ([gX1 E a_forest φ_forest] : List va_W)) ⟨hx, hb, hml, hown, hts⟩ (c1_firstOf l E a_forest  (x2) (φ_forest) r15 hr16) (cwV 1 hts (ws_v q604 q526 q527 q19 q528) rfl rfl rfl hdV_X1_firstOf (by rw [hR]; exact ⟨Nat.le_of_ble_eq_true rfl, Nat.le_of_ble_eq_true rfl⟩)) hK hN hP hD [2] rfl (by decide) 0 1 rfl rfl rfl rfl hl.1 rfl (Nat.le_of_ble_eq_true rfl) dX0_tryPick_68 (by rw [hR]; exact ⟨Nat.le_of_ble_eq_true rfl, Nat.le_of_ble_eq_true rfl⟩) ?_
          refine W.eq (g2 := F0 m 71 ls [.int r15, .int x2, .int x1, .ref (a 0)]) rfl ?_
          refine lv_iload_n hx hb dX0_tryPick_71 rfl (lv_at hl 3 rfl) ?_
          obtain ⟨⟨r17, w18, w19, w20, w21, w22, w23⟩, hr24, h⟩ := ob h
          dsimp only at h
          refine px_V (As := [.int x1, .int x2, .int r15, .int x3]) (rest := []) (gs := ([gX0 E a (a_forest 0) (a_mix 0) v_reason v_detail, gX5 E a_mix mix_row mix_conflictCount mix_lowest, gX1 E a_forest φ_forest] : List va_W)) (gr := ([] : List va_W)) (gc := ([gX0 E a (a_forest 0) (a_mix 0) v_reason v_detail, gX5 E a_mix mix_row mix_conflictCount mix_lowest, gX1 E a_forest φ_forest] : List va_W)) (g1 := ([gX0 E a (a_forest 0) (a_mix 0) w18 w19, gX5 E a_mix w20 w21 w22, gX1 E a_forest w23] : List va_W)) (g2 := ([gX0 E a (a_forest 0) (a_mix 0) w18 w19, gX5 E a_mix w20 w21 w22, gX1 E a_forest w23] : List va_W)) ⟨hx, hb, hml, hown, hts⟩ (c0_pickChange l E a a_mix a_forest  (x1) (x2) (r15) (x3) (v_reason) (v_detail) (mix_row) (mix_conflictCount) (mix_lowest) (φ_forest) r17 w18 w19 w20 w21 w22 w23 hr24) (cwV 4 hts (ws_v q605 q607 q7 q21 q608) rfl rfl rfl hdV_X0_pickChange (by rw [hR]; exact ⟨Nat.le_of_ble_eq_true rfl, Nat.le_of_ble_eq_true rfl⟩)) hK hN hP hD hS hA [] [0, 1, 2] [0, 1, 2] rfl rfl (by decide) (by decide) rfl (by decide) 0 0 rfl rfl rfl rfl hl.1 rfl (Nat.le_of_ble_eq_true rfl) dX0_tryPick_72 (by rw [hR]; exact ⟨Nat.le_of_ble_eq_true rfl, Nat.le_of_ble_eq_true rfl⟩) (fun H locs hP hD hS => ?_)
          refine W.eq (g2 := F0 m 75 ls [.int r17]) rfl ?_
          cases h
          exact px_eWi hA0 hQ hP hD hS hx hb hr hlocks dX0_tryPick_75
        · rw [if_neg c14] at h
          refine lv_aload_n hx hb dX0_tryPick_53 rfl (lv_at hl 0 rfl) ?_
          refine lv_iconst (v := (nI 4)) hx hb dX0_tryPick_54 (by decide) ?_
          refine lv_iload_n hx hb dX0_tryPick_55 rfl (lv_at hl 2 rfl) ?_
          obtain ⟨⟨r25, w26, w27⟩, hr28, h⟩ := ob h
          dsimp only at h
          refine px_V (As := [.int (nI 4), .int x2]) (rest := []) (gs := ([gX0 E a (a_forest 0) (a_mix 0) v_reason v_detail, gX5 E a_mix mix_row mix_conflictCount mix_lowest, gX1 E a_forest φ_forest] : List va_W)) (gr := ([gX5 E a_mix mix_row mix_conflictCount mix_lowest, gX1 E a_forest φ_forest] : List va_W)) (gc := ([gX0 E a (a_forest 0) (a_mix 0) v_reason v_detail] : List va_W)) (g1 := ([gX0 E a (a_forest 0) (a_mix 0) w26 w27] : List va_W)) (g2 := ([gX0 E a (a_forest 0) (a_mix 0) w26 w27, gX5 E a_mix mix_row mix_conflictCount mix_lowest, gX1 E a_forest φ_forest] : List va_W)) ⟨hx, hb, hml, hown, hts⟩ (c0_refuse l E a (a_forest 0) (a_mix 0) ((nI 4)) (x2) (v_reason) (v_detail) r25 w26 w27 hr28) (cwV 2 hts (ws_v q302 q304 q0 q21 q305) rfl rfl rfl hdV_X0_refuse (by rw [hR]; exact ⟨Nat.le_of_ble_eq_true rfl, Nat.le_of_ble_eq_true rfl⟩)) hK hN hP hD hS hA [1, 2] [0] [2, 0, 1] rfl rfl (by decide) (by decide) rfl (by decide) 0 0 rfl rfl rfl rfl hl.1 rfl (Nat.le_of_ble_eq_true rfl) dX0_tryPick_56 (by rw [hR]; exact ⟨Nat.le_of_ble_eq_true rfl, Nat.le_of_ble_eq_true rfl⟩) (fun H locs hP hD hS => ?_)
          refine W.eq (g2 := F0 m 59 ls [.int r25]) rfl ?_
          cases h
          exact px_eWi hA0 hQ hP hD hS hx hb hr hlocks dX0_tryPick_59
      · rw [if_pos c9] at h
        refine lv_bipush (v := (-2 : Int32)) hx hb dX0_tryPick_31 (by decide) ?_
        cases h
        exact px_eWi hA0 hQ hP hD hS hx hb hr hlocks dX0_tryPick_33
    · rw [if_pos c6] at h
      refine lv_iconst (v := (-1 : Int32)) hx hb dX0_tryPick_22 (by decide) ?_
      cases h
      exact px_eWi hA0 hQ hP hD hS hx hb hr hlocks dX0_tryPick_23
def f0_tryRevert (x1 : Int32) (x2 : Int32) (x3 : Int32) (v_reason : Int32) (v_detail : Int32) (mix_row : AI) (mix_conflictCount : Int32) (mix_lowest : Int32) (φ_forest : Fo) : Option (Int32 × Int32 × Int32 × AI × Int32 × Int32 × Fo) := ((f1_isBranch (x1) (φ_forest)).bind fun r1 => (if (b2i r1) = 0 then (some ((-1 : Int32), v_reason, v_detail, mix_row, mix_conflictCount, mix_lowest, φ_forest)) else ((f1_isCommit (x2) (φ_forest)).bind fun r4 => (if (b2i r4) = 0 then (some ((-1 : Int32), v_reason, v_detail, mix_row, mix_conflictCount, mix_lowest, φ_forest)) else ((f8_isRule (x3)).bind fun r7 => (if (b2i r7) = 0 then (some ((-2 : Int32), v_reason, v_detail, mix_row, mix_conflictCount, mix_lowest, φ_forest)) else ((f1_firstOf (x2) (φ_forest)).bind fun r10 => (if r10 = (-1 : Int32) then ((f0_refuse ((nI 6)) ((nI 0)) (v_reason) (v_detail)).bind fun (r30, w31, w32) => (some (r30, w31, w32, mix_row, mix_conflictCount, mix_lowest, φ_forest))) else ((f1_tipOf (x1) (φ_forest)).bind fun r13 => ((f1_hasInFamily (r13) (x2) (φ_forest)).bind fun r15 => (if (b2i r15) = 0 then ((f0_refuse ((nI 8)) (x2) (v_reason) (v_detail)).bind fun (r26, w27, w28) => (some (r26, w27, w28, mix_row, mix_conflictCount, mix_lowest, φ_forest))) else ((f0_pickChange (x1) (r10) (x2) (x3) (v_reason) (v_detail) (mix_row) (mix_conflictCount) (mix_lowest) (φ_forest)).bind fun (r18, w19, w20, w21, w22, w23, w24) => (some (r18, w19, w20, w21, w22, w23, w24))))))))))))))
set_option maxHeartbeats 4000000 in
set_option maxRecDepth 100000 in
theorem c0_tryRevert (l : Launch) (E : PE) (a : Nat → Nat) (a_mix : Nat → Nat) (a_forest : Nat → Nat)  (x1 : Int32) (x2 : Int32) (x3 : Int32) (v_reason : Int32) (v_detail : Int32) (mix_row : AI) (mix_conflictCount : Int32) (mix_lowest : Int32) (φ_forest : Fo) (r : Int32) (z_this_reason : Int32) (z_this_detail : Int32) (z_mix_row : AI) (z_mix_conflictCount : Int32) (z_mix_lowest : Int32) (z_forest_φ : Fo) (h : f0_tryRevert x1 x2 x3 v_reason v_detail mix_row mix_conflictCount mix_lowest φ_forest = some (r, z_this_reason, z_this_detail, z_mix_row, z_mix_conflictCount, z_mix_lowest, z_forest_φ)) : MW l yX0_tryRevert cX0_tryRevert 5 (some .int) { frames := 3, cells := 0, slots := 0, locals := 76 } E [.ref (a 0), .int x1, .int x2, .int x3] ([gX0 E a (a_forest 0) (a_mix 0) v_reason v_detail, gX5 E a_mix mix_row mix_conflictCount mix_lowest, gX1 E a_forest φ_forest] : List va_W).flatten 0 0 (some (.int r)) ([gX0 E a (a_forest 0) (a_mix 0) z_this_reason z_this_detail, gX5 E a_mix z_mix_row z_mix_conflictCount z_mix_lowest, gX1 E a_forest z_forest_φ] : List va_W).flatten := by
  refine px_startW (by decide +kernel) (Nat.le_of_ble_eq_true rfl) ?_
  intro p e s m args below meth c R Q A ls hC hA0 hQ
  obtain ⟨hx, hb, hr, hml, hts, hown, hlocks, hR, hK, hN, hP, hD, hA, hl, hin⟩ := hC
  have hl : lv_has ls 5 [(0, .ref (a 0)), (1, .int x1), (2, .int x2), (3, .int x3)] := hl
  suffices key : ∀ (H : Heap) (locs : List Loc), va_P E.1 vwCl ([gX0 E a (a_forest 0) (a_mix 0) v_reason v_detail, gX5 E a_mix mix_row mix_conflictCount mix_lowest, gX1 E a_forest φ_forest] : List va_W).flatten H → va_S A s.heap H locs → W p l e R s m args below meth c H locs 0 0 Q (F0 m 0 ls []) from key s.heap [] hP va_S.rf
  unfold f0_tryRevert at h
  intro H locs hP hS
  refine lv_aload_n hx hb dX0_tryRevert_0 rfl (lv_at hl 0 rfl) ?_
  refine va_get (D := E.1) (ci := 0) (v := .ref (a_forest 0)) (C := RX0) (T := TX0) (N := 4) hx hb hts iX0 hown hK hP 0 rfl rfl 0 (by decide) (hts _ q139) (fun _ h9 => h9) rfl dX0_tryRevert_1 ?_
  refine lv_iload_n hx hb dX0_tryRevert_4 rfl (lv_at hl 1 rfl) ?_
  obtain ⟨r1, hr2, h⟩ := ob h
  refine px_Vp (As := [.int x1]) (rest := []) (gs := ([gX0 E a (a_forest 0) (a_mix 0) v_reason v_detail, gX5 E a_mix mix_row mix_conflictCount mix_lowest, gX1 E a_forest φ_forest] : List va_W)) (gc := ([gX1 E a_forest φ_forest] : List va_W)) ⟨hx, hb, hml, hown, hts⟩ (c1_isBranch l E a_forest  (x1) (φ_forest) r1 hr2) (cwV 1 hts (ws_v q284 q285 q286 q19 q287) rfl rfl rfl hdV_X1_isBranch (by rw [hR]; exact ⟨Nat.le_of_ble_eq_true rfl, Nat.le_of_ble_eq_true rfl⟩)) hK hN hP hD [2] rfl (by decide) 0 1 rfl rfl rfl rfl hl.1 rfl (Nat.le_of_ble_eq_true rfl) dX0_tryRevert_5 (by rw [hR]; exact ⟨Nat.le_of_ble_eq_true rfl, Nat.le_of_ble_eq_true rfl⟩) ?_
  refine W.eq (g2 := F0 m 8 ls [.int (b2i r1)]) rfl ?_
  refine lv_if_eq (tgt := 22) hx hb dX0_tryRevert_8 (by decide) (fun c3 => ?_) (fun c3 => ?_)
  · rw [if_pos c3] at h
    refine lv_iconst (v := (-1 : Int32)) hx hb dX0_tryRevert_22 (by decide) ?_
    cases h
    exact px_eWi hA0 hQ hP hD hS hx hb hr hlocks dX0_tryRevert_23
  · rw [if_neg c3] at h
    refine lv_aload_n hx hb dX0_tryRevert_11 rfl (lv_at hl 0 rfl) ?_
    refine va_get (D := E.1) (ci := 0) (v := .ref (a_forest 0)) (C := RX0) (T := TX0) (N := 4) hx hb hts iX0 hown hK hP 0 rfl rfl 0 (by decide) (hts _ q139) (fun _ h9 => h9) rfl dX0_tryRevert_12 ?_
    refine lv_iload_n hx hb dX0_tryRevert_15 rfl (lv_at hl 2 rfl) ?_
    obtain ⟨r4, hr5, h⟩ := ob h
    refine px_Vp (As := [.int x2]) (rest := []) (gs := ([gX0 E a (a_forest 0) (a_mix 0) v_reason v_detail, gX5 E a_mix mix_row mix_conflictCount mix_lowest, gX1 E a_forest φ_forest] : List va_W)) (gc := ([gX1 E a_forest φ_forest] : List va_W)) ⟨hx, hb, hml, hown, hts⟩ (c1_isCommit l E a_forest  (x2) (φ_forest) r4 hr5) (cwV 1 hts (ws_v q486 q487 q488 q19 q489) rfl rfl rfl hdV_X1_isCommit (by rw [hR]; exact ⟨Nat.le_of_ble_eq_true rfl, Nat.le_of_ble_eq_true rfl⟩)) hK hN hP hD [2] rfl (by decide) 0 1 rfl rfl rfl rfl hl.1 rfl (Nat.le_of_ble_eq_true rfl) dX0_tryRevert_16 (by rw [hR]; exact ⟨Nat.le_of_ble_eq_true rfl, Nat.le_of_ble_eq_true rfl⟩) ?_
    refine W.eq (g2 := F0 m 19 ls [.int (b2i r4)]) rfl ?_
    refine lv_if_ne (tgt := 24) hx hb dX0_tryRevert_19 (by decide) (fun c6 => ?_) (fun c6 => ?_)
    · rw [if_neg c6] at h
      refine lv_iload_n hx hb dX0_tryRevert_24 rfl (lv_at hl 3 rfl) ?_
      obtain ⟨r7, hr8, h⟩ := ob h
      refine px_SNp (As := [.int x3]) (rest := []) (gs := ([gX0 E a (a_forest 0) (a_mix 0) v_reason v_detail, gX5 E a_mix mix_row mix_conflictCount mix_lowest, gX1 E a_forest φ_forest] : List va_W)) (gc := ([] : List va_W)) ⟨hx, hb, hml, hown, hts⟩ (c8_isRule l E   (x3)  r7 hr8) ⟨va_cnB 1 hts (ws_g q561) rfl rfl rfl (hN _ (List.mem_of_getElem? (i := 3) rfl)) (hts _ q18) hdS_X8_isRule (by rw [hR]; exact ⟨Nat.le_of_ble_eq_true rfl, Nat.le_of_ble_eq_true rfl⟩), hts _ q560, trivial⟩ hK hN hP hD [] rfl (by decide) rfl hl.1 rfl (Nat.le_of_ble_eq_true rfl) dX0_tryRevert_25 (by rw [hR]; exact ⟨Nat.le_of_ble_eq_true rfl, Nat.le_of_ble_eq_true rfl⟩) ?_
      refine W.eq (g2 := F0 m 28 ls [.int (b2i r7)]) rfl ?_
      refine lv_if_ne (tgt := 34) hx hb dX0_tryRevert_28 (by decide) (fun c9 => ?_) (fun c9 => ?_)
      · rw [if_neg c9] at h
        refine lv_aload_n hx hb dX0_tryRevert_34 rfl (lv_at hl 0 rfl) ?_
        refine va_get (D := E.1) (ci := 0) (v := .ref (a_forest 0)) (C := RX0) (T := TX0) (N := 4) hx hb hts iX0 hown hK hP 0 rfl rfl 0 (by decide) (hts _ q139) (fun _ h9 => h9) rfl dX0_tryRevert_35 ?_
        refine lv_iload_n hx hb dX0_tryRevert_38 rfl (lv_at hl 2 rfl) ?_
        obtain ⟨r10, hr11, h⟩ := ob h
        refine px_Vp (As := [.int x2]) (rest := []) (gs := ([gX0 E a (a_forest 0) (a_mix 0) v_reason v_detail, gX5 E a_mix mix_row mix_conflictCount mix_lowest, gX1 E a_forest φ_forest] : List va_W)) (gc := ([gX1 E a_forest φ_forest] : List va_W)) ⟨hx, hb, hml, hown, hts⟩ (c1_firstOf l E a_forest  (x2) (φ_forest) r10 hr11) (cwV 1 hts (ws_v q604 q526 q527 q19 q528) rfl rfl rfl hdV_X1_firstOf (by rw [hR]; exact ⟨Nat.le_of_ble_eq_true rfl, Nat.le_of_ble_eq_true rfl⟩)) hK hN hP hD [2] rfl (by decide) 0 1 rfl rfl rfl rfl hl.1 rfl (Nat.le_of_ble_eq_true rfl) dX0_tryRevert_39 (by rw [hR]; exact ⟨Nat.le_of_ble_eq_true rfl, Nat.le_of_ble_eq_true rfl⟩) ?_
        refine W.eq (g2 := F0 m 42 ls [.int r10]) rfl ?_
        refine lv_istore (lv' := [(4, .int r10), (0, .ref (a 0)), (1, .int x1), (2, .int x2), (3, .int x3)]) hx hb dX0_tryRevert_42 hl (by decide) rfl (fun ls hl => ?_)
        refine lv_iload hx hb dX0_tryRevert_44 (lv_at hl 0 rfl) ?_
        refine lv_iconst (v := (-1 : Int32)) hx hb dX0_tryRevert_46 (by decide) ?_
        refine lv_icmp_ne (tgt := 58) hx hb dX0_tryRevert_47 (by decide) (fun c12 => ?_) (fun c12 => ?_)
        · rw [if_neg c12] at h
          refine lv_aload_n hx hb dX0_tryRevert_58 rfl (lv_at hl 1 rfl) ?_
          refine va_get (D := E.1) (ci := 0) (v := .ref (a_forest 0)) (C := RX0) (T := TX0) (N := 4) hx hb hts iX0 hown hK hP 0 rfl rfl 0 (by decide) (hts _ q139) (fun _ h9 => h9) rfl dX0_tryRevert_59 ?_
          refine lv_aload_n hx hb dX0_tryRevert_62 rfl (lv_at hl 1 rfl) ?_
          refine va_get (D := E.1) (ci := 0) (v := .ref (a_forest 0)) (C := RX0) (T := TX0) (N := 4) hx hb hts iX0 hown hK hP 0 rfl rfl 0 (by decide) (hts _ q139) (fun _ h9 => h9) rfl dX0_tryRevert_63 ?_
          refine lv_iload_n hx hb dX0_tryRevert_66 rfl (lv_at hl 2 rfl) ?_
          obtain ⟨r13, hr14, h⟩ := ob h
          refine px_Vp (As := [.int x1]) (rest := [.ref (a_forest 0)]) (gs := ([gX0 E a (a_forest 0) (a_mix 0) v_reason v_detail, gX5 E a_mix mix_row mix_conflictCount mix_lowest, gX1 E a_forest φ_forest] : List va_W)) (gc := ([gX1 E a_forest φ_forest] : List va_W)) ⟨hx, hb, hml, hown, hts⟩ (c1_tipOf l E a_forest  (x1) (φ_forest) r13 hr14) (cwV 1 hts (ws_v q294 q295 q296 q19 q297) rfl rfl rfl hdV_X1_tipOf (by rw [hR]; exact ⟨Nat.le_of_ble_eq_true rfl, Nat.le_of_ble_eq_true rfl⟩)) hK hN hP hD [2] rfl (by decide) 0 1 rfl rfl rfl rfl hl.1 rfl (Nat.le_of_ble_eq_true rfl) dX0_tryRevert_67 (by rw [hR]; exact ⟨Nat.le_of_ble_eq_true rfl, Nat.le_of_ble_eq_true rfl⟩) ?_
          refine W.eq (g2 := F0 m 70 ls [.int r13, .ref (a_forest 0)]) rfl ?_
          refine lv_iload_n hx hb dX0_tryRevert_70 rfl (lv_at hl 3 rfl) ?_
          obtain ⟨r15, hr16, h⟩ := ob h
          refine px_Vp (As := [.int r13, .int x2]) (rest := []) (gs := ([gX0 E a (a_forest 0) (a_mix 0) v_reason v_detail, gX5 E a_mix mix_row mix_conflictCount mix_lowest, gX1 E a_forest φ_forest] : List va_W)) (gc := ([gX1 E a_forest φ_forest] : List va_W)) ⟨hx, hb, hml, hown, hts⟩ (c1_hasInFamily l E a_forest  (r13) (x2) (φ_forest) r15 hr16) (cwV 2 hts (ws_v q562 q563 q564 q19 q565) rfl rfl rfl hdV_X1_hasInFamily (by rw [hR]; exact ⟨Nat.le_of_ble_eq_true rfl, Nat.le_of_ble_eq_true rfl⟩)) hK hN hP hD [2] rfl (by decide) 0 1 rfl rfl rfl rfl hl.1 rfl (Nat.le_of_ble_eq_true rfl) dX0_tryRevert_71 (by rw [hR]; exact ⟨Nat.le_of_ble_eq_true rfl, Nat.le_of_ble_eq_true rfl⟩) ?_
          refine W.eq (g2 := F0 m 74 ls [.int (b2i r15)]) rfl ?_
          refine lv_if_ne (tgt := 85) hx hb dX0_tryRevert_74 (by decide) (fun c17 => ?_) (fun c17 => ?_)
          · rw [if_neg c17] at h
            refine lv_aload_n hx hb dX0_tryRevert_85 rfl (lv_at hl 1 rfl) ?_
            refine lv_iload_n hx hb dX0_tryRevert_86 rfl (lv_at hl 2 rfl) ?_
            refine lv_iload hx hb dX0_tryRevert_87 (lv_at hl 0 rfl) ?_
            refine lv_iload_n hx hb dX0_tryRevert_89 rfl (lv_at hl 3 rfl) ?_
            refine lv_iload_n hx hb dX0_tryRevert_90 rfl (lv_at hl 4 rfl) ?_
            obtain ⟨⟨r18, w19, w20, w21, w22, w23, w24⟩, hr25, h⟩ := ob h
            dsimp only at h
            refine px_V (As := [.int x1, .int r10, .int x2, .int x3]) (rest := []) (gs := ([gX0 E a (a_forest 0) (a_mix 0) v_reason v_detail, gX5 E a_mix mix_row mix_conflictCount mix_lowest, gX1 E a_forest φ_forest] : List va_W)) (gr := ([] : List va_W)) (gc := ([gX0 E a (a_forest 0) (a_mix 0) v_reason v_detail, gX5 E a_mix mix_row mix_conflictCount mix_lowest, gX1 E a_forest φ_forest] : List va_W)) (g1 := ([gX0 E a (a_forest 0) (a_mix 0) w19 w20, gX5 E a_mix w21 w22 w23, gX1 E a_forest w24] : List va_W)) (g2 := ([gX0 E a (a_forest 0) (a_mix 0) w19 w20, gX5 E a_mix w21 w22 w23, gX1 E a_forest w24] : List va_W)) ⟨hx, hb, hml, hown, hts⟩ (c0_pickChange l E a a_mix a_forest  (x1) (r10) (x2) (x3) (v_reason) (v_detail) (mix_row) (mix_conflictCount) (mix_lowest) (φ_forest) r18 w19 w20 w21 w22 w23 w24 hr25) (cwV 4 hts (ws_v q605 q607 q7 q21 q608) rfl rfl rfl hdV_X0_pickChange (by rw [hR]; exact ⟨Nat.le_of_ble_eq_true rfl, Nat.le_of_ble_eq_true rfl⟩)) hK hN hP hD hS hA [] [0, 1, 2] [0, 1, 2] rfl rfl (by decide) (by decide) rfl (by decide) 0 0 rfl rfl rfl rfl hl.1 rfl (Nat.le_of_ble_eq_true rfl) dX0_tryRevert_91 (by rw [hR]; exact ⟨Nat.le_of_ble_eq_true rfl, Nat.le_of_ble_eq_true rfl⟩) (fun H locs hP hD hS => ?_)
            refine W.eq (g2 := F0 m 94 ls [.int r18]) rfl ?_
            cases h
            exact px_eWi hA0 hQ hP hD hS hx hb hr hlocks dX0_tryRevert_94
          · rw [if_pos c17] at h
            refine lv_aload_n hx hb dX0_tryRevert_77 rfl (lv_at hl 1 rfl) ?_
            refine lv_bipush (v := (nI 8)) hx hb dX0_tryRevert_78 (by decide) ?_
            refine lv_iload_n hx hb dX0_tryRevert_80 rfl (lv_at hl 3 rfl) ?_
            obtain ⟨⟨r26, w27, w28⟩, hr29, h⟩ := ob h
            dsimp only at h
            refine px_V (As := [.int (nI 8), .int x2]) (rest := []) (gs := ([gX0 E a (a_forest 0) (a_mix 0) v_reason v_detail, gX5 E a_mix mix_row mix_conflictCount mix_lowest, gX1 E a_forest φ_forest] : List va_W)) (gr := ([gX5 E a_mix mix_row mix_conflictCount mix_lowest, gX1 E a_forest φ_forest] : List va_W)) (gc := ([gX0 E a (a_forest 0) (a_mix 0) v_reason v_detail] : List va_W)) (g1 := ([gX0 E a (a_forest 0) (a_mix 0) w27 w28] : List va_W)) (g2 := ([gX0 E a (a_forest 0) (a_mix 0) w27 w28, gX5 E a_mix mix_row mix_conflictCount mix_lowest, gX1 E a_forest φ_forest] : List va_W)) ⟨hx, hb, hml, hown, hts⟩ (c0_refuse l E a (a_forest 0) (a_mix 0) ((nI 8)) (x2) (v_reason) (v_detail) r26 w27 w28 hr29) (cwV 2 hts (ws_v q302 q304 q0 q21 q305) rfl rfl rfl hdV_X0_refuse (by rw [hR]; exact ⟨Nat.le_of_ble_eq_true rfl, Nat.le_of_ble_eq_true rfl⟩)) hK hN hP hD hS hA [1, 2] [0] [2, 0, 1] rfl rfl (by decide) (by decide) rfl (by decide) 0 0 rfl rfl rfl rfl hl.1 rfl (Nat.le_of_ble_eq_true rfl) dX0_tryRevert_81 (by rw [hR]; exact ⟨Nat.le_of_ble_eq_true rfl, Nat.le_of_ble_eq_true rfl⟩) (fun H locs hP hD hS => ?_)
            refine W.eq (g2 := F0 m 84 ls [.int r26]) rfl ?_
            cases h
            exact px_eWi hA0 hQ hP hD hS hx hb hr hlocks dX0_tryRevert_84
        · rw [if_pos c12] at h
          refine lv_aload_n hx hb dX0_tryRevert_50 rfl (lv_at hl 1 rfl) ?_
          refine lv_bipush (v := (nI 6)) hx hb dX0_tryRevert_51 (by decide) ?_
          refine lv_iconst (v := (nI 0)) hx hb dX0_tryRevert_53 (by decide) ?_
          obtain ⟨⟨r30, w31, w32⟩, hr33, h⟩ := ob h
          dsimp only at h
          refine px_V (As := [.int (nI 6), .int (nI 0)]) (rest := []) (gs := ([gX0 E a (a_forest 0) (a_mix 0) v_reason v_detail, gX5 E a_mix mix_row mix_conflictCount mix_lowest, gX1 E a_forest φ_forest] : List va_W)) (gr := ([gX5 E a_mix mix_row mix_conflictCount mix_lowest, gX1 E a_forest φ_forest] : List va_W)) (gc := ([gX0 E a (a_forest 0) (a_mix 0) v_reason v_detail] : List va_W)) (g1 := ([gX0 E a (a_forest 0) (a_mix 0) w31 w32] : List va_W)) (g2 := ([gX0 E a (a_forest 0) (a_mix 0) w31 w32, gX5 E a_mix mix_row mix_conflictCount mix_lowest, gX1 E a_forest φ_forest] : List va_W)) ⟨hx, hb, hml, hown, hts⟩ (c0_refuse l E a (a_forest 0) (a_mix 0) ((nI 6)) ((nI 0)) (v_reason) (v_detail) r30 w31 w32 hr33) (cwV 2 hts (ws_v q302 q304 q0 q21 q305) rfl rfl rfl hdV_X0_refuse (by rw [hR]; exact ⟨Nat.le_of_ble_eq_true rfl, Nat.le_of_ble_eq_true rfl⟩)) hK hN hP hD hS hA [1, 2] [0] [2, 0, 1] rfl rfl (by decide) (by decide) rfl (by decide) 0 0 rfl rfl rfl rfl hl.1 rfl (Nat.le_of_ble_eq_true rfl) dX0_tryRevert_54 (by rw [hR]; exact ⟨Nat.le_of_ble_eq_true rfl, Nat.le_of_ble_eq_true rfl⟩) (fun H locs hP hD hS => ?_)
          refine W.eq (g2 := F0 m 57 ls [.int r30]) rfl ?_
          cases h
          exact px_eWi hA0 hQ hP hD hS hx hb hr hlocks dX0_tryRevert_57
      · rw [if_pos c9] at h
        refine lv_bipush (v := (-2 : Int32)) hx hb dX0_tryRevert_31 (by decide) ?_
        cases h
        exact px_eWi hA0 hQ hP hD hS hx hb hr hlocks dX0_tryRevert_33
    · rw [if_pos c6] at h
      refine lv_iconst (v := (-1 : Int32)) hx hb dX0_tryRevert_22 (by decide) ?_
      cases h
      exact px_eWi hA0 hQ hP hD hS hx hb hr hlocks dX0_tryRevert_23
def f0_tryBundle (x1 : Int32) (φ_forest : Fo) : Option (Int32 × Fo) := (if x1 < 0 then (some ((-2 : Int32), φ_forest)) else (if x1 ≤ (nI 2) then ((f1_bundledCount (φ_forest)).bind fun r3 => ((f1_takeBundle (x1) (φ_forest)).bind fun w5 => (some (r3, w5)))) else (some ((-2 : Int32), φ_forest))))
set_option maxHeartbeats 4000000 in
set_option maxRecDepth 100000 in
theorem c0_tryBundle (l : Launch) (E : PE) (a : Nat → Nat) (a_forest : Nat → Nat) (r_this_mix : Nat) (x1 : Int32) (v_reason : Int32) (v_detail : Int32) (φ_forest : Fo) (r : Int32) (z_forest_φ : Fo) (h : f0_tryBundle x1 φ_forest = some (r, z_forest_φ)) : MW l yX0_tryBundle cX0_tryBundle 3 (some .int) { frames := 1, cells := 0, slots := 0, locals := 22 } E [.ref (a 0), .int x1] ([gX0 E a (a_forest 0) r_this_mix v_reason v_detail, gX1 E a_forest φ_forest] : List va_W).flatten 0 0 (some (.int r)) ([gX0 E a (a_forest 0) r_this_mix v_reason v_detail, gX1 E a_forest z_forest_φ] : List va_W).flatten := by
  refine px_startW (by decide +kernel) (Nat.le_of_ble_eq_true rfl) ?_
  intro p e s m args below meth c R Q A ls hC hA0 hQ
  obtain ⟨hx, hb, hr, hml, hts, hown, hlocks, hR, hK, hN, hP, hD, hA, hl, hin⟩ := hC
  have hl : lv_has ls 3 [(0, .ref (a 0)), (1, .int x1)] := hl
  suffices key : ∀ (H : Heap) (locs : List Loc), va_P E.1 vwCl ([gX0 E a (a_forest 0) r_this_mix v_reason v_detail, gX1 E a_forest φ_forest] : List va_W).flatten H → va_S A s.heap H locs → W p l e R s m args below meth c H locs 0 0 Q (F0 m 0 ls []) from key s.heap [] hP va_S.rf
  unfold f0_tryBundle at h
  intro H locs hP hS
  refine lv_iload_n hx hb dX0_tryBundle_0 rfl (lv_at hl 1 rfl) ?_
  refine lv_if_lt (tgt := 9) hx hb dX0_tryBundle_1 (by decide) (fun c1 => ?_) (fun c1 => ?_)
  · rw [if_pos c1] at h
    refine lv_bipush (v := (-2 : Int32)) hx hb dX0_tryBundle_9 (by decide) ?_
    cases h
    exact px_eWi hA0 hQ hP hD hS hx hb hr hlocks dX0_tryBundle_11
  · rw [if_neg c1] at h
    refine lv_iload_n hx hb dX0_tryBundle_4 rfl (lv_at hl 1 rfl) ?_
    refine lv_iconst (v := (nI 2)) hx hb dX0_tryBundle_5 (by decide) ?_
    refine lv_icmp_le (tgt := 12) hx hb dX0_tryBundle_6 (by decide) (fun c2 => ?_) (fun c2 => ?_)
    · rw [if_pos c2] at h
      refine lv_aload_n hx hb dX0_tryBundle_12 rfl (lv_at hl 0 rfl) ?_
      refine va_get (D := E.1) (ci := 0) (v := .ref (a_forest 0)) (C := RX0) (T := TX0) (N := 4) hx hb hts iX0 hown hK hP 0 rfl rfl 0 (by decide) (hts _ q139) (fun _ h9 => h9) rfl dX0_tryBundle_13 ?_
      obtain ⟨r3, hr4, h⟩ := ob h
      refine px_Vp (As := []) (rest := []) (gs := ([gX0 E a (a_forest 0) r_this_mix v_reason v_detail, gX1 E a_forest φ_forest] : List va_W)) (gc := ([gX1 E a_forest φ_forest] : List va_W)) ⟨hx, hb, hml, hown, hts⟩ (c1_bundledCount l E a_forest   (φ_forest) r3 hr4) (cwV 0 hts (ws_v q691 q692 q693 q19 q694) rfl rfl rfl hdV_X1_bundledCount (by rw [hR]; exact ⟨Nat.le_of_ble_eq_true rfl, Nat.le_of_ble_eq_true rfl⟩)) hK hN hP hD [1] rfl (by decide) 0 1 rfl rfl rfl rfl hl.1 rfl (Nat.le_of_ble_eq_true rfl) dX0_tryBundle_16 (by rw [hR]; exact ⟨Nat.le_of_ble_eq_true rfl, Nat.le_of_ble_eq_true rfl⟩) ?_
      refine W.eq (g2 := F0 m 19 ls [.int r3]) rfl ?_
      refine lv_istore_n (lv' := [(2, .int r3), (0, .ref (a 0)), (1, .int x1)]) hx hb dX0_tryBundle_19 rfl hl (by decide) rfl (fun ls hl => ?_)
      refine lv_aload_n hx hb dX0_tryBundle_20 rfl (lv_at hl 1 rfl) ?_
      refine va_get (D := E.1) (ci := 0) (v := .ref (a_forest 0)) (C := RX0) (T := TX0) (N := 4) hx hb hts iX0 hown hK hP 0 rfl rfl 0 (by decide) (hts _ q139) (fun _ h9 => h9) rfl dX0_tryBundle_21 ?_
      refine lv_iload_n hx hb dX0_tryBundle_24 rfl (lv_at hl 2 rfl) ?_
      obtain ⟨w5, hr6, h⟩ := ob h
      refine px_V (As := [.int x1]) (rest := []) (gs := ([gX0 E a (a_forest 0) r_this_mix v_reason v_detail, gX1 E a_forest φ_forest] : List va_W)) (gr := ([gX0 E a (a_forest 0) r_this_mix v_reason v_detail] : List va_W)) (gc := ([gX1 E a_forest φ_forest] : List va_W)) (g1 := ([gX1 E a_forest w5] : List va_W)) (g2 := ([gX0 E a (a_forest 0) r_this_mix v_reason v_detail, gX1 E a_forest w5] : List va_W)) ⟨hx, hb, hml, hown, hts⟩ (c1_takeBundle l E a_forest  (x1) (φ_forest) w5 hr6) (cwV 1 hts (ws_v q695 q696 q697 q19 q698) rfl rfl rfl hdV_X1_takeBundle (by rw [hR]; exact ⟨Nat.le_of_ble_eq_true rfl, Nat.le_of_ble_eq_true rfl⟩)) hK hN hP hD hS hA [0] [1] [0, 1] rfl rfl (by decide) (by decide) rfl (by decide) 0 1 rfl rfl rfl rfl hl.1 rfl (Nat.le_of_ble_eq_true rfl) dX0_tryBundle_25 (by rw [hR]; exact ⟨Nat.le_of_ble_eq_true rfl, Nat.le_of_ble_eq_true rfl⟩) (fun H locs hP hD hS => ?_)
      refine W.eq (g2 := F0 m 28 ls []) rfl ?_
      refine lv_iload_n hx hb dX0_tryBundle_28 rfl (lv_at hl 0 rfl) ?_
      cases h
      exact px_eWi hA0 hQ hP hD hS hx hb hr hlocks dX0_tryBundle_29
    · rw [if_neg c2] at h
      refine lv_bipush (v := (-2 : Int32)) hx hb dX0_tryBundle_9 (by decide) ?_
      cases h
      exact px_eWi hA0 hQ hP hD hS hx hb hr hlocks dX0_tryBundle_11
def f0_tryPut (x1 : Int32) (x2 : Int32) (v_reason : Int32) (v_detail : Int32) (φ_forest : Fo) : Option (Int32 × Int32 × Int32 × Fo) := ((f8_isPlace (x1)).bind fun r1 => (if (b2i r1) = 0 then (some ((-1 : Int32), v_reason, v_detail, φ_forest)) else ((f1_isCommit (x2) (φ_forest)).bind fun r4 => (if (b2i r4) = 0 then (some ((-1 : Int32), v_reason, v_detail, φ_forest)) else ((f1_bundleKind (φ_forest)).bind fun r7 => (if r7 = (-1 : Int32) then ((f0_refuse ((nI 9)) (r7) (v_reason) (v_detail)).bind fun (r10, w11, w12) => (some (r10, w11, w12, φ_forest))) else ((f1_kindOf (x2) (φ_forest)).bind fun r14 => (if r7 = r14 then ((f1_placeOf (x2) (φ_forest)).bind fun r17 => (if r17 = (-1 : Int32) then ((f1_fillPlace (x1) (x2) (φ_forest)).bind fun w20 => ((f1_bundledCount (w20)).bind fun r22 => (some (r22, v_reason, v_detail, w20)))) else ((f0_refuse ((nI 10)) (r17) (v_reason) (v_detail)).bind fun (r24, w25, w26) => (some (r24, w25, w26, φ_forest))))) else ((f0_refuse ((nI 9)) (r7) (v_reason) (v_detail)).bind fun (r28, w29, w30) => (some (r28, w29, w30, φ_forest)))))))))))
set_option maxHeartbeats 4000000 in
set_option maxRecDepth 100000 in
theorem c0_tryPut (l : Launch) (E : PE) (a : Nat → Nat) (a_forest : Nat → Nat) (r_this_mix : Nat) (x1 : Int32) (x2 : Int32) (v_reason : Int32) (v_detail : Int32) (φ_forest : Fo) (r : Int32) (z_this_reason : Int32) (z_this_detail : Int32) (z_forest_φ : Fo) (h : f0_tryPut x1 x2 v_reason v_detail φ_forest = some (r, z_this_reason, z_this_detail, z_forest_φ)) : MW l yX0_tryPut cX0_tryPut 5 (some .int) { frames := 1, cells := 0, slots := 0, locals := 22 } E [.ref (a 0), .int x1, .int x2] ([gX0 E a (a_forest 0) r_this_mix v_reason v_detail, gX1 E a_forest φ_forest] : List va_W).flatten 0 0 (some (.int r)) ([gX0 E a (a_forest 0) r_this_mix z_this_reason z_this_detail, gX1 E a_forest z_forest_φ] : List va_W).flatten := by
  refine px_startW (by decide +kernel) (Nat.le_of_ble_eq_true rfl) ?_
  intro p e s m args below meth c R Q A ls hC hA0 hQ
  obtain ⟨hx, hb, hr, hml, hts, hown, hlocks, hR, hK, hN, hP, hD, hA, hl, hin⟩ := hC
  have hl : lv_has ls 5 [(0, .ref (a 0)), (1, .int x1), (2, .int x2)] := hl
  suffices key : ∀ (H : Heap) (locs : List Loc), va_P E.1 vwCl ([gX0 E a (a_forest 0) r_this_mix v_reason v_detail, gX1 E a_forest φ_forest] : List va_W).flatten H → va_S A s.heap H locs → W p l e R s m args below meth c H locs 0 0 Q (F0 m 0 ls []) from key s.heap [] hP va_S.rf
  unfold f0_tryPut at h
  intro H locs hP hS
  refine lv_iload_n hx hb dX0_tryPut_0 rfl (lv_at hl 1 rfl) ?_
  obtain ⟨r1, hr2, h⟩ := ob h
  refine px_SNp (As := [.int x1]) (rest := []) (gs := ([gX0 E a (a_forest 0) r_this_mix v_reason v_detail, gX1 E a_forest φ_forest] : List va_W)) (gc := ([] : List va_W)) ⟨hx, hb, hml, hown, hts⟩ (c8_isPlace l E   (x1)  r1 hr2) ⟨va_cnB 1 hts (ws_g q1151) rfl rfl rfl (hN _ (List.mem_of_getElem? (i := 5) rfl)) (hts _ q18) hdS_X8_isPlace (by rw [hR]; exact ⟨Nat.le_of_ble_eq_true rfl, Nat.le_of_ble_eq_true rfl⟩), hts _ q1150, trivial⟩ hK hN hP hD [] rfl (by decide) rfl hl.1 rfl (Nat.le_of_ble_eq_true rfl) dX0_tryPut_1 (by rw [hR]; exact ⟨Nat.le_of_ble_eq_true rfl, Nat.le_of_ble_eq_true rfl⟩) ?_
  refine W.eq (g2 := F0 m 4 ls [.int (b2i r1)]) rfl ?_
  refine lv_if_eq (tgt := 18) hx hb dX0_tryPut_4 (by decide) (fun c3 => ?_) (fun c3 => ?_)
  · rw [if_pos c3] at h
    refine lv_iconst (v := (-1 : Int32)) hx hb dX0_tryPut_18 (by decide) ?_
    cases h
    exact px_eWi hA0 hQ hP hD hS hx hb hr hlocks dX0_tryPut_19
  · rw [if_neg c3] at h
    refine lv_aload_n hx hb dX0_tryPut_7 rfl (lv_at hl 0 rfl) ?_
    refine va_get (D := E.1) (ci := 0) (v := .ref (a_forest 0)) (C := RX0) (T := TX0) (N := 4) hx hb hts iX0 hown hK hP 0 rfl rfl 0 (by decide) (hts _ q139) (fun _ h9 => h9) rfl dX0_tryPut_8 ?_
    refine lv_iload_n hx hb dX0_tryPut_11 rfl (lv_at hl 2 rfl) ?_
    obtain ⟨r4, hr5, h⟩ := ob h
    refine px_Vp (As := [.int x2]) (rest := []) (gs := ([gX0 E a (a_forest 0) r_this_mix v_reason v_detail, gX1 E a_forest φ_forest] : List va_W)) (gc := ([gX1 E a_forest φ_forest] : List va_W)) ⟨hx, hb, hml, hown, hts⟩ (c1_isCommit l E a_forest  (x2) (φ_forest) r4 hr5) (cwV 1 hts (ws_v q486 q487 q488 q19 q489) rfl rfl rfl hdV_X1_isCommit (by rw [hR]; exact ⟨Nat.le_of_ble_eq_true rfl, Nat.le_of_ble_eq_true rfl⟩)) hK hN hP hD [1] rfl (by decide) 0 1 rfl rfl rfl rfl hl.1 rfl (Nat.le_of_ble_eq_true rfl) dX0_tryPut_12 (by rw [hR]; exact ⟨Nat.le_of_ble_eq_true rfl, Nat.le_of_ble_eq_true rfl⟩) ?_
    refine W.eq (g2 := F0 m 15 ls [.int (b2i r4)]) rfl ?_
    refine lv_if_ne (tgt := 20) hx hb dX0_tryPut_15 (by decide) (fun c6 => ?_) (fun c6 => ?_)
    · rw [if_neg c6] at h
      refine lv_aload_n hx hb dX0_tryPut_20 rfl (lv_at hl 0 rfl) ?_
      refine va_get (D := E.1) (ci := 0) (v := .ref (a_forest 0)) (C := RX0) (T := TX0) (N := 4) hx hb hts iX0 hown hK hP 0 rfl rfl 0 (by decide) (hts _ q139) (fun _ h9 => h9) rfl dX0_tryPut_21 ?_
      obtain ⟨r7, hr8, h⟩ := ob h
      refine px_Vp (As := []) (rest := []) (gs := ([gX0 E a (a_forest 0) r_this_mix v_reason v_detail, gX1 E a_forest φ_forest] : List va_W)) (gc := ([gX1 E a_forest φ_forest] : List va_W)) ⟨hx, hb, hml, hown, hts⟩ (c1_bundleKind l E a_forest   (φ_forest) r7 hr8) (cwV 0 hts (ws_v q1172 q868 q869 q19 q870) rfl rfl rfl hdV_X1_bundleKind (by rw [hR]; exact ⟨Nat.le_of_ble_eq_true rfl, Nat.le_of_ble_eq_true rfl⟩)) hK hN hP hD [1] rfl (by decide) 0 1 rfl rfl rfl rfl hl.1 rfl (Nat.le_of_ble_eq_true rfl) dX0_tryPut_24 (by rw [hR]; exact ⟨Nat.le_of_ble_eq_true rfl, Nat.le_of_ble_eq_true rfl⟩) ?_
      refine W.eq (g2 := F0 m 27 ls [.int r7]) rfl ?_
      refine lv_istore_n (lv' := [(3, .int r7), (0, .ref (a 0)), (1, .int x1), (2, .int x2)]) hx hb dX0_tryPut_27 rfl hl (by decide) rfl (fun ls hl => ?_)
      refine lv_iload_n hx hb dX0_tryPut_28 rfl (lv_at hl 0 rfl) ?_
      refine lv_iconst (v := (-1 : Int32)) hx hb dX0_tryPut_29 (by decide) ?_
      refine lv_icmp_eq (tgt := 45) hx hb dX0_tryPut_30 (by decide) (fun c9 => ?_) (fun c9 => ?_)
      · rw [if_pos c9] at h
        refine lv_aload_n hx hb dX0_tryPut_45 rfl (lv_at hl 1 rfl) ?_
        refine lv_bipush (v := (nI 9)) hx hb dX0_tryPut_46 (by decide) ?_
        refine lv_iload_n hx hb dX0_tryPut_48 rfl (lv_at hl 0 rfl) ?_
        obtain ⟨⟨r10, w11, w12⟩, hr13, h⟩ := ob h
        dsimp only at h
        refine px_V (As := [.int (nI 9), .int r7]) (rest := []) (gs := ([gX0 E a (a_forest 0) r_this_mix v_reason v_detail, gX1 E a_forest φ_forest] : List va_W)) (gr := ([gX1 E a_forest φ_forest] : List va_W)) (gc := ([gX0 E a (a_forest 0) r_this_mix v_reason v_detail] : List va_W)) (g1 := ([gX0 E a (a_forest 0) r_this_mix w11 w12] : List va_W)) (g2 := ([gX0 E a (a_forest 0) r_this_mix w11 w12, gX1 E a_forest φ_forest] : List va_W)) ⟨hx, hb, hml, hown, hts⟩ (c0_refuse l E a (a_forest 0) r_this_mix ((nI 9)) (r7) (v_reason) (v_detail) r10 w11 w12 hr13) (cwV 2 hts (ws_v q302 q304 q0 q21 q305) rfl rfl rfl hdV_X0_refuse (by rw [hR]; exact ⟨Nat.le_of_ble_eq_true rfl, Nat.le_of_ble_eq_true rfl⟩)) hK hN hP hD hS hA [1] [0] [1, 0] rfl rfl (by decide) (by decide) rfl (by decide) 0 0 rfl rfl rfl rfl hl.1 rfl (Nat.le_of_ble_eq_true rfl) dX0_tryPut_49 (by rw [hR]; exact ⟨Nat.le_of_ble_eq_true rfl, Nat.le_of_ble_eq_true rfl⟩) (fun H locs hP hD hS => ?_)
        refine W.eq (g2 := F0 m 52 ls [.int r10]) rfl ?_
        cases h
        exact px_eWi hA0 hQ hP hD hS hx hb hr hlocks dX0_tryPut_52
      · rw [if_neg c9] at h
        refine lv_iload_n hx hb dX0_tryPut_33 rfl (lv_at hl 0 rfl) ?_
        refine lv_aload_n hx hb dX0_tryPut_34 rfl (lv_at hl 1 rfl) ?_
        refine va_get (D := E.1) (ci := 0) (v := .ref (a_forest 0)) (C := RX0) (T := TX0) (N := 4) hx hb hts iX0 hown hK hP 0 rfl rfl 0 (by decide) (hts _ q139) (fun _ h9 => h9) rfl dX0_tryPut_35 ?_
        refine lv_iload_n hx hb dX0_tryPut_38 rfl (lv_at hl 3 rfl) ?_
        obtain ⟨r14, hr15, h⟩ := ob h
        refine px_Vp (As := [.int x2]) (rest := [.int r7]) (gs := ([gX0 E a (a_forest 0) r_this_mix v_reason v_detail, gX1 E a_forest φ_forest] : List va_W)) (gc := ([gX1 E a_forest φ_forest] : List va_W)) ⟨hx, hb, hml, hown, hts⟩ (c1_kindOf l E a_forest  (x2) (φ_forest) r14 hr15) (cwV 1 hts (ws_v q1173 q522 q523 q19 q524) rfl rfl rfl hdV_X1_kindOf (by rw [hR]; exact ⟨Nat.le_of_ble_eq_true rfl, Nat.le_of_ble_eq_true rfl⟩)) hK hN hP hD [1] rfl (by decide) 0 1 rfl rfl rfl rfl hl.1 rfl (Nat.le_of_ble_eq_true rfl) dX0_tryPut_39 (by rw [hR]; exact ⟨Nat.le_of_ble_eq_true rfl, Nat.le_of_ble_eq_true rfl⟩) ?_
        refine W.eq (g2 := F0 m 42 ls [.int r14, .int r7]) rfl ?_
        refine lv_icmp_eq (tgt := 53) hx hb dX0_tryPut_42 (by decide) (fun c16 => ?_) (fun c16 => ?_)
        · rw [if_pos c16] at h
          refine lv_aload_n hx hb dX0_tryPut_53 rfl (lv_at hl 1 rfl) ?_
          refine va_get (D := E.1) (ci := 0) (v := .ref (a_forest 0)) (C := RX0) (T := TX0) (N := 4) hx hb hts iX0 hown hK hP 0 rfl rfl 0 (by decide) (hts _ q139) (fun _ h9 => h9) rfl dX0_tryPut_54 ?_
          refine lv_iload_n hx hb dX0_tryPut_57 rfl (lv_at hl 3 rfl) ?_
          obtain ⟨r17, hr18, h⟩ := ob h
          refine px_Vp (As := [.int x2]) (rest := []) (gs := ([gX0 E a (a_forest 0) r_this_mix v_reason v_detail, gX1 E a_forest φ_forest] : List va_W)) (gc := ([gX1 E a_forest φ_forest] : List va_W)) ⟨hx, hb, hml, hown, hts⟩ (c1_placeOf l E a_forest  (x2) (φ_forest) r17 hr18) (cwV 1 hts (ws_v q1174 q1175 q1176 q19 q1177) rfl rfl rfl hdV_X1_placeOf (by rw [hR]; exact ⟨Nat.le_of_ble_eq_true rfl, Nat.le_of_ble_eq_true rfl⟩)) hK hN hP hD [1] rfl (by decide) 0 1 rfl rfl rfl rfl hl.1 rfl (Nat.le_of_ble_eq_true rfl) dX0_tryPut_58 (by rw [hR]; exact ⟨Nat.le_of_ble_eq_true rfl, Nat.le_of_ble_eq_true rfl⟩) ?_
          refine W.eq (g2 := F0 m 61 ls [.int r17]) rfl ?_
          refine lv_istore (lv' := [(4, .int r17), (3, .int r7), (0, .ref (a 0)), (1, .int x1), (2, .int x2)]) hx hb dX0_tryPut_61 hl (by decide) rfl (fun ls hl => ?_)
          refine lv_iload hx hb dX0_tryPut_63 (lv_at hl 0 rfl) ?_
          refine lv_iconst (v := (-1 : Int32)) hx hb dX0_tryPut_65 (by decide) ?_
          refine lv_icmp_eq (tgt := 78) hx hb dX0_tryPut_66 (by decide) (fun c19 => ?_) (fun c19 => ?_)
          · rw [if_pos c19] at h
            refine lv_aload_n hx hb dX0_tryPut_78 rfl (lv_at hl 2 rfl) ?_
            refine va_get (D := E.1) (ci := 0) (v := .ref (a_forest 0)) (C := RX0) (T := TX0) (N := 4) hx hb hts iX0 hown hK hP 0 rfl rfl 0 (by decide) (hts _ q139) (fun _ h9 => h9) rfl dX0_tryPut_79 ?_
            refine lv_iload_n hx hb dX0_tryPut_82 rfl (lv_at hl 3 rfl) ?_
            refine lv_iload_n hx hb dX0_tryPut_83 rfl (lv_at hl 4 rfl) ?_
            obtain ⟨w20, hr21, h⟩ := ob h
            refine px_V (As := [.int x1, .int x2]) (rest := []) (gs := ([gX0 E a (a_forest 0) r_this_mix v_reason v_detail, gX1 E a_forest φ_forest] : List va_W)) (gr := ([gX0 E a (a_forest 0) r_this_mix v_reason v_detail] : List va_W)) (gc := ([gX1 E a_forest φ_forest] : List va_W)) (g1 := ([gX1 E a_forest w20] : List va_W)) (g2 := ([gX0 E a (a_forest 0) r_this_mix v_reason v_detail, gX1 E a_forest w20] : List va_W)) ⟨hx, hb, hml, hown, hts⟩ (c1_fillPlace l E a_forest  (x1) (x2) (φ_forest) w20 hr21) (cwV 2 hts (ws_v q1178 q1179 q1180 q19 q1181) rfl rfl rfl hdV_X1_fillPlace (by rw [hR]; exact ⟨Nat.le_of_ble_eq_true rfl, Nat.le_of_ble_eq_true rfl⟩)) hK hN hP hD hS hA [0] [1] [0, 1] rfl rfl (by decide) (by decide) rfl (by decide) 0 1 rfl rfl rfl rfl hl.1 rfl (Nat.le_of_ble_eq_true rfl) dX0_tryPut_84 (by rw [hR]; exact ⟨Nat.le_of_ble_eq_true rfl, Nat.le_of_ble_eq_true rfl⟩) (fun H locs hP hD hS => ?_)
            refine W.eq (g2 := F0 m 87 ls []) rfl ?_
            refine lv_aload_n hx hb dX0_tryPut_87 rfl (lv_at hl 2 rfl) ?_
            refine va_get (D := E.1) (ci := 0) (v := .ref (a_forest 0)) (C := RX0) (T := TX0) (N := 4) hx hb hts iX0 hown hK hP 0 rfl rfl 0 (by decide) (hts _ q139) (fun _ h9 => h9) rfl dX0_tryPut_88 ?_
            obtain ⟨r22, hr23, h⟩ := ob h
            refine px_Vp (As := []) (rest := []) (gs := ([gX0 E a (a_forest 0) r_this_mix v_reason v_detail, gX1 E a_forest w20] : List va_W)) (gc := ([gX1 E a_forest w20] : List va_W)) ⟨hx, hb, hml, hown, hts⟩ (c1_bundledCount l E a_forest   (w20) r22 hr23) (cwV 0 hts (ws_v q691 q692 q693 q19 q694) rfl rfl rfl hdV_X1_bundledCount (by rw [hR]; exact ⟨Nat.le_of_ble_eq_true rfl, Nat.le_of_ble_eq_true rfl⟩)) hK hN hP hD [1] rfl (by decide) 0 1 rfl rfl rfl rfl hl.1 rfl (Nat.le_of_ble_eq_true rfl) dX0_tryPut_91 (by rw [hR]; exact ⟨Nat.le_of_ble_eq_true rfl, Nat.le_of_ble_eq_true rfl⟩) ?_
            refine W.eq (g2 := F0 m 94 ls [.int r22]) rfl ?_
            cases h
            exact px_eWi hA0 hQ hP hD hS hx hb hr hlocks dX0_tryPut_94
          · rw [if_neg c19] at h
            refine lv_aload_n hx hb dX0_tryPut_69 rfl (lv_at hl 2 rfl) ?_
            refine lv_bipush (v := (nI 10)) hx hb dX0_tryPut_70 (by decide) ?_
            refine lv_iload hx hb dX0_tryPut_72 (lv_at hl 0 rfl) ?_
            obtain ⟨⟨r24, w25, w26⟩, hr27, h⟩ := ob h
            dsimp only at h
            refine px_V (As := [.int (nI 10), .int r17]) (rest := []) (gs := ([gX0 E a (a_forest 0) r_this_mix v_reason v_detail, gX1 E a_forest φ_forest] : List va_W)) (gr := ([gX1 E a_forest φ_forest] : List va_W)) (gc := ([gX0 E a (a_forest 0) r_this_mix v_reason v_detail] : List va_W)) (g1 := ([gX0 E a (a_forest 0) r_this_mix w25 w26] : List va_W)) (g2 := ([gX0 E a (a_forest 0) r_this_mix w25 w26, gX1 E a_forest φ_forest] : List va_W)) ⟨hx, hb, hml, hown, hts⟩ (c0_refuse l E a (a_forest 0) r_this_mix ((nI 10)) (r17) (v_reason) (v_detail) r24 w25 w26 hr27) (cwV 2 hts (ws_v q302 q304 q0 q21 q305) rfl rfl rfl hdV_X0_refuse (by rw [hR]; exact ⟨Nat.le_of_ble_eq_true rfl, Nat.le_of_ble_eq_true rfl⟩)) hK hN hP hD hS hA [1] [0] [1, 0] rfl rfl (by decide) (by decide) rfl (by decide) 0 0 rfl rfl rfl rfl hl.1 rfl (Nat.le_of_ble_eq_true rfl) dX0_tryPut_74 (by rw [hR]; exact ⟨Nat.le_of_ble_eq_true rfl, Nat.le_of_ble_eq_true rfl⟩) (fun H locs hP hD hS => ?_)
            refine W.eq (g2 := F0 m 77 ls [.int r24]) rfl ?_
            cases h
            exact px_eWi hA0 hQ hP hD hS hx hb hr hlocks dX0_tryPut_77
        · rw [if_neg c16] at h
          refine lv_aload_n hx hb dX0_tryPut_45 rfl (lv_at hl 1 rfl) ?_
          refine lv_bipush (v := (nI 9)) hx hb dX0_tryPut_46 (by decide) ?_
          refine lv_iload_n hx hb dX0_tryPut_48 rfl (lv_at hl 0 rfl) ?_
          obtain ⟨⟨r28, w29, w30⟩, hr31, h⟩ := ob h
          dsimp only at h
          refine px_V (As := [.int (nI 9), .int r7]) (rest := []) (gs := ([gX0 E a (a_forest 0) r_this_mix v_reason v_detail, gX1 E a_forest φ_forest] : List va_W)) (gr := ([gX1 E a_forest φ_forest] : List va_W)) (gc := ([gX0 E a (a_forest 0) r_this_mix v_reason v_detail] : List va_W)) (g1 := ([gX0 E a (a_forest 0) r_this_mix w29 w30] : List va_W)) (g2 := ([gX0 E a (a_forest 0) r_this_mix w29 w30, gX1 E a_forest φ_forest] : List va_W)) ⟨hx, hb, hml, hown, hts⟩ (c0_refuse l E a (a_forest 0) r_this_mix ((nI 9)) (r7) (v_reason) (v_detail) r28 w29 w30 hr31) (cwV 2 hts (ws_v q302 q304 q0 q21 q305) rfl rfl rfl hdV_X0_refuse (by rw [hR]; exact ⟨Nat.le_of_ble_eq_true rfl, Nat.le_of_ble_eq_true rfl⟩)) hK hN hP hD hS hA [1] [0] [1, 0] rfl rfl (by decide) (by decide) rfl (by decide) 0 0 rfl rfl rfl rfl hl.1 rfl (Nat.le_of_ble_eq_true rfl) dX0_tryPut_49 (by rw [hR]; exact ⟨Nat.le_of_ble_eq_true rfl, Nat.le_of_ble_eq_true rfl⟩) (fun H locs hP hD hS => ?_)
          refine W.eq (g2 := F0 m 52 ls [.int r28]) rfl ?_
          cases h
          exact px_eWi hA0 hQ hP hD hS hx hb hr hlocks dX0_tryPut_52
    · rw [if_pos c6] at h
      refine lv_iconst (v := (-1 : Int32)) hx hb dX0_tryPut_18 (by decide) ?_
      cases h
      exact px_eWi hA0 hQ hP hD hS hx hb hr hlocks dX0_tryPut_19
def f0_tryPlay_L52 (x1 : Int32) (x2 : Int32) : Nat → Int32 → Int32 → Int32 → Int32 → AI → Int32 → Int32 → Fo → Option (Int32 × Int32 × Int32 × AI × Int32 × Int32 × Fo)
  | 0, _, _, _, _, _, _, _, _ => none
  | n + 1, x3, x4, v_reason, v_detail, mix_row, mix_conflictCount, mix_lowest, φ_forest => (if (nI 4) ≤ x4 then (some (x3, v_reason, v_detail, mix_row, mix_conflictCount, mix_lowest, φ_forest)) else ((f1_bundledAt (x4) (φ_forest)).bind fun r17 => (if r17 = (-1 : Int32) then (f0_tryPlay_L52 x1 x2 n (x3) ((x4 + nI 1)) (v_reason) (v_detail) (mix_row) (mix_conflictCount) (mix_lowest) (φ_forest)) else ((f0_tryPick (x1) (r17) (x2) (v_reason) (v_detail) (mix_row) (mix_conflictCount) (mix_lowest) (φ_forest)).bind fun (r20, w21, w22, w23, w24, w25, w26) => (if 0 ≤ r20 then (f0_tryPlay_L52 x1 x2 n ((x3 + nI 1)) ((x4 + nI 1)) (w21) (w22) (w23) (w24) (w25) (w26)) else (some (r20, w21, w22, w23, w24, w25, w26)))))))
def f0_tryPlay (x1 : Int32) (x2 : Int32) (v_reason : Int32) (v_detail : Int32) (mix_row : AI) (mix_conflictCount : Int32) (mix_lowest : Int32) (φ_forest : Fo) : Option (Int32 × Int32 × Int32 × AI × Int32 × Int32 × Fo) := ((f1_isBranch (x1) (φ_forest)).bind fun r1 => (if (b2i r1) = 0 then (some ((-1 : Int32), v_reason, v_detail, mix_row, mix_conflictCount, mix_lowest, φ_forest)) else ((f8_isRule (x2)).bind fun r4 => (if (b2i r4) = 0 then (some ((-2 : Int32), v_reason, v_detail, mix_row, mix_conflictCount, mix_lowest, φ_forest)) else ((f1_bundledCount (φ_forest)).bind fun r7 => (if r7 = 0 then ((f1_bundleKind (φ_forest)).bind fun r10 => ((f0_refuse ((nI 11)) (r10) (v_reason) (v_detail)).bind fun (r12, w13, w14) => (some (r12, w13, w14, mix_row, mix_conflictCount, mix_lowest, φ_forest)))) else (f0_tryPlay_L52 x1 x2 fuel ((nI 0)) ((nI 0)) (v_reason) (v_detail) (mix_row) (mix_conflictCount) (mix_lowest) (φ_forest))))))))
set_option maxHeartbeats 4000000 in
set_option maxRecDepth 100000 in
theorem c0_tryPlay (l : Launch) (E : PE) (a : Nat → Nat) (a_mix : Nat → Nat) (a_forest : Nat → Nat)  (x1 : Int32) (x2 : Int32) (v_reason : Int32) (v_detail : Int32) (mix_row : AI) (mix_conflictCount : Int32) (mix_lowest : Int32) (φ_forest : Fo) (r : Int32) (z_this_reason : Int32) (z_this_detail : Int32) (z_mix_row : AI) (z_mix_conflictCount : Int32) (z_mix_lowest : Int32) (z_forest_φ : Fo) (h : f0_tryPlay x1 x2 v_reason v_detail mix_row mix_conflictCount mix_lowest φ_forest = some (r, z_this_reason, z_this_detail, z_mix_row, z_mix_conflictCount, z_mix_lowest, z_forest_φ)) : MW l yX0_tryPlay cX0_tryPlay 7 (some .int) { frames := 4, cells := 0, slots := 0, locals := 99 } E [.ref (a 0), .int x1, .int x2] ([gX0 E a (a_forest 0) (a_mix 0) v_reason v_detail, gX5 E a_mix mix_row mix_conflictCount mix_lowest, gX1 E a_forest φ_forest] : List va_W).flatten 0 0 (some (.int r)) ([gX0 E a (a_forest 0) (a_mix 0) z_this_reason z_this_detail, gX5 E a_mix z_mix_row z_mix_conflictCount z_mix_lowest, gX1 E a_forest z_forest_φ] : List va_W).flatten := by
  refine px_startW (by decide +kernel) (Nat.le_of_ble_eq_true rfl) ?_
  intro p e s m args below meth c R Q A ls hC hA0 hQ
  obtain ⟨hx, hb, hr, hml, hts, hown, hlocks, hR, hK, hN, hP, hD, hA, hl, hin⟩ := hC
  have hl : lv_has ls 7 [(0, .ref (a 0)), (1, .int x1), (2, .int x2)] := hl
  suffices key : ∀ (H : Heap) (locs : List Loc), va_P E.1 vwCl ([gX0 E a (a_forest 0) (a_mix 0) v_reason v_detail, gX5 E a_mix mix_row mix_conflictCount mix_lowest, gX1 E a_forest φ_forest] : List va_W).flatten H → va_S A s.heap H locs → W p l e R s m args below meth c H locs 0 0 Q (F0 m 0 ls []) from key s.heap [] hP va_S.rf
  unfold f0_tryPlay at h
  have L52 : ∀ (n : Nat) (x3 : Int32) (x4 : Int32) (v_reason : Int32) (v_detail : Int32) (mix_row : AI) (mix_conflictCount : Int32) (mix_lowest : Int32) (φ_forest : Fo) (H : Heap) (locs : List Loc) (ls : Array Slot), va_P E.1 vwCl ([gX0 E a (a_forest 0) (a_mix 0) v_reason v_detail, gX5 E a_mix mix_row mix_conflictCount mix_lowest, gX1 E a_forest φ_forest] : List va_W).flatten H → va_D A ([gX0 E a (a_forest 0) (a_mix 0) v_reason v_detail, gX5 E a_mix mix_row mix_conflictCount mix_lowest, gX1 E a_forest φ_forest] : List va_W).flatten → va_S A s.heap H locs → lv_has ls 7 [(0, .ref (a 0)), (1, .int x1), (2, .int x2), (3, .int x3), (4, .int x4)] → f0_tryPlay_L52 x1 x2 n x3 x4 v_reason v_detail mix_row mix_conflictCount mix_lowest φ_forest = some (r, z_this_reason, z_this_detail, z_mix_row, z_mix_conflictCount, z_mix_lowest, z_forest_φ) → W p l e R s m args below meth c H locs 0 0 Q (F0 m 52 ls []) := by
    intro n
    induction n with
    | zero =>
      intro x3 x4 v_reason v_detail mix_row mix_conflictCount mix_lowest φ_forest H locs ls hP hD hS hl h
      unfold f0_tryPlay_L52 at h; cases h
    | succ n ih =>
      intro x3 x4 v_reason v_detail mix_row mix_conflictCount mix_lowest φ_forest H locs ls hP hD hS hl h
      unfold f0_tryPlay_L52 at h
      refine lv_iload hx hb dX0_tryPlay_52 (lv_at hl 4 rfl) ?_
      refine lv_iconst (v := (nI 4)) hx hb dX0_tryPlay_54 (by decide) ?_
      refine lv_icmp_ge (tgt := 102) hx hb dX0_tryPlay_55 (by decide) (fun c16 => ?_) (fun c16 => ?_)
      · rw [if_pos c16] at h
        refine lv_iload_n hx hb dX0_tryPlay_102 rfl (lv_at hl 3 rfl) ?_
        cases h
        exact px_eWi hA0 hQ hP hD hS hx hb hr hlocks dX0_tryPlay_103
      · rw [if_neg c16] at h
        refine lv_aload_n hx hb dX0_tryPlay_58 rfl (lv_at hl 0 rfl) ?_
        refine va_get (D := E.1) (ci := 0) (v := .ref (a_forest 0)) (C := RX0) (T := TX0) (N := 4) hx hb hts iX0 hown hK hP 0 rfl rfl 0 (by decide) (hts _ q139) (fun _ h9 => h9) rfl dX0_tryPlay_59 ?_
        refine lv_iload hx hb dX0_tryPlay_62 (lv_at hl 4 rfl) ?_
        obtain ⟨r17, hr18, h⟩ := ob h
        refine px_Vp (As := [.int x4]) (rest := []) (gs := ([gX0 E a (a_forest 0) (a_mix 0) v_reason v_detail, gX5 E a_mix mix_row mix_conflictCount mix_lowest, gX1 E a_forest φ_forest] : List va_W)) (gc := ([gX1 E a_forest φ_forest] : List va_W)) ⟨hx, hb, hml, hown, hts⟩ (c1_bundledAt l E a_forest  (x4) (φ_forest) r17 hr18) (cwV 1 hts (ws_v q1193 q1153 q1154 q19 q1155) rfl rfl rfl hdV_X1_bundledAt (by rw [hR]; exact ⟨Nat.le_of_ble_eq_true rfl, Nat.le_of_ble_eq_true rfl⟩)) hK hN hP hD [2] rfl (by decide) 0 1 rfl rfl rfl rfl hl.1 rfl (Nat.le_of_ble_eq_true rfl) dX0_tryPlay_64 (by rw [hR]; exact ⟨Nat.le_of_ble_eq_true rfl, Nat.le_of_ble_eq_true rfl⟩) ?_
        refine W.eq (g2 := F0 m 67 ls [.int r17]) rfl ?_
        refine lv_istore (lv' := [(5, .int r17), (0, .ref (a 0)), (1, .int x1), (2, .int x2), (3, .int x3), (4, .int x4)]) hx hb dX0_tryPlay_67 hl (by decide) rfl (fun ls hl => ?_)
        refine lv_iload hx hb dX0_tryPlay_69 (lv_at hl 0 rfl) ?_
        refine lv_iconst (v := (-1 : Int32)) hx hb dX0_tryPlay_71 (by decide) ?_
        refine lv_icmp_eq (tgt := 96) hx hb dX0_tryPlay_72 (by decide) (fun c19 => ?_) (fun c19 => ?_)
        · rw [if_pos c19] at h
          refine lv_iinc (v := (x4 + nI 1)) (lv' := [(4, .int (x4 + nI 1)), (5, .int r17), (0, .ref (a 0)), (1, .int x1), (2, .int x2), (3, .int x3)]) hx hb dX0_tryPlay_96 hl (k := 5) rfl rfl (by decide) rfl (fun ls hl => ?_)
          refine lv_goto (tgt := 52) hx hb dX0_tryPlay_99 (by decide) ?_
          exact ih (x3) ((x4 + nI 1)) (v_reason) (v_detail) (mix_row) (mix_conflictCount) (mix_lowest) (φ_forest) H locs ls hP hD hS (lv_sub hl [2, 3, 4, 5, 0] rfl) h
        · rw [if_neg c19] at h
          refine lv_aload_n hx hb dX0_tryPlay_75 rfl (lv_at hl 1 rfl) ?_
          refine lv_iload_n hx hb dX0_tryPlay_76 rfl (lv_at hl 2 rfl) ?_
          refine lv_iload hx hb dX0_tryPlay_77 (lv_at hl 0 rfl) ?_
          refine lv_iload_n hx hb dX0_tryPlay_79 rfl (lv_at hl 3 rfl) ?_
          obtain ⟨⟨r20, w21, w22, w23, w24, w25, w26⟩, hr27, h⟩ := ob h
          dsimp only at h
          refine px_V (As := [.int x1, .int r17, .int x2]) (rest := []) (gs := ([gX0 E a (a_forest 0) (a_mix 0) v_reason v_detail, gX5 E a_mix mix_row mix_conflictCount mix_lowest, gX1 E a_forest φ_forest] : List va_W)) (gr := ([] : List va_W)) (gc := ([gX0 E a (a_forest 0) (a_mix 0) v_reason v_detail, gX5 E a_mix mix_row mix_conflictCount mix_lowest, gX1 E a_forest φ_forest] : List va_W)) (g1 := ([gX0 E a (a_forest 0) (a_mix 0) w21 w22, gX5 E a_mix w23 w24 w25, gX1 E a_forest w26] : List va_W)) (g2 := ([gX0 E a (a_forest 0) (a_mix 0) w21 w22, gX5 E a_mix w23 w24 w25, gX1 E a_forest w26] : List va_W)) ⟨hx, hb, hml, hown, hts⟩ (c0_tryPick l E a a_mix a_forest  (x1) (r17) (x2) (v_reason) (v_detail) (mix_row) (mix_conflictCount) (mix_lowest) (φ_forest) r20 w21 w22 w23 w24 w25 w26 hr27) (cwV 3 hts (ws_v q1194 q843 q844 q21 q845) rfl rfl rfl hdV_X0_tryPick (by rw [hR]; exact ⟨Nat.le_of_ble_eq_true rfl, Nat.le_of_ble_eq_true rfl⟩)) hK hN hP hD hS hA [] [0, 1, 2] [0, 1, 2] rfl rfl (by decide) (by decide) rfl (by decide) 0 0 rfl rfl rfl rfl hl.1 rfl (Nat.le_of_ble_eq_true rfl) dX0_tryPlay_80 (by rw [hR]; exact ⟨Nat.le_of_ble_eq_true rfl, Nat.le_of_ble_eq_true rfl⟩) (fun H locs hP hD hS => ?_)
          refine W.eq (g2 := F0 m 83 ls [.int r20]) rfl ?_
          refine lv_istore (lv' := [(6, .int r20), (5, .int r17), (0, .ref (a 0)), (1, .int x1), (2, .int x2), (3, .int x3), (4, .int x4)]) hx hb dX0_tryPlay_83 hl (by decide) rfl (fun ls hl => ?_)
          refine lv_iload hx hb dX0_tryPlay_85 (lv_at hl 0 rfl) ?_
          refine lv_if_ge (tgt := 93) hx hb dX0_tryPlay_87 (by decide) (fun c28 => ?_) (fun c28 => ?_)
          · rw [if_pos c28] at h
            refine lv_iinc (v := (x3 + nI 1)) (lv' := [(3, .int (x3 + nI 1)), (6, .int r20), (5, .int r17), (0, .ref (a 0)), (1, .int x1), (2, .int x2), (4, .int x4)]) hx hb dX0_tryPlay_93 hl (k := 5) rfl rfl (by decide) rfl (fun ls hl => ?_)
            refine lv_iinc (v := (x4 + nI 1)) (lv' := [(4, .int (x4 + nI 1)), (3, .int (x3 + nI 1)), (6, .int r20), (5, .int r17), (0, .ref (a 0)), (1, .int x1), (2, .int x2)]) hx hb dX0_tryPlay_96 hl (k := 6) rfl rfl (by decide) rfl (fun ls hl => ?_)
            refine lv_goto (tgt := 52) hx hb dX0_tryPlay_99 (by decide) ?_
            exact ih ((x3 + nI 1)) ((x4 + nI 1)) (w21) (w22) (w23) (w24) (w25) (w26) H locs ls hP hD hS (lv_sub hl [4, 5, 6, 1, 0] rfl) h
          · rw [if_neg c28] at h
            refine lv_iload hx hb dX0_tryPlay_90 (lv_at hl 0 rfl) ?_
            cases h
            exact px_eWi hA0 hQ hP hD hS hx hb hr hlocks dX0_tryPlay_92
  intro H locs hP hS
  refine lv_aload_n hx hb dX0_tryPlay_0 rfl (lv_at hl 0 rfl) ?_
  refine va_get (D := E.1) (ci := 0) (v := .ref (a_forest 0)) (C := RX0) (T := TX0) (N := 4) hx hb hts iX0 hown hK hP 0 rfl rfl 0 (by decide) (hts _ q139) (fun _ h9 => h9) rfl dX0_tryPlay_1 ?_
  refine lv_iload_n hx hb dX0_tryPlay_4 rfl (lv_at hl 1 rfl) ?_
  obtain ⟨r1, hr2, h⟩ := ob h
  refine px_Vp (As := [.int x1]) (rest := []) (gs := ([gX0 E a (a_forest 0) (a_mix 0) v_reason v_detail, gX5 E a_mix mix_row mix_conflictCount mix_lowest, gX1 E a_forest φ_forest] : List va_W)) (gc := ([gX1 E a_forest φ_forest] : List va_W)) ⟨hx, hb, hml, hown, hts⟩ (c1_isBranch l E a_forest  (x1) (φ_forest) r1 hr2) (cwV 1 hts (ws_v q284 q285 q286 q19 q287) rfl rfl rfl hdV_X1_isBranch (by rw [hR]; exact ⟨Nat.le_of_ble_eq_true rfl, Nat.le_of_ble_eq_true rfl⟩)) hK hN hP hD [2] rfl (by decide) 0 1 rfl rfl rfl rfl hl.1 rfl (Nat.le_of_ble_eq_true rfl) dX0_tryPlay_5 (by rw [hR]; exact ⟨Nat.le_of_ble_eq_true rfl, Nat.le_of_ble_eq_true rfl⟩) ?_
  refine W.eq (g2 := F0 m 8 ls [.int (b2i r1)]) rfl ?_
  refine lv_if_ne (tgt := 13) hx hb dX0_tryPlay_8 (by decide) (fun c3 => ?_) (fun c3 => ?_)
  · rw [if_neg c3] at h
    refine lv_iload_n hx hb dX0_tryPlay_13 rfl (lv_at hl 2 rfl) ?_
    obtain ⟨r4, hr5, h⟩ := ob h
    refine px_SNp (As := [.int x2]) (rest := []) (gs := ([gX0 E a (a_forest 0) (a_mix 0) v_reason v_detail, gX5 E a_mix mix_row mix_conflictCount mix_lowest, gX1 E a_forest φ_forest] : List va_W)) (gc := ([] : List va_W)) ⟨hx, hb, hml, hown, hts⟩ (c8_isRule l E   (x2)  r4 hr5) ⟨va_cnB 1 hts (ws_g q561) rfl rfl rfl (hN _ (List.mem_of_getElem? (i := 3) rfl)) (hts _ q18) hdS_X8_isRule (by rw [hR]; exact ⟨Nat.le_of_ble_eq_true rfl, Nat.le_of_ble_eq_true rfl⟩), hts _ q560, trivial⟩ hK hN hP hD [] rfl (by decide) rfl hl.1 rfl (Nat.le_of_ble_eq_true rfl) dX0_tryPlay_14 (by rw [hR]; exact ⟨Nat.le_of_ble_eq_true rfl, Nat.le_of_ble_eq_true rfl⟩) ?_
    refine W.eq (g2 := F0 m 17 ls [.int (b2i r4)]) rfl ?_
    refine lv_if_ne (tgt := 23) hx hb dX0_tryPlay_17 (by decide) (fun c6 => ?_) (fun c6 => ?_)
    · rw [if_neg c6] at h
      refine lv_aload_n hx hb dX0_tryPlay_23 rfl (lv_at hl 0 rfl) ?_
      refine va_get (D := E.1) (ci := 0) (v := .ref (a_forest 0)) (C := RX0) (T := TX0) (N := 4) hx hb hts iX0 hown hK hP 0 rfl rfl 0 (by decide) (hts _ q139) (fun _ h9 => h9) rfl dX0_tryPlay_24 ?_
      obtain ⟨r7, hr8, h⟩ := ob h
      refine px_Vp (As := []) (rest := []) (gs := ([gX0 E a (a_forest 0) (a_mix 0) v_reason v_detail, gX5 E a_mix mix_row mix_conflictCount mix_lowest, gX1 E a_forest φ_forest] : List va_W)) (gc := ([gX1 E a_forest φ_forest] : List va_W)) ⟨hx, hb, hml, hown, hts⟩ (c1_bundledCount l E a_forest   (φ_forest) r7 hr8) (cwV 0 hts (ws_v q691 q692 q693 q19 q694) rfl rfl rfl hdV_X1_bundledCount (by rw [hR]; exact ⟨Nat.le_of_ble_eq_true rfl, Nat.le_of_ble_eq_true rfl⟩)) hK hN hP hD [2] rfl (by decide) 0 1 rfl rfl rfl rfl hl.1 rfl (Nat.le_of_ble_eq_true rfl) dX0_tryPlay_27 (by rw [hR]; exact ⟨Nat.le_of_ble_eq_true rfl, Nat.le_of_ble_eq_true rfl⟩) ?_
      refine W.eq (g2 := F0 m 30 ls [.int r7]) rfl ?_
      refine lv_if_ne (tgt := 47) hx hb dX0_tryPlay_30 (by decide) (fun c9 => ?_) (fun c9 => ?_)
      · rw [if_neg c9] at h
        refine lv_iconst (v := (nI 0)) hx hb dX0_tryPlay_47 (by decide) ?_
        refine lv_istore_n (lv' := [(3, .int (nI 0)), (0, .ref (a 0)), (1, .int x1), (2, .int x2)]) hx hb dX0_tryPlay_48 rfl hl (by decide) rfl (fun ls hl => ?_)
        refine lv_iconst (v := (nI 0)) hx hb dX0_tryPlay_49 (by decide) ?_
        refine lv_istore (lv' := [(4, .int (nI 0)), (3, .int (nI 0)), (0, .ref (a 0)), (1, .int x1), (2, .int x2)]) hx hb dX0_tryPlay_50 hl (by decide) rfl (fun ls hl => ?_)
        exact L52 fuel ((nI 0)) ((nI 0)) (v_reason) (v_detail) (mix_row) (mix_conflictCount) (mix_lowest) (φ_forest) H locs ls hP hD hS (lv_sub hl [2, 3, 4, 1, 0] rfl) h
      · rw [if_pos c9] at h
        refine lv_aload_n hx hb dX0_tryPlay_33 rfl (lv_at hl 0 rfl) ?_
        refine lv_bipush (v := (nI 11)) hx hb dX0_tryPlay_34 (by decide) ?_
        refine lv_aload_n hx hb dX0_tryPlay_36 rfl (lv_at hl 0 rfl) ?_
        refine va_get (D := E.1) (ci := 0) (v := .ref (a_forest 0)) (C := RX0) (T := TX0) (N := 4) hx hb hts iX0 hown hK hP 0 rfl rfl 0 (by decide) (hts _ q139) (fun _ h9 => h9) rfl dX0_tryPlay_37 ?_
        obtain ⟨r10, hr11, h⟩ := ob h
        refine px_Vp (As := []) (rest := [.int (nI 11), .ref (a 0)]) (gs := ([gX0 E a (a_forest 0) (a_mix 0) v_reason v_detail, gX5 E a_mix mix_row mix_conflictCount mix_lowest, gX1 E a_forest φ_forest] : List va_W)) (gc := ([gX1 E a_forest φ_forest] : List va_W)) ⟨hx, hb, hml, hown, hts⟩ (c1_bundleKind l E a_forest   (φ_forest) r10 hr11) (cwV 0 hts (ws_v q1172 q868 q869 q19 q870) rfl rfl rfl hdV_X1_bundleKind (by rw [hR]; exact ⟨Nat.le_of_ble_eq_true rfl, Nat.le_of_ble_eq_true rfl⟩)) hK hN hP hD [2] rfl (by decide) 0 1 rfl rfl rfl rfl hl.1 rfl (Nat.le_of_ble_eq_true rfl) dX0_tryPlay_40 (by rw [hR]; exact ⟨Nat.le_of_ble_eq_true rfl, Nat.le_of_ble_eq_true rfl⟩) ?_
        refine W.eq (g2 := F0 m 43 ls [.int r10, .int (nI 11), .ref (a 0)]) rfl ?_
        obtain ⟨⟨r12, w13, w14⟩, hr15, h⟩ := ob h
        dsimp only at h
        refine px_V (As := [.int (nI 11), .int r10]) (rest := []) (gs := ([gX0 E a (a_forest 0) (a_mix 0) v_reason v_detail, gX5 E a_mix mix_row mix_conflictCount mix_lowest, gX1 E a_forest φ_forest] : List va_W)) (gr := ([gX5 E a_mix mix_row mix_conflictCount mix_lowest, gX1 E a_forest φ_forest] : List va_W)) (gc := ([gX0 E a (a_forest 0) (a_mix 0) v_reason v_detail] : List va_W)) (g1 := ([gX0 E a (a_forest 0) (a_mix 0) w13 w14] : List va_W)) (g2 := ([gX0 E a (a_forest 0) (a_mix 0) w13 w14, gX5 E a_mix mix_row mix_conflictCount mix_lowest, gX1 E a_forest φ_forest] : List va_W)) ⟨hx, hb, hml, hown, hts⟩ (c0_refuse l E a (a_forest 0) (a_mix 0) ((nI 11)) (r10) (v_reason) (v_detail) r12 w13 w14 hr15) (cwV 2 hts (ws_v q302 q304 q0 q21 q305) rfl rfl rfl hdV_X0_refuse (by rw [hR]; exact ⟨Nat.le_of_ble_eq_true rfl, Nat.le_of_ble_eq_true rfl⟩)) hK hN hP hD hS hA [1, 2] [0] [2, 0, 1] rfl rfl (by decide) (by decide) rfl (by decide) 0 0 rfl rfl rfl rfl hl.1 rfl (Nat.le_of_ble_eq_true rfl) dX0_tryPlay_43 (by rw [hR]; exact ⟨Nat.le_of_ble_eq_true rfl, Nat.le_of_ble_eq_true rfl⟩) (fun H locs hP hD hS => ?_)
        refine W.eq (g2 := F0 m 46 ls [.int r12]) rfl ?_
        cases h
        exact px_eWi hA0 hQ hP hD hS hx hb hr hlocks dX0_tryPlay_46
    · rw [if_pos c6] at h
      refine lv_bipush (v := (-2 : Int32)) hx hb dX0_tryPlay_20 (by decide) ?_
      cases h
      exact px_eWi hA0 hQ hP hD hS hx hb hr hlocks dX0_tryPlay_22
  · rw [if_pos c3] at h
    refine lv_iconst (v := (-1 : Int32)) hx hb dX0_tryPlay_11 (by decide) ?_
    cases h
    exact px_eWi hA0 hQ hP hD hS hx hb hr hlocks dX0_tryPlay_12
def f0_conflictsBetween (x1 : Int32) (x2 : Int32) (mix_row : AI) (mix_conflictCount : Int32) (mix_lowest : Int32) (φ_forest : Fo) : Option (Int32 × AI × Int32 × Int32) := ((f1_commonGround (x1) (x2) (φ_forest)).bind fun r1 => ((f5_putTogether (x1) (x2) (r1) ((nI 0)) (mix_row) (mix_conflictCount) (mix_lowest) (φ_forest)).bind fun (w3, w4, w5) => ((f5_conflictsFound (w4)).bind fun r7 => (some (r7, w3, w4, w5)))))
set_option maxHeartbeats 4000000 in
set_option maxRecDepth 100000 in
theorem c0_conflictsBetween (l : Launch) (E : PE) (a : Nat → Nat) (a_mix : Nat → Nat) (a_forest : Nat → Nat)  (x1 : Int32) (x2 : Int32) (v_reason : Int32) (v_detail : Int32) (mix_row : AI) (mix_conflictCount : Int32) (mix_lowest : Int32) (φ_forest : Fo) (r : Int32) (z_mix_row : AI) (z_mix_conflictCount : Int32) (z_mix_lowest : Int32) (h : f0_conflictsBetween x1 x2 mix_row mix_conflictCount mix_lowest φ_forest = some (r, z_mix_row, z_mix_conflictCount, z_mix_lowest)) : MW l yX0_conflictsBetween cX0_conflictsBetween 3 (some .int) { frames := 2, cells := 0, slots := 0, locals := 51 } E [.ref (a 0), .int x1, .int x2] ([gX0 E a (a_forest 0) (a_mix 0) v_reason v_detail, gX5 E a_mix mix_row mix_conflictCount mix_lowest, gX1 E a_forest φ_forest] : List va_W).flatten 0 0 (some (.int r)) ([gX0 E a (a_forest 0) (a_mix 0) v_reason v_detail, gX5 E a_mix z_mix_row z_mix_conflictCount z_mix_lowest, gX1 E a_forest φ_forest] : List va_W).flatten := by
  refine px_startW (by decide +kernel) (Nat.le_of_ble_eq_true rfl) ?_
  intro p e s m args below meth c R Q A ls hC hA0 hQ
  obtain ⟨hx, hb, hr, hml, hts, hown, hlocks, hR, hK, hN, hP, hD, hA, hl, hin⟩ := hC
  have hl : lv_has ls 3 [(0, .ref (a 0)), (1, .int x1), (2, .int x2)] := hl
  suffices key : ∀ (H : Heap) (locs : List Loc), va_P E.1 vwCl ([gX0 E a (a_forest 0) (a_mix 0) v_reason v_detail, gX5 E a_mix mix_row mix_conflictCount mix_lowest, gX1 E a_forest φ_forest] : List va_W).flatten H → va_S A s.heap H locs → W p l e R s m args below meth c H locs 0 0 Q (F0 m 0 ls []) from key s.heap [] hP va_S.rf
  unfold f0_conflictsBetween at h
  intro H locs hP hS
  refine lv_aload_n hx hb dX0_conflictsBetween_0 rfl (lv_at hl 0 rfl) ?_
  refine va_get (D := E.1) (ci := 0) (v := .ref (a_mix 0)) (C := RX0) (T := TX0) (N := 4) hx hb hts iX0 hown hK hP 0 rfl rfl 1 (by decide) (hts _ q140) (fun _ h9 => h9) rfl dX0_conflictsBetween_1 ?_
  refine lv_aload_n hx hb dX0_conflictsBetween_4 rfl (lv_at hl 0 rfl) ?_
  refine va_get (D := E.1) (ci := 0) (v := .ref (a_forest 0)) (C := RX0) (T := TX0) (N := 4) hx hb hts iX0 hown hK hP 0 rfl rfl 0 (by decide) (hts _ q139) (fun _ h9 => h9) rfl dX0_conflictsBetween_5 ?_
  refine lv_iload_n hx hb dX0_conflictsBetween_8 rfl (lv_at hl 1 rfl) ?_
  refine lv_iload_n hx hb dX0_conflictsBetween_9 rfl (lv_at hl 2 rfl) ?_
  refine lv_aload_n hx hb dX0_conflictsBetween_10 rfl (lv_at hl 0 rfl) ?_
  refine va_get (D := E.1) (ci := 0) (v := .ref (a_forest 0)) (C := RX0) (T := TX0) (N := 4) hx hb hts iX0 hown hK hP 0 rfl rfl 0 (by decide) (hts _ q139) (fun _ h9 => h9) rfl dX0_conflictsBetween_11 ?_
  refine lv_iload_n hx hb dX0_conflictsBetween_14 rfl (lv_at hl 1 rfl) ?_
  refine lv_iload_n hx hb dX0_conflictsBetween_15 rfl (lv_at hl 2 rfl) ?_
  obtain ⟨r1, hr2, h⟩ := ob h
  refine px_Vp (As := [.int x1, .int x2]) (rest := [.int x2, .int x1, .ref (a_forest 0), .ref (a_mix 0)]) (gs := ([gX0 E a (a_forest 0) (a_mix 0) v_reason v_detail, gX5 E a_mix mix_row mix_conflictCount mix_lowest, gX1 E a_forest φ_forest] : List va_W)) (gc := ([gX1 E a_forest φ_forest] : List va_W)) ⟨hx, hb, hml, hown, hts⟩ (c1_commonGround l E a_forest  (x1) (x2) (φ_forest) r1 hr2) (cwV 2 hts (ws_v q569 q570 q571 q19 q572) rfl rfl rfl hdV_X1_commonGround (by rw [hR]; exact ⟨Nat.le_of_ble_eq_true rfl, Nat.le_of_ble_eq_true rfl⟩)) hK hN hP hD [2] rfl (by decide) 0 1 rfl rfl rfl rfl hl.1 rfl (Nat.le_of_ble_eq_true rfl) dX0_conflictsBetween_16 (by rw [hR]; exact ⟨Nat.le_of_ble_eq_true rfl, Nat.le_of_ble_eq_true rfl⟩) ?_
  refine W.eq (g2 := F0 m 19 ls [.int r1, .int x2, .int x1, .ref (a_forest 0), .ref (a_mix 0)]) rfl ?_
  refine lv_iconst (v := (nI 0)) hx hb dX0_conflictsBetween_19 (by decide) ?_
  obtain ⟨⟨w3, w4, w5⟩, hr6, h⟩ := ob h
  dsimp only at h
  refine px_V (As := [.ref (a_forest 0), .int x1, .int x2, .int r1, .int (nI 0)]) (rest := []) (gs := ([gX0 E a (a_forest 0) (a_mix 0) v_reason v_detail, gX5 E a_mix mix_row mix_conflictCount mix_lowest, gX1 E a_forest φ_forest] : List va_W)) (gr := ([gX0 E a (a_forest 0) (a_mix 0) v_reason v_detail] : List va_W)) (gc := ([gX5 E a_mix mix_row mix_conflictCount mix_lowest, gX1 E a_forest φ_forest] : List va_W)) (g1 := ([gX5 E a_mix w3 w4 w5, gX1 E a_forest φ_forest] : List va_W)) (g2 := ([gX0 E a (a_forest 0) (a_mix 0) v_reason v_detail, gX5 E a_mix w3 w4 w5, gX1 E a_forest φ_forest] : List va_W)) ⟨hx, hb, hml, hown, hts⟩ (c5_putTogether l E a_mix a_forest  (x1) (x2) (r1) ((nI 0)) (mix_row) (mix_conflictCount) (mix_lowest) (φ_forest) w3 w4 w5 hr6) (cwV 5 hts (ws_v q574 q575 q576 q22 q577) rfl rfl rfl hdV_X5_putTogether (by rw [hR]; exact ⟨Nat.le_of_ble_eq_true rfl, Nat.le_of_ble_eq_true rfl⟩)) hK hN hP hD hS hA [0] [1, 2] [0, 1, 2] rfl rfl (by decide) (by decide) rfl (by decide) 0 5 rfl rfl rfl rfl hl.1 rfl (Nat.le_of_ble_eq_true rfl) dX0_conflictsBetween_20 (by rw [hR]; exact ⟨Nat.le_of_ble_eq_true rfl, Nat.le_of_ble_eq_true rfl⟩) (fun H locs hP hD hS => ?_)
  refine W.eq (g2 := F0 m 23 ls []) rfl ?_
  refine lv_aload_n hx hb dX0_conflictsBetween_23 rfl (lv_at hl 0 rfl) ?_
  refine va_get (D := E.1) (ci := 0) (v := .ref (a_mix 0)) (C := RX0) (T := TX0) (N := 4) hx hb hts iX0 hown hK hP 0 rfl rfl 1 (by decide) (hts _ q140) (fun _ h9 => h9) rfl dX0_conflictsBetween_24 ?_
  obtain ⟨r7, hr8, h⟩ := ob h
  refine px_Vp (As := []) (rest := []) (gs := ([gX0 E a (a_forest 0) (a_mix 0) v_reason v_detail, gX5 E a_mix w3 w4 w5, gX1 E a_forest φ_forest] : List va_W)) (gc := ([gX5 E a_mix w3 w4 w5] : List va_W)) ⟨hx, hb, hml, hown, hts⟩ (c5_conflictsFound l E a_mix   (w3) (w4) (w5) r7 hr8) (cwV 0 hts (ws_v q585 q586 q587 q22 q588) rfl rfl rfl hdV_X5_conflictsFound (by rw [hR]; exact ⟨Nat.le_of_ble_eq_true rfl, Nat.le_of_ble_eq_true rfl⟩)) hK hN hP hD [1] rfl (by decide) 0 5 rfl rfl rfl rfl hl.1 rfl (Nat.le_of_ble_eq_true rfl) dX0_conflictsBetween_27 (by rw [hR]; exact ⟨Nat.le_of_ble_eq_true rfl, Nat.le_of_ble_eq_true rfl⟩) ?_
  refine W.eq (g2 := F0 m 30 ls [.int r7]) rfl ?_
  cases h
  exact px_eWi hA0 hQ hP hD hS hx hb hr hlocks dX0_conflictsBetween_30
