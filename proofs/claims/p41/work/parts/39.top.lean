def f8_halve (x1 : Int32) (x2 : Int32) (x3 : Int32) (x4 : Int32) (φ_forest : Fo) (walk_commits : AI) (walk_length : Int32) (walk_looks : Int32) : Option (Nat × Int32 × AI × Int32 × Int32) := ((f8_needBranch (x1) (φ_forest)).bind fun k2 => (if k2 = 0 then ((f8_needIngredient (x2)).bind fun k4 => (if k4 = 0 then ((f8_needAmount (x3)).bind fun k6 => (if k6 = 0 then ((f1_tipOf (x1) (φ_forest)).bind fun r7 => ((f1_amountIn (r7) (x2) (φ_forest)).bind fun r9 => (if x3 < r9 then ((f7_follow (r7) (walk_commits) (walk_length) (φ_forest)).bind fun (w12, w13) => ((f7_searchByHalves (x2) (x3) (w12) (w13) (walk_looks) (φ_forest)).bind fun (r15, w16) => (if x4 = 0 then (some (0, r15, w12, w13, w16)) else ((f7_looksTaken (w16)).bind fun r19 => (some (0, r19, w12, w13, w16)))))) else (some (4, (nI 0), walk_commits, walk_length, walk_looks))))) else (some (k6, (nI 0), walk_commits, walk_length, walk_looks)))) else (some (k4, (nI 0), walk_commits, walk_length, walk_looks)))) else (some (k2, (nI 0), walk_commits, walk_length, walk_looks))))
set_option maxHeartbeats 4000000 in
set_option maxRecDepth 100000 in
theorem c8_halve (l : Launch) (hlt : l.stackTraces = false) (E : PE) (X : PX) (a : Nat → Nat) (a_forest : Nat → Nat) (a_walk : Nat → Nat) (r_this_before : Nat) (r_this_saved : Nat) (r_this_history : Nat) (r_this_desk : Nat) (r_this_input : Nat) (r_this_orders : Nat) (r_this_written : Nat) (x1 : Int32) (x2 : Int32) (x3 : Int32) (x4 : Int32) (v_isSaved : Int32) (v_wrongPosition : Int32) (φ_forest : Fo) (walk_commits : AI) (walk_length : Int32) (walk_looks : Int32) (k : Nat) (r : Int32) (z_walk_commits : AI) (z_walk_length : Int32) (z_walk_looks : Int32) (h : f8_halve x1 x2 x3 x4 φ_forest walk_commits walk_length walk_looks = some (k, r, z_walk_commits, z_walk_length, z_walk_looks)) : MT l yX8_halve cX8_halve 7 (some .int) { frames := 7, cells := 4, slots := 24, locals := 111 } E X [.ref (a 0), .int x1, .int x2, .int x3, .int x4] ([gX8 E a (a_forest 0) r_this_before r_this_saved v_isSaved r_this_history r_this_desk (a_walk 0) r_this_input r_this_orders r_this_written v_wrongPosition, gX1 E a_forest φ_forest, gX7 E a_walk walk_commits walk_length walk_looks] : List va_W).flatten 4 24 k (some (.int r)) ([gX8 E a (a_forest 0) r_this_before r_this_saved v_isSaved r_this_history r_this_desk (a_walk 0) r_this_input r_this_orders r_this_written v_wrongPosition, gX1 E a_forest φ_forest, gX7 E a_walk z_walk_commits z_walk_length z_walk_looks] : List va_W).flatten := by
  refine px_startT (by decide +kernel) (Nat.le_of_ble_eq_true rfl) ?_
  intro p e s m args below meth c R Q A ls hC hX hA0 hQ htb
  obtain ⟨hx, hb, hr, hml, hts, hown, hlocks, hR, hK, hN, hP, hD, hA, hl, hin⟩ := hC
  have hl : lv_has ls 7 [(0, .ref (a 0)), (1, .int x1), (2, .int x2), (3, .int x3), (4, .int x4)] := hl
  suffices key : ∀ (H : Heap) (locs : List Loc), va_P E.1 vwCl ([gX8 E a (a_forest 0) r_this_before r_this_saved v_isSaved r_this_history r_this_desk (a_walk 0) r_this_input r_this_orders r_this_written v_wrongPosition, gX1 E a_forest φ_forest, gX7 E a_walk walk_commits walk_length walk_looks] : List va_W).flatten H → va_S A s.heap H locs → W p l e R s m args below meth c H locs 0 0 Q (F0 m 0 ls []) from key s.heap [] hP va_S.rf
  unfold f8_halve at h
  intro H locs hP hS
  refine lv_aload_n hx hb dX8_halve_0 rfl (lv_at hl 0 rfl) ?_
  refine lv_iload_n hx hb dX8_halve_1 rfl (lv_at hl 1 rfl) ?_
  obtain ⟨k2, hr1, h⟩ := ob h
  refine px_VT (As := [.int x1]) (rest := []) (gs := ([gX8 E a (a_forest 0) r_this_before r_this_saved v_isSaved r_this_history r_this_desk (a_walk 0) r_this_input r_this_orders r_this_written v_wrongPosition, gX1 E a_forest φ_forest, gX7 E a_walk walk_commits walk_length walk_looks] : List va_W)) (gr := ([gX7 E a_walk walk_commits walk_length walk_looks] : List va_W)) (gc := ([gX8 E a (a_forest 0) r_this_before r_this_saved v_isSaved r_this_history r_this_desk (a_walk 0) r_this_input r_this_orders r_this_written v_wrongPosition, gX1 E a_forest φ_forest] : List va_W)) (g1 := ([gX8 E a (a_forest 0) r_this_before r_this_saved v_isSaved r_this_history r_this_desk (a_walk 0) r_this_input r_this_orders r_this_written v_wrongPosition, gX1 E a_forest φ_forest] : List va_W)) (g2 := ([gX8 E a (a_forest 0) r_this_before r_this_saved v_isSaved r_this_history r_this_desk (a_walk 0) r_this_input r_this_orders r_this_written v_wrongPosition, gX1 E a_forest φ_forest, gX7 E a_walk walk_commits walk_length walk_looks] : List va_W)) ⟨hx, hb, hml, hown, hts⟩ (c8_needBranch l hlt E X a a_forest r_this_before r_this_saved r_this_history r_this_desk (a_walk 0) r_this_input r_this_orders r_this_written (x1) (v_isSaved) (v_wrongPosition) (φ_forest) k2 hr1) (cwV 1 hts (ws_v q501 q503 q4 q18 q504) rfl rfl rfl hdV_X8_needBranch (by rw [hR]; exact ⟨Nat.le_of_ble_eq_true rfl, Nat.le_of_ble_eq_true rfl⟩)) hK hN hX hP hD hS hA [2] [0, 1] [1, 2, 0] rfl rfl (by decide) (by decide) rfl (by decide) 0 8 rfl rfl rfl rfl hl.1 rfl (Nat.le_of_ble_eq_true rfl) dX8_halve_2 (by rw [hR]; exact ⟨Nat.le_of_ble_eq_true rfl, Nat.le_of_ble_eq_true rfl⟩) (fun hk q9 ce H locs hP hD hS hc1 hc2 hc3 => ?_) (fun hk H locs hP hD hS => ?_)
  · rw [if_neg hk] at h
    cases h
    exact px_outT hk rfl hc1 hc2 hc3 hA0 hQ hP hD hS htb hlocks (by decide) (by decide)
  rw [if_pos hk] at h
  refine W.eq (g2 := F0 m 5 ls []) rfl ?_
  refine lv_aload_n hx hb dX8_halve_5 rfl (lv_at hl 0 rfl) ?_
  refine lv_iload_n hx hb dX8_halve_6 rfl (lv_at hl 2 rfl) ?_
  obtain ⟨k4, hr3, h⟩ := ob h
  refine px_VT (As := [.int x2]) (rest := []) (gs := ([gX8 E a (a_forest 0) r_this_before r_this_saved v_isSaved r_this_history r_this_desk (a_walk 0) r_this_input r_this_orders r_this_written v_wrongPosition, gX1 E a_forest φ_forest, gX7 E a_walk walk_commits walk_length walk_looks] : List va_W)) (gr := ([gX1 E a_forest φ_forest, gX7 E a_walk walk_commits walk_length walk_looks] : List va_W)) (gc := ([gX8 E a (a_forest 0) r_this_before r_this_saved v_isSaved r_this_history r_this_desk (a_walk 0) r_this_input r_this_orders r_this_written v_wrongPosition] : List va_W)) (g1 := ([gX8 E a (a_forest 0) r_this_before r_this_saved v_isSaved r_this_history r_this_desk (a_walk 0) r_this_input r_this_orders r_this_written v_wrongPosition] : List va_W)) (g2 := ([gX8 E a (a_forest 0) r_this_before r_this_saved v_isSaved r_this_history r_this_desk (a_walk 0) r_this_input r_this_orders r_this_written v_wrongPosition, gX1 E a_forest φ_forest, gX7 E a_walk walk_commits walk_length walk_looks] : List va_W)) ⟨hx, hb, hml, hown, hts⟩ (c8_needIngredient l hlt E X a (a_forest 0) r_this_before r_this_saved r_this_history r_this_desk (a_walk 0) r_this_input r_this_orders r_this_written (x2) (v_isSaved) (v_wrongPosition) k4 hr3) (cwV 1 hts (ws_v q621 q623 q8 q18 q624) rfl rfl rfl hdV_X8_needIngredient (by rw [hR]; exact ⟨Nat.le_of_ble_eq_true rfl, Nat.le_of_ble_eq_true rfl⟩)) hK hN hX hP hD hS hA [1, 2] [0] [2, 0, 1] rfl rfl (by decide) (by decide) rfl (by decide) 0 8 rfl rfl rfl rfl hl.1 rfl (Nat.le_of_ble_eq_true rfl) dX8_halve_7 (by rw [hR]; exact ⟨Nat.le_of_ble_eq_true rfl, Nat.le_of_ble_eq_true rfl⟩) (fun hk q9 ce H locs hP hD hS hc1 hc2 hc3 => ?_) (fun hk H locs hP hD hS => ?_)
  · rw [if_neg hk] at h
    cases h
    exact px_outT hk rfl hc1 hc2 hc3 hA0 hQ hP hD hS htb hlocks (by decide) (by decide)
  rw [if_pos hk] at h
  refine W.eq (g2 := F0 m 10 ls []) rfl ?_
  refine lv_aload_n hx hb dX8_halve_10 rfl (lv_at hl 0 rfl) ?_
  refine lv_iload_n hx hb dX8_halve_11 rfl (lv_at hl 3 rfl) ?_
  obtain ⟨k6, hr5, h⟩ := ob h
  refine px_VT (As := [.int x3]) (rest := []) (gs := ([gX8 E a (a_forest 0) r_this_before r_this_saved v_isSaved r_this_history r_this_desk (a_walk 0) r_this_input r_this_orders r_this_written v_wrongPosition, gX1 E a_forest φ_forest, gX7 E a_walk walk_commits walk_length walk_looks] : List va_W)) (gr := ([gX1 E a_forest φ_forest, gX7 E a_walk walk_commits walk_length walk_looks] : List va_W)) (gc := ([gX8 E a (a_forest 0) r_this_before r_this_saved v_isSaved r_this_history r_this_desk (a_walk 0) r_this_input r_this_orders r_this_written v_wrongPosition] : List va_W)) (g1 := ([gX8 E a (a_forest 0) r_this_before r_this_saved v_isSaved r_this_history r_this_desk (a_walk 0) r_this_input r_this_orders r_this_written v_wrongPosition] : List va_W)) (g2 := ([gX8 E a (a_forest 0) r_this_before r_this_saved v_isSaved r_this_history r_this_desk (a_walk 0) r_this_input r_this_orders r_this_written v_wrongPosition, gX1 E a_forest φ_forest, gX7 E a_walk walk_commits walk_length walk_looks] : List va_W)) ⟨hx, hb, hml, hown, hts⟩ (c8_needAmount l hlt E X a (a_forest 0) r_this_before r_this_saved r_this_history r_this_desk (a_walk 0) r_this_input r_this_orders r_this_written (x3) (v_isSaved) (v_wrongPosition) k6 hr5) (cwV 1 hts (ws_v q627 q629 q9 q18 q630) rfl rfl rfl hdV_X8_needAmount (by rw [hR]; exact ⟨Nat.le_of_ble_eq_true rfl, Nat.le_of_ble_eq_true rfl⟩)) hK hN hX hP hD hS hA [1, 2] [0] [2, 0, 1] rfl rfl (by decide) (by decide) rfl (by decide) 0 8 rfl rfl rfl rfl hl.1 rfl (Nat.le_of_ble_eq_true rfl) dX8_halve_12 (by rw [hR]; exact ⟨Nat.le_of_ble_eq_true rfl, Nat.le_of_ble_eq_true rfl⟩) (fun hk q9 ce H locs hP hD hS hc1 hc2 hc3 => ?_) (fun hk H locs hP hD hS => ?_)
  · rw [if_neg hk] at h
    cases h
    exact px_outT hk rfl hc1 hc2 hc3 hA0 hQ hP hD hS htb hlocks (by decide) (by decide)
  rw [if_pos hk] at h
  refine W.eq (g2 := F0 m 15 ls []) rfl ?_
  refine lv_aload_n hx hb dX8_halve_15 rfl (lv_at hl 0 rfl) ?_
  refine va_get (D := E.1) (ci := 8) (v := .ref (a_forest 0)) (C := RX8) (T := TX8) (N := 11) hx hb hts iX8 hown hK hP 0 rfl rfl 0 (by decide) (hts _ q214) (fun _ h9 => h9) rfl dX8_halve_16 ?_
  refine lv_iload_n hx hb dX8_halve_19 rfl (lv_at hl 1 rfl) ?_
  obtain ⟨r7, hr8, h⟩ := ob h
  refine px_Vp (As := [.int x1]) (rest := []) (gs := ([gX8 E a (a_forest 0) r_this_before r_this_saved v_isSaved r_this_history r_this_desk (a_walk 0) r_this_input r_this_orders r_this_written v_wrongPosition, gX1 E a_forest φ_forest, gX7 E a_walk walk_commits walk_length walk_looks] : List va_W)) (gc := ([gX1 E a_forest φ_forest] : List va_W)) ⟨hx, hb, hml, hown, hts⟩ (c1_tipOf l E a_forest  (x1) (φ_forest) r7 hr8) (cwV 1 hts (ws_v q507 q295 q296 q19 q297) rfl rfl rfl hdV_X1_tipOf (by rw [hR]; exact ⟨Nat.le_of_ble_eq_true rfl, Nat.le_of_ble_eq_true rfl⟩)) hK hN hP hD [1] rfl (by decide) 0 1 rfl rfl rfl rfl hl.1 rfl (Nat.le_of_ble_eq_true rfl) dX8_halve_20 (by rw [hR]; exact ⟨Nat.le_of_ble_eq_true rfl, Nat.le_of_ble_eq_true rfl⟩) ?_
  refine W.eq (g2 := F0 m 23 ls [.int r7]) rfl ?_
  refine lv_istore (lv' := [(5, .int r7), (0, .ref (a 0)), (1, .int x1), (2, .int x2), (3, .int x3), (4, .int x4)]) hx hb dX8_halve_23 hl (by decide) rfl (fun ls hl => ?_)
  refine lv_aload_n hx hb dX8_halve_25 rfl (lv_at hl 1 rfl) ?_
  refine va_get (D := E.1) (ci := 8) (v := .ref (a_forest 0)) (C := RX8) (T := TX8) (N := 11) hx hb hts iX8 hown hK hP 0 rfl rfl 0 (by decide) (hts _ q214) (fun _ h9 => h9) rfl dX8_halve_26 ?_
  refine lv_iload hx hb dX8_halve_29 (lv_at hl 0 rfl) ?_
  refine lv_iload_n hx hb dX8_halve_31 rfl (lv_at hl 3 rfl) ?_
  obtain ⟨r9, hr10, h⟩ := ob h
  refine px_Vp (As := [.int r7, .int x2]) (rest := []) (gs := ([gX8 E a (a_forest 0) r_this_before r_this_saved v_isSaved r_this_history r_this_desk (a_walk 0) r_this_input r_this_orders r_this_written v_wrongPosition, gX1 E a_forest φ_forest, gX7 E a_walk walk_commits walk_length walk_looks] : List va_W)) (gc := ([gX1 E a_forest φ_forest] : List va_W)) ⟨hx, hb, hml, hown, hts⟩ (c1_amountIn l E a_forest  (r7) (x2) (φ_forest) r9 hr10) (cwV 2 hts (ws_v q633 q299 q300 q19 q301) rfl rfl rfl hdV_X1_amountIn (by rw [hR]; exact ⟨Nat.le_of_ble_eq_true rfl, Nat.le_of_ble_eq_true rfl⟩)) hK hN hP hD [1] rfl (by decide) 0 1 rfl rfl rfl rfl hl.1 rfl (Nat.le_of_ble_eq_true rfl) dX8_halve_32 (by rw [hR]; exact ⟨Nat.le_of_ble_eq_true rfl, Nat.le_of_ble_eq_true rfl⟩) ?_
  refine W.eq (g2 := F0 m 35 ls [.int r9]) rfl ?_
  refine lv_iload_n hx hb dX8_halve_35 rfl (lv_at hl 4 rfl) ?_
  refine lv_icmp_gt (tgt := 49) hx hb dX8_halve_36 (by decide) (fun c11 => ?_) (fun c11 => ?_)
  · rw [if_pos c11] at h
    refine lv_aload_n hx hb dX8_halve_49 rfl (lv_at hl 1 rfl) ?_
    refine va_get (D := E.1) (ci := 8) (v := .ref (a_walk 0)) (C := RX8) (T := TX8) (N := 11) hx hb hts iX8 hown hK hP 0 rfl rfl 6 (by decide) (hts _ q220) (fun _ h9 => h9) rfl dX8_halve_50 ?_
    refine lv_aload_n hx hb dX8_halve_53 rfl (lv_at hl 1 rfl) ?_
    refine va_get (D := E.1) (ci := 8) (v := .ref (a_forest 0)) (C := RX8) (T := TX8) (N := 11) hx hb hts iX8 hown hK hP 0 rfl rfl 0 (by decide) (hts _ q214) (fun _ h9 => h9) rfl dX8_halve_54 ?_
    refine lv_iload hx hb dX8_halve_57 (lv_at hl 0 rfl) ?_
    obtain ⟨⟨w12, w13⟩, hr14, h⟩ := ob h
    dsimp only at h
    refine px_V (As := [.ref (a_forest 0), .int r7]) (rest := []) (gs := ([gX8 E a (a_forest 0) r_this_before r_this_saved v_isSaved r_this_history r_this_desk (a_walk 0) r_this_input r_this_orders r_this_written v_wrongPosition, gX1 E a_forest φ_forest, gX7 E a_walk walk_commits walk_length walk_looks] : List va_W)) (gr := ([gX8 E a (a_forest 0) r_this_before r_this_saved v_isSaved r_this_history r_this_desk (a_walk 0) r_this_input r_this_orders r_this_written v_wrongPosition] : List va_W)) (gc := ([gX7 E a_walk walk_commits walk_length walk_looks, gX1 E a_forest φ_forest] : List va_W)) (g1 := ([gX7 E a_walk w12 w13 walk_looks, gX1 E a_forest φ_forest] : List va_W)) (g2 := ([gX8 E a (a_forest 0) r_this_before r_this_saved v_isSaved r_this_history r_this_desk (a_walk 0) r_this_input r_this_orders r_this_written v_wrongPosition, gX1 E a_forest φ_forest, gX7 E a_walk w12 w13 walk_looks] : List va_W)) ⟨hx, hb, hml, hown, hts⟩ (c7_follow l E a_walk a_forest  (r7) (walk_commits) (walk_length) (walk_looks) (φ_forest) w12 w13 hr14) (cwV 2 hts (ws_v q650 q651 q652 q23 q653) rfl rfl rfl hdV_X7_follow (by rw [hR]; exact ⟨Nat.le_of_ble_eq_true rfl, Nat.le_of_ble_eq_true rfl⟩)) hK hN hP hD hS hA [0] [2, 1] [0, 2, 1] rfl rfl (by decide) (by decide) rfl (by decide) 0 7 rfl rfl rfl rfl hl.1 rfl (Nat.le_of_ble_eq_true rfl) dX8_halve_59 (by rw [hR]; exact ⟨Nat.le_of_ble_eq_true rfl, Nat.le_of_ble_eq_true rfl⟩) (fun H locs hP hD hS => ?_)
    refine W.eq (g2 := F0 m 62 ls []) rfl ?_
    refine lv_aload_n hx hb dX8_halve_62 rfl (lv_at hl 1 rfl) ?_
    refine va_get (D := E.1) (ci := 8) (v := .ref (a_walk 0)) (C := RX8) (T := TX8) (N := 11) hx hb hts iX8 hown hK hP 0 rfl rfl 6 (by decide) (hts _ q220) (fun _ h9 => h9) rfl dX8_halve_63 ?_
    refine lv_aload_n hx hb dX8_halve_66 rfl (lv_at hl 1 rfl) ?_
    refine va_get (D := E.1) (ci := 8) (v := .ref (a_forest 0)) (C := RX8) (T := TX8) (N := 11) hx hb hts iX8 hown hK hP 0 rfl rfl 0 (by decide) (hts _ q214) (fun _ h9 => h9) rfl dX8_halve_67 ?_
    refine lv_iload_n hx hb dX8_halve_70 rfl (lv_at hl 3 rfl) ?_
    refine lv_iload_n hx hb dX8_halve_71 rfl (lv_at hl 4 rfl) ?_
    obtain ⟨⟨r15, w16⟩, hr17, h⟩ := ob h
    dsimp only at h
    refine px_V (As := [.ref (a_forest 0), .int x2, .int x3]) (rest := []) (gs := ([gX8 E a (a_forest 0) r_this_before r_this_saved v_isSaved r_this_history r_this_desk (a_walk 0) r_this_input r_this_orders r_this_written v_wrongPosition, gX1 E a_forest φ_forest, gX7 E a_walk w12 w13 walk_looks] : List va_W)) (gr := ([gX8 E a (a_forest 0) r_this_before r_this_saved v_isSaved r_this_history r_this_desk (a_walk 0) r_this_input r_this_orders r_this_written v_wrongPosition] : List va_W)) (gc := ([gX7 E a_walk w12 w13 walk_looks, gX1 E a_forest φ_forest] : List va_W)) (g1 := ([gX7 E a_walk w12 w13 w16, gX1 E a_forest φ_forest] : List va_W)) (g2 := ([gX8 E a (a_forest 0) r_this_before r_this_saved v_isSaved r_this_history r_this_desk (a_walk 0) r_this_input r_this_orders r_this_written v_wrongPosition, gX1 E a_forest φ_forest, gX7 E a_walk w12 w13 w16] : List va_W)) ⟨hx, hb, hml, hown, hts⟩ (c7_searchByHalves l E a_walk a_forest  (x2) (x3) (w12) (w13) (walk_looks) (φ_forest) r15 w16 hr17) (cwV 3 hts (ws_v q655 q656 q657 q23 q658) rfl rfl rfl hdV_X7_searchByHalves (by rw [hR]; exact ⟨Nat.le_of_ble_eq_true rfl, Nat.le_of_ble_eq_true rfl⟩)) hK hN hP hD hS hA [0] [2, 1] [0, 2, 1] rfl rfl (by decide) (by decide) rfl (by decide) 0 7 rfl rfl rfl rfl hl.1 rfl (Nat.le_of_ble_eq_true rfl) dX8_halve_72 (by rw [hR]; exact ⟨Nat.le_of_ble_eq_true rfl, Nat.le_of_ble_eq_true rfl⟩) (fun H locs hP hD hS => ?_)
    refine W.eq (g2 := F0 m 75 ls [.int r15]) rfl ?_
    refine lv_istore (lv' := [(6, .int r15), (5, .int r7), (0, .ref (a 0)), (1, .int x1), (2, .int x2), (3, .int x3), (4, .int x4)]) hx hb dX8_halve_75 hl (by decide) rfl (fun ls hl => ?_)
    refine lv_iload hx hb dX8_halve_77 (lv_at hl 6 rfl) ?_
    refine lv_if_eq (tgt := 92) hx hb dX8_halve_79 (by decide) (fun c18 => ?_) (fun c18 => ?_)
    · rw [if_pos c18] at h
      refine lv_iload hx hb dX8_halve_92 (lv_at hl 0 rfl) ?_
      cases h
      exact px_eTi (by decide) (by decide) hA0 hQ hP hD hS hx hb hr hlocks dX8_halve_94
    · rw [if_neg c18] at h
      refine lv_aload_n hx hb dX8_halve_82 rfl (lv_at hl 2 rfl) ?_
      refine va_get (D := E.1) (ci := 8) (v := .ref (a_walk 0)) (C := RX8) (T := TX8) (N := 11) hx hb hts iX8 hown hK hP 0 rfl rfl 6 (by decide) (hts _ q220) (fun _ h9 => h9) rfl dX8_halve_83 ?_
      obtain ⟨r19, hr20, h⟩ := ob h
      refine px_Vp (As := []) (rest := []) (gs := ([gX8 E a (a_forest 0) r_this_before r_this_saved v_isSaved r_this_history r_this_desk (a_walk 0) r_this_input r_this_orders r_this_written v_wrongPosition, gX1 E a_forest φ_forest, gX7 E a_walk w12 w13 w16] : List va_W)) (gc := ([gX7 E a_walk w12 w13 w16] : List va_W)) ⟨hx, hb, hml, hown, hts⟩ (c7_looksTaken l E a_walk   (w12) (w13) (w16) r19 hr20) (cwV 0 hts (ws_v q664 q665 q666 q23 q667) rfl rfl rfl hdV_X7_looksTaken (by rw [hR]; exact ⟨Nat.le_of_ble_eq_true rfl, Nat.le_of_ble_eq_true rfl⟩)) hK hN hP hD [2] rfl (by decide) 0 7 rfl rfl rfl rfl hl.1 rfl (Nat.le_of_ble_eq_true rfl) dX8_halve_86 (by rw [hR]; exact ⟨Nat.le_of_ble_eq_true rfl, Nat.le_of_ble_eq_true rfl⟩) ?_
      refine W.eq (g2 := F0 m 89 ls [.int r19]) rfl ?_
      refine lv_goto (tgt := 94) hx hb dX8_halve_89 (by decide) ?_
      cases h
      exact px_eTi (by decide) (by decide) hA0 hQ hP hD hS hx hb hr hlocks dX8_halve_94
  · rw [if_neg c11] at h
    cases h
    exact px_thr4S (i := 25) (tx := "the tip is not bad") hx hb hlt hown (hts _ q634) (hts _ q42) hX rfl (at_4_176 hts hX) ag_4_176 (by decide +kernel) hA0 hQ hP hD hS (hml.trans hl.1.symm) htb hlocks dX8_halve_39 dX8_halve_42 dX8_halve_43 dX8_halve_45 dX8_halve_48 (by rw [hR]; exact Nat.le_of_ble_eq_true rfl) (by rw [hR]; exact Nat.le_of_ble_eq_true rfl) (by rw [hR]; exact Nat.le_of_ble_eq_true rfl) (by rw [hR]; exact Nat.le_of_ble_eq_true rfl) (by decide) (by decide) (by decide)
def f8_firstBad (x1 : Int32) (x2 : Int32) (x3 : Int32) (φ_forest : Fo) (walk_commits : AI) (walk_length : Int32) : Option (Nat × Int32 × AI × Int32) := ((f8_needBranch (x1) (φ_forest)).bind fun k2 => (if k2 = 0 then ((f8_needIngredient (x2)).bind fun k4 => (if k4 = 0 then ((f8_needAmount (x3)).bind fun k6 => (if k6 = 0 then ((f1_tipOf (x1) (φ_forest)).bind fun r7 => ((f7_follow (r7) (walk_commits) (walk_length) (φ_forest)).bind fun (w9, w10) => ((f7_farthestBad (x2) (x3) (w9) (w10) (φ_forest)).bind fun r12 => (if r12 = (-1 : Int32) then (some (4, (nI 0), w9, w10)) else (some (0, r12, w9, w10)))))) else (some (k6, (nI 0), walk_commits, walk_length)))) else (some (k4, (nI 0), walk_commits, walk_length)))) else (some (k2, (nI 0), walk_commits, walk_length))))
set_option maxHeartbeats 4000000 in
set_option maxRecDepth 100000 in
theorem c8_firstBad (l : Launch) (hlt : l.stackTraces = false) (E : PE) (X : PX) (a : Nat → Nat) (a_forest : Nat → Nat) (a_walk : Nat → Nat) (r_this_before : Nat) (r_this_saved : Nat) (r_this_history : Nat) (r_this_desk : Nat) (r_this_input : Nat) (r_this_orders : Nat) (r_this_written : Nat) (x1 : Int32) (x2 : Int32) (x3 : Int32) (v_isSaved : Int32) (v_wrongPosition : Int32) (φ_forest : Fo) (walk_commits : AI) (walk_length : Int32) (walk_looks : Int32) (k : Nat) (r : Int32) (z_walk_commits : AI) (z_walk_length : Int32) (h : f8_firstBad x1 x2 x3 φ_forest walk_commits walk_length = some (k, r, z_walk_commits, z_walk_length)) : MT l yX8_firstBad cX8_firstBad 5 (some .int) { frames := 7, cells := 4, slots := 24, locals := 111 } E X [.ref (a 0), .int x1, .int x2, .int x3] ([gX8 E a (a_forest 0) r_this_before r_this_saved v_isSaved r_this_history r_this_desk (a_walk 0) r_this_input r_this_orders r_this_written v_wrongPosition, gX1 E a_forest φ_forest, gX7 E a_walk walk_commits walk_length walk_looks] : List va_W).flatten 4 24 k (some (.int r)) ([gX8 E a (a_forest 0) r_this_before r_this_saved v_isSaved r_this_history r_this_desk (a_walk 0) r_this_input r_this_orders r_this_written v_wrongPosition, gX1 E a_forest φ_forest, gX7 E a_walk z_walk_commits z_walk_length walk_looks] : List va_W).flatten := by
  refine px_startT (by decide +kernel) (Nat.le_of_ble_eq_true rfl) ?_
  intro p e s m args below meth c R Q A ls hC hX hA0 hQ htb
  obtain ⟨hx, hb, hr, hml, hts, hown, hlocks, hR, hK, hN, hP, hD, hA, hl, hin⟩ := hC
  have hl : lv_has ls 5 [(0, .ref (a 0)), (1, .int x1), (2, .int x2), (3, .int x3)] := hl
  suffices key : ∀ (H : Heap) (locs : List Loc), va_P E.1 vwCl ([gX8 E a (a_forest 0) r_this_before r_this_saved v_isSaved r_this_history r_this_desk (a_walk 0) r_this_input r_this_orders r_this_written v_wrongPosition, gX1 E a_forest φ_forest, gX7 E a_walk walk_commits walk_length walk_looks] : List va_W).flatten H → va_S A s.heap H locs → W p l e R s m args below meth c H locs 0 0 Q (F0 m 0 ls []) from key s.heap [] hP va_S.rf
  unfold f8_firstBad at h
  intro H locs hP hS
  refine lv_aload_n hx hb dX8_firstBad_0 rfl (lv_at hl 0 rfl) ?_
  refine lv_iload_n hx hb dX8_firstBad_1 rfl (lv_at hl 1 rfl) ?_
  obtain ⟨k2, hr1, h⟩ := ob h
  refine px_VT (As := [.int x1]) (rest := []) (gs := ([gX8 E a (a_forest 0) r_this_before r_this_saved v_isSaved r_this_history r_this_desk (a_walk 0) r_this_input r_this_orders r_this_written v_wrongPosition, gX1 E a_forest φ_forest, gX7 E a_walk walk_commits walk_length walk_looks] : List va_W)) (gr := ([gX7 E a_walk walk_commits walk_length walk_looks] : List va_W)) (gc := ([gX8 E a (a_forest 0) r_this_before r_this_saved v_isSaved r_this_history r_this_desk (a_walk 0) r_this_input r_this_orders r_this_written v_wrongPosition, gX1 E a_forest φ_forest] : List va_W)) (g1 := ([gX8 E a (a_forest 0) r_this_before r_this_saved v_isSaved r_this_history r_this_desk (a_walk 0) r_this_input r_this_orders r_this_written v_wrongPosition, gX1 E a_forest φ_forest] : List va_W)) (g2 := ([gX8 E a (a_forest 0) r_this_before r_this_saved v_isSaved r_this_history r_this_desk (a_walk 0) r_this_input r_this_orders r_this_written v_wrongPosition, gX1 E a_forest φ_forest, gX7 E a_walk walk_commits walk_length walk_looks] : List va_W)) ⟨hx, hb, hml, hown, hts⟩ (c8_needBranch l hlt E X a a_forest r_this_before r_this_saved r_this_history r_this_desk (a_walk 0) r_this_input r_this_orders r_this_written (x1) (v_isSaved) (v_wrongPosition) (φ_forest) k2 hr1) (cwV 1 hts (ws_v q501 q503 q4 q18 q504) rfl rfl rfl hdV_X8_needBranch (by rw [hR]; exact ⟨Nat.le_of_ble_eq_true rfl, Nat.le_of_ble_eq_true rfl⟩)) hK hN hX hP hD hS hA [2] [0, 1] [1, 2, 0] rfl rfl (by decide) (by decide) rfl (by decide) 0 8 rfl rfl rfl rfl hl.1 rfl (Nat.le_of_ble_eq_true rfl) dX8_firstBad_2 (by rw [hR]; exact ⟨Nat.le_of_ble_eq_true rfl, Nat.le_of_ble_eq_true rfl⟩) (fun hk q9 ce H locs hP hD hS hc1 hc2 hc3 => ?_) (fun hk H locs hP hD hS => ?_)
  · rw [if_neg hk] at h
    cases h
    exact px_outT hk rfl hc1 hc2 hc3 hA0 hQ hP hD hS htb hlocks (by decide) (by decide)
  rw [if_pos hk] at h
  refine W.eq (g2 := F0 m 5 ls []) rfl ?_
  refine lv_aload_n hx hb dX8_firstBad_5 rfl (lv_at hl 0 rfl) ?_
  refine lv_iload_n hx hb dX8_firstBad_6 rfl (lv_at hl 2 rfl) ?_
  obtain ⟨k4, hr3, h⟩ := ob h
  refine px_VT (As := [.int x2]) (rest := []) (gs := ([gX8 E a (a_forest 0) r_this_before r_this_saved v_isSaved r_this_history r_this_desk (a_walk 0) r_this_input r_this_orders r_this_written v_wrongPosition, gX1 E a_forest φ_forest, gX7 E a_walk walk_commits walk_length walk_looks] : List va_W)) (gr := ([gX1 E a_forest φ_forest, gX7 E a_walk walk_commits walk_length walk_looks] : List va_W)) (gc := ([gX8 E a (a_forest 0) r_this_before r_this_saved v_isSaved r_this_history r_this_desk (a_walk 0) r_this_input r_this_orders r_this_written v_wrongPosition] : List va_W)) (g1 := ([gX8 E a (a_forest 0) r_this_before r_this_saved v_isSaved r_this_history r_this_desk (a_walk 0) r_this_input r_this_orders r_this_written v_wrongPosition] : List va_W)) (g2 := ([gX8 E a (a_forest 0) r_this_before r_this_saved v_isSaved r_this_history r_this_desk (a_walk 0) r_this_input r_this_orders r_this_written v_wrongPosition, gX1 E a_forest φ_forest, gX7 E a_walk walk_commits walk_length walk_looks] : List va_W)) ⟨hx, hb, hml, hown, hts⟩ (c8_needIngredient l hlt E X a (a_forest 0) r_this_before r_this_saved r_this_history r_this_desk (a_walk 0) r_this_input r_this_orders r_this_written (x2) (v_isSaved) (v_wrongPosition) k4 hr3) (cwV 1 hts (ws_v q621 q623 q8 q18 q624) rfl rfl rfl hdV_X8_needIngredient (by rw [hR]; exact ⟨Nat.le_of_ble_eq_true rfl, Nat.le_of_ble_eq_true rfl⟩)) hK hN hX hP hD hS hA [1, 2] [0] [2, 0, 1] rfl rfl (by decide) (by decide) rfl (by decide) 0 8 rfl rfl rfl rfl hl.1 rfl (Nat.le_of_ble_eq_true rfl) dX8_firstBad_7 (by rw [hR]; exact ⟨Nat.le_of_ble_eq_true rfl, Nat.le_of_ble_eq_true rfl⟩) (fun hk q9 ce H locs hP hD hS hc1 hc2 hc3 => ?_) (fun hk H locs hP hD hS => ?_)
  · rw [if_neg hk] at h
    cases h
    exact px_outT hk rfl hc1 hc2 hc3 hA0 hQ hP hD hS htb hlocks (by decide) (by decide)
  rw [if_pos hk] at h
  refine W.eq (g2 := F0 m 10 ls []) rfl ?_
  refine lv_aload_n hx hb dX8_firstBad_10 rfl (lv_at hl 0 rfl) ?_
  refine lv_iload_n hx hb dX8_firstBad_11 rfl (lv_at hl 3 rfl) ?_
  obtain ⟨k6, hr5, h⟩ := ob h
  refine px_VT (As := [.int x3]) (rest := []) (gs := ([gX8 E a (a_forest 0) r_this_before r_this_saved v_isSaved r_this_history r_this_desk (a_walk 0) r_this_input r_this_orders r_this_written v_wrongPosition, gX1 E a_forest φ_forest, gX7 E a_walk walk_commits walk_length walk_looks] : List va_W)) (gr := ([gX1 E a_forest φ_forest, gX7 E a_walk walk_commits walk_length walk_looks] : List va_W)) (gc := ([gX8 E a (a_forest 0) r_this_before r_this_saved v_isSaved r_this_history r_this_desk (a_walk 0) r_this_input r_this_orders r_this_written v_wrongPosition] : List va_W)) (g1 := ([gX8 E a (a_forest 0) r_this_before r_this_saved v_isSaved r_this_history r_this_desk (a_walk 0) r_this_input r_this_orders r_this_written v_wrongPosition] : List va_W)) (g2 := ([gX8 E a (a_forest 0) r_this_before r_this_saved v_isSaved r_this_history r_this_desk (a_walk 0) r_this_input r_this_orders r_this_written v_wrongPosition, gX1 E a_forest φ_forest, gX7 E a_walk walk_commits walk_length walk_looks] : List va_W)) ⟨hx, hb, hml, hown, hts⟩ (c8_needAmount l hlt E X a (a_forest 0) r_this_before r_this_saved r_this_history r_this_desk (a_walk 0) r_this_input r_this_orders r_this_written (x3) (v_isSaved) (v_wrongPosition) k6 hr5) (cwV 1 hts (ws_v q627 q629 q9 q18 q630) rfl rfl rfl hdV_X8_needAmount (by rw [hR]; exact ⟨Nat.le_of_ble_eq_true rfl, Nat.le_of_ble_eq_true rfl⟩)) hK hN hX hP hD hS hA [1, 2] [0] [2, 0, 1] rfl rfl (by decide) (by decide) rfl (by decide) 0 8 rfl rfl rfl rfl hl.1 rfl (Nat.le_of_ble_eq_true rfl) dX8_firstBad_12 (by rw [hR]; exact ⟨Nat.le_of_ble_eq_true rfl, Nat.le_of_ble_eq_true rfl⟩) (fun hk q9 ce H locs hP hD hS hc1 hc2 hc3 => ?_) (fun hk H locs hP hD hS => ?_)
  · rw [if_neg hk] at h
    cases h
    exact px_outT hk rfl hc1 hc2 hc3 hA0 hQ hP hD hS htb hlocks (by decide) (by decide)
  rw [if_pos hk] at h
  refine W.eq (g2 := F0 m 15 ls []) rfl ?_
  refine lv_aload_n hx hb dX8_firstBad_15 rfl (lv_at hl 0 rfl) ?_
  refine va_get (D := E.1) (ci := 8) (v := .ref (a_walk 0)) (C := RX8) (T := TX8) (N := 11) hx hb hts iX8 hown hK hP 0 rfl rfl 6 (by decide) (hts _ q220) (fun _ h9 => h9) rfl dX8_firstBad_16 ?_
  refine lv_aload_n hx hb dX8_firstBad_19 rfl (lv_at hl 0 rfl) ?_
  refine va_get (D := E.1) (ci := 8) (v := .ref (a_forest 0)) (C := RX8) (T := TX8) (N := 11) hx hb hts iX8 hown hK hP 0 rfl rfl 0 (by decide) (hts _ q214) (fun _ h9 => h9) rfl dX8_firstBad_20 ?_
  refine lv_aload_n hx hb dX8_firstBad_23 rfl (lv_at hl 0 rfl) ?_
  refine va_get (D := E.1) (ci := 8) (v := .ref (a_forest 0)) (C := RX8) (T := TX8) (N := 11) hx hb hts iX8 hown hK hP 0 rfl rfl 0 (by decide) (hts _ q214) (fun _ h9 => h9) rfl dX8_firstBad_24 ?_
  refine lv_iload_n hx hb dX8_firstBad_27 rfl (lv_at hl 1 rfl) ?_
  obtain ⟨r7, hr8, h⟩ := ob h
  refine px_Vp (As := [.int x1]) (rest := [.ref (a_forest 0), .ref (a_walk 0)]) (gs := ([gX8 E a (a_forest 0) r_this_before r_this_saved v_isSaved r_this_history r_this_desk (a_walk 0) r_this_input r_this_orders r_this_written v_wrongPosition, gX1 E a_forest φ_forest, gX7 E a_walk walk_commits walk_length walk_looks] : List va_W)) (gc := ([gX1 E a_forest φ_forest] : List va_W)) ⟨hx, hb, hml, hown, hts⟩ (c1_tipOf l E a_forest  (x1) (φ_forest) r7 hr8) (cwV 1 hts (ws_v q507 q295 q296 q19 q297) rfl rfl rfl hdV_X1_tipOf (by rw [hR]; exact ⟨Nat.le_of_ble_eq_true rfl, Nat.le_of_ble_eq_true rfl⟩)) hK hN hP hD [1] rfl (by decide) 0 1 rfl rfl rfl rfl hl.1 rfl (Nat.le_of_ble_eq_true rfl) dX8_firstBad_28 (by rw [hR]; exact ⟨Nat.le_of_ble_eq_true rfl, Nat.le_of_ble_eq_true rfl⟩) ?_
  refine W.eq (g2 := F0 m 31 ls [.int r7, .ref (a_forest 0), .ref (a_walk 0)]) rfl ?_
  obtain ⟨⟨w9, w10⟩, hr11, h⟩ := ob h
  dsimp only at h
  refine px_V (As := [.ref (a_forest 0), .int r7]) (rest := []) (gs := ([gX8 E a (a_forest 0) r_this_before r_this_saved v_isSaved r_this_history r_this_desk (a_walk 0) r_this_input r_this_orders r_this_written v_wrongPosition, gX1 E a_forest φ_forest, gX7 E a_walk walk_commits walk_length walk_looks] : List va_W)) (gr := ([gX8 E a (a_forest 0) r_this_before r_this_saved v_isSaved r_this_history r_this_desk (a_walk 0) r_this_input r_this_orders r_this_written v_wrongPosition] : List va_W)) (gc := ([gX7 E a_walk walk_commits walk_length walk_looks, gX1 E a_forest φ_forest] : List va_W)) (g1 := ([gX7 E a_walk w9 w10 walk_looks, gX1 E a_forest φ_forest] : List va_W)) (g2 := ([gX8 E a (a_forest 0) r_this_before r_this_saved v_isSaved r_this_history r_this_desk (a_walk 0) r_this_input r_this_orders r_this_written v_wrongPosition, gX1 E a_forest φ_forest, gX7 E a_walk w9 w10 walk_looks] : List va_W)) ⟨hx, hb, hml, hown, hts⟩ (c7_follow l E a_walk a_forest  (r7) (walk_commits) (walk_length) (walk_looks) (φ_forest) w9 w10 hr11) (cwV 2 hts (ws_v q650 q651 q652 q23 q653) rfl rfl rfl hdV_X7_follow (by rw [hR]; exact ⟨Nat.le_of_ble_eq_true rfl, Nat.le_of_ble_eq_true rfl⟩)) hK hN hP hD hS hA [0] [2, 1] [0, 2, 1] rfl rfl (by decide) (by decide) rfl (by decide) 0 7 rfl rfl rfl rfl hl.1 rfl (Nat.le_of_ble_eq_true rfl) dX8_firstBad_31 (by rw [hR]; exact ⟨Nat.le_of_ble_eq_true rfl, Nat.le_of_ble_eq_true rfl⟩) (fun H locs hP hD hS => ?_)
  refine W.eq (g2 := F0 m 34 ls []) rfl ?_
  refine lv_aload_n hx hb dX8_firstBad_34 rfl (lv_at hl 0 rfl) ?_
  refine va_get (D := E.1) (ci := 8) (v := .ref (a_walk 0)) (C := RX8) (T := TX8) (N := 11) hx hb hts iX8 hown hK hP 0 rfl rfl 6 (by decide) (hts _ q220) (fun _ h9 => h9) rfl dX8_firstBad_35 ?_
  refine lv_aload_n hx hb dX8_firstBad_38 rfl (lv_at hl 0 rfl) ?_
  refine va_get (D := E.1) (ci := 8) (v := .ref (a_forest 0)) (C := RX8) (T := TX8) (N := 11) hx hb hts iX8 hown hK hP 0 rfl rfl 0 (by decide) (hts _ q214) (fun _ h9 => h9) rfl dX8_firstBad_39 ?_
  refine lv_iload_n hx hb dX8_firstBad_42 rfl (lv_at hl 2 rfl) ?_
  refine lv_iload_n hx hb dX8_firstBad_43 rfl (lv_at hl 3 rfl) ?_
  obtain ⟨r12, hr13, h⟩ := ob h
  refine px_Vp (As := [.ref (a_forest 0), .int x2, .int x3]) (rest := []) (gs := ([gX8 E a (a_forest 0) r_this_before r_this_saved v_isSaved r_this_history r_this_desk (a_walk 0) r_this_input r_this_orders r_this_written v_wrongPosition, gX1 E a_forest φ_forest, gX7 E a_walk w9 w10 walk_looks] : List va_W)) (gc := ([gX7 E a_walk w9 w10 walk_looks, gX1 E a_forest φ_forest] : List va_W)) ⟨hx, hb, hml, hown, hts⟩ (c7_farthestBad l E a_walk a_forest  (x2) (x3) (w9) (w10) (walk_looks) (φ_forest) r12 hr13) (cwV 3 hts (ws_v q675 q676 q677 q23 q678) rfl rfl rfl hdV_X7_farthestBad (by rw [hR]; exact ⟨Nat.le_of_ble_eq_true rfl, Nat.le_of_ble_eq_true rfl⟩)) hK hN hP hD [2, 1] rfl (by decide) 0 7 rfl rfl rfl rfl hl.1 rfl (Nat.le_of_ble_eq_true rfl) dX8_firstBad_44 (by rw [hR]; exact ⟨Nat.le_of_ble_eq_true rfl, Nat.le_of_ble_eq_true rfl⟩) ?_
  refine W.eq (g2 := F0 m 47 ls [.int r12]) rfl ?_
  refine lv_istore (lv' := [(4, .int r12), (0, .ref (a 0)), (1, .int x1), (2, .int x2), (3, .int x3)]) hx hb dX8_firstBad_47 hl (by decide) rfl (fun ls hl => ?_)
  refine lv_iload hx hb dX8_firstBad_49 (lv_at hl 0 rfl) ?_
  refine lv_iconst (v := (-1 : Int32)) hx hb dX8_firstBad_51 (by decide) ?_
  refine lv_icmp_ne (tgt := 65) hx hb dX8_firstBad_52 (by decide) (fun c14 => ?_) (fun c14 => ?_)
  · rw [if_neg c14] at h
    refine lv_iload hx hb dX8_firstBad_65 (lv_at hl 0 rfl) ?_
    cases h
    exact px_eTi (by decide) (by decide) hA0 hQ hP hD hS hx hb hr hlocks dX8_firstBad_67
  · rw [if_pos c14] at h
    cases h
    exact px_thr4S (i := 26) (tx := "no commit is bad") hx hb hlt hown (hts _ q634) (hts _ q42) hX rfl (at_4_176 hts hX) ag_4_176 (by decide +kernel) hA0 hQ hP hD hS (hml.trans hl.1.symm) htb hlocks dX8_firstBad_55 dX8_firstBad_58 dX8_firstBad_59 dX8_firstBad_61 dX8_firstBad_64 (by rw [hR]; exact Nat.le_of_ble_eq_true rfl) (by rw [hR]; exact Nat.le_of_ble_eq_true rfl) (by rw [hR]; exact Nat.le_of_ble_eq_true rfl) (by rw [hR]; exact Nat.le_of_ble_eq_true rfl) (by decide) (by decide) (by decide)
def f8_blame (x1 : Int32) (x2 : Int32) (φ_forest : Fo) (walk_commits : AI) (walk_length : Int32) : Option (Nat × Int32 × AI × Int32) := ((f8_needBranch (x1) (φ_forest)).bind fun k2 => (if k2 = 0 then ((f8_needIngredient (x2)).bind fun k4 => (if k4 = 0 then ((f1_tipOf (x1) (φ_forest)).bind fun r5 => ((f7_follow (r5) (walk_commits) (walk_length) (φ_forest)).bind fun (w7, w8) => ((f7_latestChange (x2) (w7) (w8) (φ_forest)).bind fun r10 => (some (0, r10, w7, w8))))) else (some (k4, (nI 0), walk_commits, walk_length)))) else (some (k2, (nI 0), walk_commits, walk_length))))
set_option maxHeartbeats 4000000 in
set_option maxRecDepth 100000 in
theorem c8_blame (l : Launch) (hlt : l.stackTraces = false) (E : PE) (X : PX) (a : Nat → Nat) (a_forest : Nat → Nat) (a_walk : Nat → Nat) (r_this_before : Nat) (r_this_saved : Nat) (r_this_history : Nat) (r_this_desk : Nat) (r_this_input : Nat) (r_this_orders : Nat) (r_this_written : Nat) (x1 : Int32) (x2 : Int32) (v_isSaved : Int32) (v_wrongPosition : Int32) (φ_forest : Fo) (walk_commits : AI) (walk_length : Int32) (walk_looks : Int32) (k : Nat) (r : Int32) (z_walk_commits : AI) (z_walk_length : Int32) (h : f8_blame x1 x2 φ_forest walk_commits walk_length = some (k, r, z_walk_commits, z_walk_length)) : MT l yX8_blame cX8_blame 3 (some .int) { frames := 7, cells := 2, slots := 12, locals := 111 } E X [.ref (a 0), .int x1, .int x2] ([gX8 E a (a_forest 0) r_this_before r_this_saved v_isSaved r_this_history r_this_desk (a_walk 0) r_this_input r_this_orders r_this_written v_wrongPosition, gX1 E a_forest φ_forest, gX7 E a_walk walk_commits walk_length walk_looks] : List va_W).flatten 2 12 k (some (.int r)) ([gX8 E a (a_forest 0) r_this_before r_this_saved v_isSaved r_this_history r_this_desk (a_walk 0) r_this_input r_this_orders r_this_written v_wrongPosition, gX1 E a_forest φ_forest, gX7 E a_walk z_walk_commits z_walk_length walk_looks] : List va_W).flatten := by
  refine px_startT (by decide +kernel) (Nat.le_of_ble_eq_true rfl) ?_
  intro p e s m args below meth c R Q A ls hC hX hA0 hQ htb
  obtain ⟨hx, hb, hr, hml, hts, hown, hlocks, hR, hK, hN, hP, hD, hA, hl, hin⟩ := hC
  have hl : lv_has ls 3 [(0, .ref (a 0)), (1, .int x1), (2, .int x2)] := hl
  suffices key : ∀ (H : Heap) (locs : List Loc), va_P E.1 vwCl ([gX8 E a (a_forest 0) r_this_before r_this_saved v_isSaved r_this_history r_this_desk (a_walk 0) r_this_input r_this_orders r_this_written v_wrongPosition, gX1 E a_forest φ_forest, gX7 E a_walk walk_commits walk_length walk_looks] : List va_W).flatten H → va_S A s.heap H locs → W p l e R s m args below meth c H locs 0 0 Q (F0 m 0 ls []) from key s.heap [] hP va_S.rf
  unfold f8_blame at h
  intro H locs hP hS
  refine lv_aload_n hx hb dX8_blame_0 rfl (lv_at hl 0 rfl) ?_
  refine lv_iload_n hx hb dX8_blame_1 rfl (lv_at hl 1 rfl) ?_
  obtain ⟨k2, hr1, h⟩ := ob h
  refine px_VT (As := [.int x1]) (rest := []) (gs := ([gX8 E a (a_forest 0) r_this_before r_this_saved v_isSaved r_this_history r_this_desk (a_walk 0) r_this_input r_this_orders r_this_written v_wrongPosition, gX1 E a_forest φ_forest, gX7 E a_walk walk_commits walk_length walk_looks] : List va_W)) (gr := ([gX7 E a_walk walk_commits walk_length walk_looks] : List va_W)) (gc := ([gX8 E a (a_forest 0) r_this_before r_this_saved v_isSaved r_this_history r_this_desk (a_walk 0) r_this_input r_this_orders r_this_written v_wrongPosition, gX1 E a_forest φ_forest] : List va_W)) (g1 := ([gX8 E a (a_forest 0) r_this_before r_this_saved v_isSaved r_this_history r_this_desk (a_walk 0) r_this_input r_this_orders r_this_written v_wrongPosition, gX1 E a_forest φ_forest] : List va_W)) (g2 := ([gX8 E a (a_forest 0) r_this_before r_this_saved v_isSaved r_this_history r_this_desk (a_walk 0) r_this_input r_this_orders r_this_written v_wrongPosition, gX1 E a_forest φ_forest, gX7 E a_walk walk_commits walk_length walk_looks] : List va_W)) ⟨hx, hb, hml, hown, hts⟩ (c8_needBranch l hlt E X a a_forest r_this_before r_this_saved r_this_history r_this_desk (a_walk 0) r_this_input r_this_orders r_this_written (x1) (v_isSaved) (v_wrongPosition) (φ_forest) k2 hr1) (cwV 1 hts (ws_v q501 q503 q4 q18 q504) rfl rfl rfl hdV_X8_needBranch (by rw [hR]; exact ⟨Nat.le_of_ble_eq_true rfl, Nat.le_of_ble_eq_true rfl⟩)) hK hN hX hP hD hS hA [2] [0, 1] [1, 2, 0] rfl rfl (by decide) (by decide) rfl (by decide) 0 8 rfl rfl rfl rfl hl.1 rfl (Nat.le_of_ble_eq_true rfl) dX8_blame_2 (by rw [hR]; exact ⟨Nat.le_of_ble_eq_true rfl, Nat.le_of_ble_eq_true rfl⟩) (fun hk q9 ce H locs hP hD hS hc1 hc2 hc3 => ?_) (fun hk H locs hP hD hS => ?_)
  · rw [if_neg hk] at h
    cases h
    exact px_outT hk rfl hc1 hc2 hc3 hA0 hQ hP hD hS htb hlocks (by decide) (by decide)
  rw [if_pos hk] at h
  refine W.eq (g2 := F0 m 5 ls []) rfl ?_
  refine lv_aload_n hx hb dX8_blame_5 rfl (lv_at hl 0 rfl) ?_
  refine lv_iload_n hx hb dX8_blame_6 rfl (lv_at hl 2 rfl) ?_
  obtain ⟨k4, hr3, h⟩ := ob h
  refine px_VT (As := [.int x2]) (rest := []) (gs := ([gX8 E a (a_forest 0) r_this_before r_this_saved v_isSaved r_this_history r_this_desk (a_walk 0) r_this_input r_this_orders r_this_written v_wrongPosition, gX1 E a_forest φ_forest, gX7 E a_walk walk_commits walk_length walk_looks] : List va_W)) (gr := ([gX1 E a_forest φ_forest, gX7 E a_walk walk_commits walk_length walk_looks] : List va_W)) (gc := ([gX8 E a (a_forest 0) r_this_before r_this_saved v_isSaved r_this_history r_this_desk (a_walk 0) r_this_input r_this_orders r_this_written v_wrongPosition] : List va_W)) (g1 := ([gX8 E a (a_forest 0) r_this_before r_this_saved v_isSaved r_this_history r_this_desk (a_walk 0) r_this_input r_this_orders r_this_written v_wrongPosition] : List va_W)) (g2 := ([gX8 E a (a_forest 0) r_this_before r_this_saved v_isSaved r_this_history r_this_desk (a_walk 0) r_this_input r_this_orders r_this_written v_wrongPosition, gX1 E a_forest φ_forest, gX7 E a_walk walk_commits walk_length walk_looks] : List va_W)) ⟨hx, hb, hml, hown, hts⟩ (c8_needIngredient l hlt E X a (a_forest 0) r_this_before r_this_saved r_this_history r_this_desk (a_walk 0) r_this_input r_this_orders r_this_written (x2) (v_isSaved) (v_wrongPosition) k4 hr3) (cwV 1 hts (ws_v q621 q623 q8 q18 q624) rfl rfl rfl hdV_X8_needIngredient (by rw [hR]; exact ⟨Nat.le_of_ble_eq_true rfl, Nat.le_of_ble_eq_true rfl⟩)) hK hN hX hP hD hS hA [1, 2] [0] [2, 0, 1] rfl rfl (by decide) (by decide) rfl (by decide) 0 8 rfl rfl rfl rfl hl.1 rfl (Nat.le_of_ble_eq_true rfl) dX8_blame_7 (by rw [hR]; exact ⟨Nat.le_of_ble_eq_true rfl, Nat.le_of_ble_eq_true rfl⟩) (fun hk q9 ce H locs hP hD hS hc1 hc2 hc3 => ?_) (fun hk H locs hP hD hS => ?_)
  · rw [if_neg hk] at h
    cases h
    exact px_outT hk rfl hc1 hc2 hc3 hA0 hQ hP hD hS htb hlocks (by decide) (by decide)
  rw [if_pos hk] at h
  refine W.eq (g2 := F0 m 10 ls []) rfl ?_
  refine lv_aload_n hx hb dX8_blame_10 rfl (lv_at hl 0 rfl) ?_
  refine va_get (D := E.1) (ci := 8) (v := .ref (a_walk 0)) (C := RX8) (T := TX8) (N := 11) hx hb hts iX8 hown hK hP 0 rfl rfl 6 (by decide) (hts _ q220) (fun _ h9 => h9) rfl dX8_blame_11 ?_
  refine lv_aload_n hx hb dX8_blame_14 rfl (lv_at hl 0 rfl) ?_
  refine va_get (D := E.1) (ci := 8) (v := .ref (a_forest 0)) (C := RX8) (T := TX8) (N := 11) hx hb hts iX8 hown hK hP 0 rfl rfl 0 (by decide) (hts _ q214) (fun _ h9 => h9) rfl dX8_blame_15 ?_
  refine lv_aload_n hx hb dX8_blame_18 rfl (lv_at hl 0 rfl) ?_
  refine va_get (D := E.1) (ci := 8) (v := .ref (a_forest 0)) (C := RX8) (T := TX8) (N := 11) hx hb hts iX8 hown hK hP 0 rfl rfl 0 (by decide) (hts _ q214) (fun _ h9 => h9) rfl dX8_blame_19 ?_
  refine lv_iload_n hx hb dX8_blame_22 rfl (lv_at hl 1 rfl) ?_
  obtain ⟨r5, hr6, h⟩ := ob h
  refine px_Vp (As := [.int x1]) (rest := [.ref (a_forest 0), .ref (a_walk 0)]) (gs := ([gX8 E a (a_forest 0) r_this_before r_this_saved v_isSaved r_this_history r_this_desk (a_walk 0) r_this_input r_this_orders r_this_written v_wrongPosition, gX1 E a_forest φ_forest, gX7 E a_walk walk_commits walk_length walk_looks] : List va_W)) (gc := ([gX1 E a_forest φ_forest] : List va_W)) ⟨hx, hb, hml, hown, hts⟩ (c1_tipOf l E a_forest  (x1) (φ_forest) r5 hr6) (cwV 1 hts (ws_v q507 q295 q296 q19 q297) rfl rfl rfl hdV_X1_tipOf (by rw [hR]; exact ⟨Nat.le_of_ble_eq_true rfl, Nat.le_of_ble_eq_true rfl⟩)) hK hN hP hD [1] rfl (by decide) 0 1 rfl rfl rfl rfl hl.1 rfl (Nat.le_of_ble_eq_true rfl) dX8_blame_23 (by rw [hR]; exact ⟨Nat.le_of_ble_eq_true rfl, Nat.le_of_ble_eq_true rfl⟩) ?_
  refine W.eq (g2 := F0 m 26 ls [.int r5, .ref (a_forest 0), .ref (a_walk 0)]) rfl ?_
  obtain ⟨⟨w7, w8⟩, hr9, h⟩ := ob h
  dsimp only at h
  refine px_V (As := [.ref (a_forest 0), .int r5]) (rest := []) (gs := ([gX8 E a (a_forest 0) r_this_before r_this_saved v_isSaved r_this_history r_this_desk (a_walk 0) r_this_input r_this_orders r_this_written v_wrongPosition, gX1 E a_forest φ_forest, gX7 E a_walk walk_commits walk_length walk_looks] : List va_W)) (gr := ([gX8 E a (a_forest 0) r_this_before r_this_saved v_isSaved r_this_history r_this_desk (a_walk 0) r_this_input r_this_orders r_this_written v_wrongPosition] : List va_W)) (gc := ([gX7 E a_walk walk_commits walk_length walk_looks, gX1 E a_forest φ_forest] : List va_W)) (g1 := ([gX7 E a_walk w7 w8 walk_looks, gX1 E a_forest φ_forest] : List va_W)) (g2 := ([gX8 E a (a_forest 0) r_this_before r_this_saved v_isSaved r_this_history r_this_desk (a_walk 0) r_this_input r_this_orders r_this_written v_wrongPosition, gX1 E a_forest φ_forest, gX7 E a_walk w7 w8 walk_looks] : List va_W)) ⟨hx, hb, hml, hown, hts⟩ (c7_follow l E a_walk a_forest  (r5) (walk_commits) (walk_length) (walk_looks) (φ_forest) w7 w8 hr9) (cwV 2 hts (ws_v q650 q651 q652 q23 q653) rfl rfl rfl hdV_X7_follow (by rw [hR]; exact ⟨Nat.le_of_ble_eq_true rfl, Nat.le_of_ble_eq_true rfl⟩)) hK hN hP hD hS hA [0] [2, 1] [0, 2, 1] rfl rfl (by decide) (by decide) rfl (by decide) 0 7 rfl rfl rfl rfl hl.1 rfl (Nat.le_of_ble_eq_true rfl) dX8_blame_26 (by rw [hR]; exact ⟨Nat.le_of_ble_eq_true rfl, Nat.le_of_ble_eq_true rfl⟩) (fun H locs hP hD hS => ?_)
  refine W.eq (g2 := F0 m 29 ls []) rfl ?_
  refine lv_aload_n hx hb dX8_blame_29 rfl (lv_at hl 0 rfl) ?_
  refine va_get (D := E.1) (ci := 8) (v := .ref (a_walk 0)) (C := RX8) (T := TX8) (N := 11) hx hb hts iX8 hown hK hP 0 rfl rfl 6 (by decide) (hts _ q220) (fun _ h9 => h9) rfl dX8_blame_30 ?_
  refine lv_aload_n hx hb dX8_blame_33 rfl (lv_at hl 0 rfl) ?_
  refine va_get (D := E.1) (ci := 8) (v := .ref (a_forest 0)) (C := RX8) (T := TX8) (N := 11) hx hb hts iX8 hown hK hP 0 rfl rfl 0 (by decide) (hts _ q214) (fun _ h9 => h9) rfl dX8_blame_34 ?_
  refine lv_iload_n hx hb dX8_blame_37 rfl (lv_at hl 2 rfl) ?_
  obtain ⟨r10, hr11, h⟩ := ob h
  refine px_Vp (As := [.ref (a_forest 0), .int x2]) (rest := []) (gs := ([gX8 E a (a_forest 0) r_this_before r_this_saved v_isSaved r_this_history r_this_desk (a_walk 0) r_this_input r_this_orders r_this_written v_wrongPosition, gX1 E a_forest φ_forest, gX7 E a_walk w7 w8 walk_looks] : List va_W)) (gc := ([gX7 E a_walk w7 w8 walk_looks, gX1 E a_forest φ_forest] : List va_W)) ⟨hx, hb, hml, hown, hts⟩ (c7_latestChange l E a_walk a_forest  (x2) (w7) (w8) (walk_looks) (φ_forest) r10 hr11) (cwV 2 hts (ws_v q1138 q1139 q1140 q23 q1141) rfl rfl rfl hdV_X7_latestChange (by rw [hR]; exact ⟨Nat.le_of_ble_eq_true rfl, Nat.le_of_ble_eq_true rfl⟩)) hK hN hP hD [2, 1] rfl (by decide) 0 7 rfl rfl rfl rfl hl.1 rfl (Nat.le_of_ble_eq_true rfl) dX8_blame_38 (by rw [hR]; exact ⟨Nat.le_of_ble_eq_true rfl, Nat.le_of_ble_eq_true rfl⟩) ?_
  refine W.eq (g2 := F0 m 41 ls [.int r10]) rfl ?_
  cases h
  exact px_eTi (by decide) (by decide) hA0 hQ hP hD hS hx hb hr hlocks dX8_blame_41
def f8_taste (x1 : Int32) (φ_forest : Fo) : Option (Nat × UInt32) := ((f8_needCommit (x1) (φ_forest)).bind fun k2 => (if k2 = 0 then ((f1_tasteOf (x1) (φ_forest)).bind fun r3 => (some (0, r3))) else (some (k2, (0 : UInt32)))))
set_option maxHeartbeats 4000000 in
set_option maxRecDepth 100000 in
theorem c8_taste (l : Launch) (hlt : l.stackTraces = false) (E : PE) (X : PX) (a : Nat → Nat) (a_forest : Nat → Nat) (r_this_before : Nat) (r_this_saved : Nat) (r_this_history : Nat) (r_this_desk : Nat) (r_this_walk : Nat) (r_this_input : Nat) (r_this_orders : Nat) (r_this_written : Nat) (x1 : Int32) (v_isSaved : Int32) (v_wrongPosition : Int32) (φ_forest : Fo) (k : Nat) (r : UInt32) (h : f8_taste x1 φ_forest = some (k, r)) : MT l yX8_taste cX8_taste 2 (some .float) { frames := 7, cells := 1, slots := 6, locals := 111 } E X [.ref (a 0), .int x1] ([gX8 E a (a_forest 0) r_this_before r_this_saved v_isSaved r_this_history r_this_desk r_this_walk r_this_input r_this_orders r_this_written v_wrongPosition, gX1 E a_forest φ_forest] : List va_W).flatten 1 6 k (some (.float r)) ([gX8 E a (a_forest 0) r_this_before r_this_saved v_isSaved r_this_history r_this_desk r_this_walk r_this_input r_this_orders r_this_written v_wrongPosition, gX1 E a_forest φ_forest] : List va_W).flatten := by
  refine px_startT (by decide +kernel) (Nat.le_of_ble_eq_true rfl) ?_
  intro p e s m args below meth c R Q A ls hC hX hA0 hQ htb
  obtain ⟨hx, hb, hr, hml, hts, hown, hlocks, hR, hK, hN, hP, hD, hA, hl, hin⟩ := hC
  have hl : lv_has ls 2 [(0, .ref (a 0)), (1, .int x1)] := hl
  suffices key : ∀ (H : Heap) (locs : List Loc), va_P E.1 vwCl ([gX8 E a (a_forest 0) r_this_before r_this_saved v_isSaved r_this_history r_this_desk r_this_walk r_this_input r_this_orders r_this_written v_wrongPosition, gX1 E a_forest φ_forest] : List va_W).flatten H → va_S A s.heap H locs → W p l e R s m args below meth c H locs 0 0 Q (F0 m 0 ls []) from key s.heap [] hP va_S.rf
  unfold f8_taste at h
  intro H locs hP hS
  refine lv_aload_n hx hb dX8_taste_0 rfl (lv_at hl 0 rfl) ?_
  refine lv_iload_n hx hb dX8_taste_1 rfl (lv_at hl 1 rfl) ?_
  obtain ⟨k2, hr1, h⟩ := ob h
  refine px_VT (As := [.int x1]) (rest := []) (gs := ([gX8 E a (a_forest 0) r_this_before r_this_saved v_isSaved r_this_history r_this_desk r_this_walk r_this_input r_this_orders r_this_written v_wrongPosition, gX1 E a_forest φ_forest] : List va_W)) (gr := ([] : List va_W)) (gc := ([gX8 E a (a_forest 0) r_this_before r_this_saved v_isSaved r_this_history r_this_desk r_this_walk r_this_input r_this_orders r_this_written v_wrongPosition, gX1 E a_forest φ_forest] : List va_W)) (g1 := ([gX8 E a (a_forest 0) r_this_before r_this_saved v_isSaved r_this_history r_this_desk r_this_walk r_this_input r_this_orders r_this_written v_wrongPosition, gX1 E a_forest φ_forest] : List va_W)) (g2 := ([gX8 E a (a_forest 0) r_this_before r_this_saved v_isSaved r_this_history r_this_desk r_this_walk r_this_input r_this_orders r_this_written v_wrongPosition, gX1 E a_forest φ_forest] : List va_W)) ⟨hx, hb, hml, hown, hts⟩ (c8_needCommit l hlt E X a a_forest r_this_before r_this_saved r_this_history r_this_desk r_this_walk r_this_input r_this_orders r_this_written (x1) (v_isSaved) (v_wrongPosition) (φ_forest) k2 hr1) (cwV 1 hts (ws_v q515 q517 q5 q18 q518) rfl rfl rfl hdV_X8_needCommit (by rw [hR]; exact ⟨Nat.le_of_ble_eq_true rfl, Nat.le_of_ble_eq_true rfl⟩)) hK hN hX hP hD hS hA [] [0, 1] [0, 1] rfl rfl (by decide) (by decide) rfl (by decide) 0 8 rfl rfl rfl rfl hl.1 rfl (Nat.le_of_ble_eq_true rfl) dX8_taste_2 (by rw [hR]; exact ⟨Nat.le_of_ble_eq_true rfl, Nat.le_of_ble_eq_true rfl⟩) (fun hk q9 ce H locs hP hD hS hc1 hc2 hc3 => ?_) (fun hk H locs hP hD hS => ?_)
  · rw [if_neg hk] at h
    cases h
    exact px_outT hk rfl hc1 hc2 hc3 hA0 hQ hP hD hS htb hlocks (by decide) (by decide)
  rw [if_pos hk] at h
  refine W.eq (g2 := F0 m 5 ls []) rfl ?_
  refine lv_aload_n hx hb dX8_taste_5 rfl (lv_at hl 0 rfl) ?_
  refine va_get (D := E.1) (ci := 8) (v := .ref (a_forest 0)) (C := RX8) (T := TX8) (N := 11) hx hb hts iX8 hown hK hP 0 rfl rfl 0 (by decide) (hts _ q214) (fun _ h9 => h9) rfl dX8_taste_6 ?_
  refine lv_iload_n hx hb dX8_taste_9 rfl (lv_at hl 1 rfl) ?_
  obtain ⟨r3, hr4, h⟩ := ob h
  refine px_Vp (As := [.int x1]) (rest := []) (gs := ([gX8 E a (a_forest 0) r_this_before r_this_saved v_isSaved r_this_history r_this_desk r_this_walk r_this_input r_this_orders r_this_written v_wrongPosition, gX1 E a_forest φ_forest] : List va_W)) (gc := ([gX1 E a_forest φ_forest] : List va_W)) ⟨hx, hb, hml, hown, hts⟩ (c1_tasteOf l E a_forest  (x1) (φ_forest) r3 hr4) (cwV 1 hts (ws_v q950 q951 q952 q19 q953) rfl rfl rfl hdV_X1_tasteOf (by rw [hR]; exact ⟨Nat.le_of_ble_eq_true rfl, Nat.le_of_ble_eq_true rfl⟩)) hK hN hP hD [1] rfl (by decide) 0 1 rfl rfl rfl rfl hl.1 rfl (Nat.le_of_ble_eq_true rfl) dX8_taste_10 (by rw [hR]; exact ⟨Nat.le_of_ble_eq_true rfl, Nat.le_of_ble_eq_true rfl⟩) ?_
  refine W.eq (g2 := F0 m 13 ls [.float r3]) rfl ?_
  cases h
  exact px_eTf (by decide) (by decide) hA0 hQ hP hD hS hx hb hr hlocks dX8_taste_13
def f8_tasteBits (x1 : Int32) (φ_forest : Fo) : Option (Nat × Int32) := ((f8_needCommit (x1) (φ_forest)).bind fun k2 => (if k2 = 0 then ((f1_tasteOf (x1) (φ_forest)).bind fun r3 => ((f8_bitsOf (r3)).bind fun r5 => (some (0, r5)))) else (some (k2, (nI 0)))))
set_option maxHeartbeats 4000000 in
set_option maxRecDepth 100000 in
theorem c8_tasteBits (l : Launch) (hlt : l.stackTraces = false) (E : PE) (X : PX) (a : Nat → Nat) (a_forest : Nat → Nat) (r_this_before : Nat) (r_this_saved : Nat) (r_this_history : Nat) (r_this_desk : Nat) (r_this_walk : Nat) (r_this_input : Nat) (r_this_orders : Nat) (r_this_written : Nat) (x1 : Int32) (v_isSaved : Int32) (v_wrongPosition : Int32) (φ_forest : Fo) (k : Nat) (r : Int32) (h : f8_tasteBits x1 φ_forest = some (k, r)) : MT l yX8_tasteBits cX8_tasteBits 2 (some .int) { frames := 7, cells := 1, slots := 6, locals := 111 } E X [.ref (a 0), .int x1] ([gX8 E a (a_forest 0) r_this_before r_this_saved v_isSaved r_this_history r_this_desk r_this_walk r_this_input r_this_orders r_this_written v_wrongPosition, gX1 E a_forest φ_forest] : List va_W).flatten 1 6 k (some (.int r)) ([gX8 E a (a_forest 0) r_this_before r_this_saved v_isSaved r_this_history r_this_desk r_this_walk r_this_input r_this_orders r_this_written v_wrongPosition, gX1 E a_forest φ_forest] : List va_W).flatten := by
  refine px_startT (by decide +kernel) (Nat.le_of_ble_eq_true rfl) ?_
  intro p e s m args below meth c R Q A ls hC hX hA0 hQ htb
  obtain ⟨hx, hb, hr, hml, hts, hown, hlocks, hR, hK, hN, hP, hD, hA, hl, hin⟩ := hC
  have hl : lv_has ls 2 [(0, .ref (a 0)), (1, .int x1)] := hl
  suffices key : ∀ (H : Heap) (locs : List Loc), va_P E.1 vwCl ([gX8 E a (a_forest 0) r_this_before r_this_saved v_isSaved r_this_history r_this_desk r_this_walk r_this_input r_this_orders r_this_written v_wrongPosition, gX1 E a_forest φ_forest] : List va_W).flatten H → va_S A s.heap H locs → W p l e R s m args below meth c H locs 0 0 Q (F0 m 0 ls []) from key s.heap [] hP va_S.rf
  unfold f8_tasteBits at h
  intro H locs hP hS
  refine lv_aload_n hx hb dX8_tasteBits_0 rfl (lv_at hl 0 rfl) ?_
  refine lv_iload_n hx hb dX8_tasteBits_1 rfl (lv_at hl 1 rfl) ?_
  obtain ⟨k2, hr1, h⟩ := ob h
  refine px_VT (As := [.int x1]) (rest := []) (gs := ([gX8 E a (a_forest 0) r_this_before r_this_saved v_isSaved r_this_history r_this_desk r_this_walk r_this_input r_this_orders r_this_written v_wrongPosition, gX1 E a_forest φ_forest] : List va_W)) (gr := ([] : List va_W)) (gc := ([gX8 E a (a_forest 0) r_this_before r_this_saved v_isSaved r_this_history r_this_desk r_this_walk r_this_input r_this_orders r_this_written v_wrongPosition, gX1 E a_forest φ_forest] : List va_W)) (g1 := ([gX8 E a (a_forest 0) r_this_before r_this_saved v_isSaved r_this_history r_this_desk r_this_walk r_this_input r_this_orders r_this_written v_wrongPosition, gX1 E a_forest φ_forest] : List va_W)) (g2 := ([gX8 E a (a_forest 0) r_this_before r_this_saved v_isSaved r_this_history r_this_desk r_this_walk r_this_input r_this_orders r_this_written v_wrongPosition, gX1 E a_forest φ_forest] : List va_W)) ⟨hx, hb, hml, hown, hts⟩ (c8_needCommit l hlt E X a a_forest r_this_before r_this_saved r_this_history r_this_desk r_this_walk r_this_input r_this_orders r_this_written (x1) (v_isSaved) (v_wrongPosition) (φ_forest) k2 hr1) (cwV 1 hts (ws_v q515 q517 q5 q18 q518) rfl rfl rfl hdV_X8_needCommit (by rw [hR]; exact ⟨Nat.le_of_ble_eq_true rfl, Nat.le_of_ble_eq_true rfl⟩)) hK hN hX hP hD hS hA [] [0, 1] [0, 1] rfl rfl (by decide) (by decide) rfl (by decide) 0 8 rfl rfl rfl rfl hl.1 rfl (Nat.le_of_ble_eq_true rfl) dX8_tasteBits_2 (by rw [hR]; exact ⟨Nat.le_of_ble_eq_true rfl, Nat.le_of_ble_eq_true rfl⟩) (fun hk q9 ce H locs hP hD hS hc1 hc2 hc3 => ?_) (fun hk H locs hP hD hS => ?_)
  · rw [if_neg hk] at h
    cases h
    exact px_outT hk rfl hc1 hc2 hc3 hA0 hQ hP hD hS htb hlocks (by decide) (by decide)
  rw [if_pos hk] at h
  refine W.eq (g2 := F0 m 5 ls []) rfl ?_
  refine lv_aload_n hx hb dX8_tasteBits_5 rfl (lv_at hl 0 rfl) ?_
  refine va_get (D := E.1) (ci := 8) (v := .ref (a_forest 0)) (C := RX8) (T := TX8) (N := 11) hx hb hts iX8 hown hK hP 0 rfl rfl 0 (by decide) (hts _ q214) (fun _ h9 => h9) rfl dX8_tasteBits_6 ?_
  refine lv_iload_n hx hb dX8_tasteBits_9 rfl (lv_at hl 1 rfl) ?_
  obtain ⟨r3, hr4, h⟩ := ob h
  refine px_Vp (As := [.int x1]) (rest := []) (gs := ([gX8 E a (a_forest 0) r_this_before r_this_saved v_isSaved r_this_history r_this_desk r_this_walk r_this_input r_this_orders r_this_written v_wrongPosition, gX1 E a_forest φ_forest] : List va_W)) (gc := ([gX1 E a_forest φ_forest] : List va_W)) ⟨hx, hb, hml, hown, hts⟩ (c1_tasteOf l E a_forest  (x1) (φ_forest) r3 hr4) (cwV 1 hts (ws_v q950 q951 q952 q19 q953) rfl rfl rfl hdV_X1_tasteOf (by rw [hR]; exact ⟨Nat.le_of_ble_eq_true rfl, Nat.le_of_ble_eq_true rfl⟩)) hK hN hP hD [1] rfl (by decide) 0 1 rfl rfl rfl rfl hl.1 rfl (Nat.le_of_ble_eq_true rfl) dX8_tasteBits_10 (by rw [hR]; exact ⟨Nat.le_of_ble_eq_true rfl, Nat.le_of_ble_eq_true rfl⟩) ?_
  refine W.eq (g2 := F0 m 13 ls [.float r3]) rfl ?_
  obtain ⟨r5, hr6, h⟩ := ob h
  refine px_Sp (As := [.float r3]) (rest := []) (gs := ([gX8 E a (a_forest 0) r_this_before r_this_saved v_isSaved r_this_history r_this_desk r_this_walk r_this_input r_this_orders r_this_written v_wrongPosition, gX1 E a_forest φ_forest] : List va_W)) (gc := ([] : List va_W)) ⟨hx, hb, hml, hown, hts⟩ (c8_bitsOf l E   (r3)  r5 hr6) (va_cwS 1 hts (ws_s q1012 q1013 q18 q1014) rfl rfl rfl hdS_X8_bitsOf (by rw [hR]; exact ⟨Nat.le_of_ble_eq_true rfl, Nat.le_of_ble_eq_true rfl⟩)) hK hN hP hD [] rfl (by decide) rfl hl.1 rfl (Nat.le_of_ble_eq_true rfl) dX8_tasteBits_13 (by rw [hR]; exact ⟨Nat.le_of_ble_eq_true rfl, Nat.le_of_ble_eq_true rfl⟩) ?_
  refine W.eq (g2 := F0 m 16 ls [.int r5]) rfl ?_
  cases h
  exact px_eTi (by decide) (by decide) hA0 hQ hP hD hS hx hb hr hlocks dX8_tasteBits_16
def f8_tastiest (x1 : Int32) (φ_forest : Fo) (walk_commits : AI) (walk_length : Int32) : Option (Nat × Int32 × AI × Int32) := ((f8_needBranch (x1) (φ_forest)).bind fun k2 => (if k2 = 0 then ((f1_tipOf (x1) (φ_forest)).bind fun r3 => ((f7_follow (r3) (walk_commits) (walk_length) (φ_forest)).bind fun (w5, w6) => ((f7_farthestBest (w5) (w6) (φ_forest)).bind fun r8 => (some (0, r8, w5, w6))))) else (some (k2, (nI 0), walk_commits, walk_length))))
set_option maxHeartbeats 4000000 in
set_option maxRecDepth 100000 in
theorem c8_tastiest (l : Launch) (hlt : l.stackTraces = false) (E : PE) (X : PX) (a : Nat → Nat) (a_forest : Nat → Nat) (a_walk : Nat → Nat) (r_this_before : Nat) (r_this_saved : Nat) (r_this_history : Nat) (r_this_desk : Nat) (r_this_input : Nat) (r_this_orders : Nat) (r_this_written : Nat) (x1 : Int32) (v_isSaved : Int32) (v_wrongPosition : Int32) (φ_forest : Fo) (walk_commits : AI) (walk_length : Int32) (walk_looks : Int32) (k : Nat) (r : Int32) (z_walk_commits : AI) (z_walk_length : Int32) (h : f8_tastiest x1 φ_forest walk_commits walk_length = some (k, r, z_walk_commits, z_walk_length)) : MT l yX8_tastiest cX8_tastiest 2 (some .int) { frames := 7, cells := 1, slots := 6, locals := 111 } E X [.ref (a 0), .int x1] ([gX8 E a (a_forest 0) r_this_before r_this_saved v_isSaved r_this_history r_this_desk (a_walk 0) r_this_input r_this_orders r_this_written v_wrongPosition, gX1 E a_forest φ_forest, gX7 E a_walk walk_commits walk_length walk_looks] : List va_W).flatten 1 6 k (some (.int r)) ([gX8 E a (a_forest 0) r_this_before r_this_saved v_isSaved r_this_history r_this_desk (a_walk 0) r_this_input r_this_orders r_this_written v_wrongPosition, gX1 E a_forest φ_forest, gX7 E a_walk z_walk_commits z_walk_length walk_looks] : List va_W).flatten := by
  refine px_startT (by decide +kernel) (Nat.le_of_ble_eq_true rfl) ?_
  intro p e s m args below meth c R Q A ls hC hX hA0 hQ htb
  obtain ⟨hx, hb, hr, hml, hts, hown, hlocks, hR, hK, hN, hP, hD, hA, hl, hin⟩ := hC
  have hl : lv_has ls 2 [(0, .ref (a 0)), (1, .int x1)] := hl
  suffices key : ∀ (H : Heap) (locs : List Loc), va_P E.1 vwCl ([gX8 E a (a_forest 0) r_this_before r_this_saved v_isSaved r_this_history r_this_desk (a_walk 0) r_this_input r_this_orders r_this_written v_wrongPosition, gX1 E a_forest φ_forest, gX7 E a_walk walk_commits walk_length walk_looks] : List va_W).flatten H → va_S A s.heap H locs → W p l e R s m args below meth c H locs 0 0 Q (F0 m 0 ls []) from key s.heap [] hP va_S.rf
  unfold f8_tastiest at h
  intro H locs hP hS
  refine lv_aload_n hx hb dX8_tastiest_0 rfl (lv_at hl 0 rfl) ?_
  refine lv_iload_n hx hb dX8_tastiest_1 rfl (lv_at hl 1 rfl) ?_
  obtain ⟨k2, hr1, h⟩ := ob h
  refine px_VT (As := [.int x1]) (rest := []) (gs := ([gX8 E a (a_forest 0) r_this_before r_this_saved v_isSaved r_this_history r_this_desk (a_walk 0) r_this_input r_this_orders r_this_written v_wrongPosition, gX1 E a_forest φ_forest, gX7 E a_walk walk_commits walk_length walk_looks] : List va_W)) (gr := ([gX7 E a_walk walk_commits walk_length walk_looks] : List va_W)) (gc := ([gX8 E a (a_forest 0) r_this_before r_this_saved v_isSaved r_this_history r_this_desk (a_walk 0) r_this_input r_this_orders r_this_written v_wrongPosition, gX1 E a_forest φ_forest] : List va_W)) (g1 := ([gX8 E a (a_forest 0) r_this_before r_this_saved v_isSaved r_this_history r_this_desk (a_walk 0) r_this_input r_this_orders r_this_written v_wrongPosition, gX1 E a_forest φ_forest] : List va_W)) (g2 := ([gX8 E a (a_forest 0) r_this_before r_this_saved v_isSaved r_this_history r_this_desk (a_walk 0) r_this_input r_this_orders r_this_written v_wrongPosition, gX1 E a_forest φ_forest, gX7 E a_walk walk_commits walk_length walk_looks] : List va_W)) ⟨hx, hb, hml, hown, hts⟩ (c8_needBranch l hlt E X a a_forest r_this_before r_this_saved r_this_history r_this_desk (a_walk 0) r_this_input r_this_orders r_this_written (x1) (v_isSaved) (v_wrongPosition) (φ_forest) k2 hr1) (cwV 1 hts (ws_v q501 q503 q4 q18 q504) rfl rfl rfl hdV_X8_needBranch (by rw [hR]; exact ⟨Nat.le_of_ble_eq_true rfl, Nat.le_of_ble_eq_true rfl⟩)) hK hN hX hP hD hS hA [2] [0, 1] [1, 2, 0] rfl rfl (by decide) (by decide) rfl (by decide) 0 8 rfl rfl rfl rfl hl.1 rfl (Nat.le_of_ble_eq_true rfl) dX8_tastiest_2 (by rw [hR]; exact ⟨Nat.le_of_ble_eq_true rfl, Nat.le_of_ble_eq_true rfl⟩) (fun hk q9 ce H locs hP hD hS hc1 hc2 hc3 => ?_) (fun hk H locs hP hD hS => ?_)
  · rw [if_neg hk] at h
    cases h
    exact px_outT hk rfl hc1 hc2 hc3 hA0 hQ hP hD hS htb hlocks (by decide) (by decide)
  rw [if_pos hk] at h
  refine W.eq (g2 := F0 m 5 ls []) rfl ?_
  refine lv_aload_n hx hb dX8_tastiest_5 rfl (lv_at hl 0 rfl) ?_
  refine va_get (D := E.1) (ci := 8) (v := .ref (a_walk 0)) (C := RX8) (T := TX8) (N := 11) hx hb hts iX8 hown hK hP 0 rfl rfl 6 (by decide) (hts _ q220) (fun _ h9 => h9) rfl dX8_tastiest_6 ?_
  refine lv_aload_n hx hb dX8_tastiest_9 rfl (lv_at hl 0 rfl) ?_
  refine va_get (D := E.1) (ci := 8) (v := .ref (a_forest 0)) (C := RX8) (T := TX8) (N := 11) hx hb hts iX8 hown hK hP 0 rfl rfl 0 (by decide) (hts _ q214) (fun _ h9 => h9) rfl dX8_tastiest_10 ?_
  refine lv_aload_n hx hb dX8_tastiest_13 rfl (lv_at hl 0 rfl) ?_
  refine va_get (D := E.1) (ci := 8) (v := .ref (a_forest 0)) (C := RX8) (T := TX8) (N := 11) hx hb hts iX8 hown hK hP 0 rfl rfl 0 (by decide) (hts _ q214) (fun _ h9 => h9) rfl dX8_tastiest_14 ?_
  refine lv_iload_n hx hb dX8_tastiest_17 rfl (lv_at hl 1 rfl) ?_
  obtain ⟨r3, hr4, h⟩ := ob h
  refine px_Vp (As := [.int x1]) (rest := [.ref (a_forest 0), .ref (a_walk 0)]) (gs := ([gX8 E a (a_forest 0) r_this_before r_this_saved v_isSaved r_this_history r_this_desk (a_walk 0) r_this_input r_this_orders r_this_written v_wrongPosition, gX1 E a_forest φ_forest, gX7 E a_walk walk_commits walk_length walk_looks] : List va_W)) (gc := ([gX1 E a_forest φ_forest] : List va_W)) ⟨hx, hb, hml, hown, hts⟩ (c1_tipOf l E a_forest  (x1) (φ_forest) r3 hr4) (cwV 1 hts (ws_v q507 q295 q296 q19 q297) rfl rfl rfl hdV_X1_tipOf (by rw [hR]; exact ⟨Nat.le_of_ble_eq_true rfl, Nat.le_of_ble_eq_true rfl⟩)) hK hN hP hD [1] rfl (by decide) 0 1 rfl rfl rfl rfl hl.1 rfl (Nat.le_of_ble_eq_true rfl) dX8_tastiest_18 (by rw [hR]; exact ⟨Nat.le_of_ble_eq_true rfl, Nat.le_of_ble_eq_true rfl⟩) ?_
  refine W.eq (g2 := F0 m 21 ls [.int r3, .ref (a_forest 0), .ref (a_walk 0)]) rfl ?_
  obtain ⟨⟨w5, w6⟩, hr7, h⟩ := ob h
  dsimp only at h
  refine px_V (As := [.ref (a_forest 0), .int r3]) (rest := []) (gs := ([gX8 E a (a_forest 0) r_this_before r_this_saved v_isSaved r_this_history r_this_desk (a_walk 0) r_this_input r_this_orders r_this_written v_wrongPosition, gX1 E a_forest φ_forest, gX7 E a_walk walk_commits walk_length walk_looks] : List va_W)) (gr := ([gX8 E a (a_forest 0) r_this_before r_this_saved v_isSaved r_this_history r_this_desk (a_walk 0) r_this_input r_this_orders r_this_written v_wrongPosition] : List va_W)) (gc := ([gX7 E a_walk walk_commits walk_length walk_looks, gX1 E a_forest φ_forest] : List va_W)) (g1 := ([gX7 E a_walk w5 w6 walk_looks, gX1 E a_forest φ_forest] : List va_W)) (g2 := ([gX8 E a (a_forest 0) r_this_before r_this_saved v_isSaved r_this_history r_this_desk (a_walk 0) r_this_input r_this_orders r_this_written v_wrongPosition, gX1 E a_forest φ_forest, gX7 E a_walk w5 w6 walk_looks] : List va_W)) ⟨hx, hb, hml, hown, hts⟩ (c7_follow l E a_walk a_forest  (r3) (walk_commits) (walk_length) (walk_looks) (φ_forest) w5 w6 hr7) (cwV 2 hts (ws_v q650 q651 q652 q23 q653) rfl rfl rfl hdV_X7_follow (by rw [hR]; exact ⟨Nat.le_of_ble_eq_true rfl, Nat.le_of_ble_eq_true rfl⟩)) hK hN hP hD hS hA [0] [2, 1] [0, 2, 1] rfl rfl (by decide) (by decide) rfl (by decide) 0 7 rfl rfl rfl rfl hl.1 rfl (Nat.le_of_ble_eq_true rfl) dX8_tastiest_21 (by rw [hR]; exact ⟨Nat.le_of_ble_eq_true rfl, Nat.le_of_ble_eq_true rfl⟩) (fun H locs hP hD hS => ?_)
  refine W.eq (g2 := F0 m 24 ls []) rfl ?_
  refine lv_aload_n hx hb dX8_tastiest_24 rfl (lv_at hl 0 rfl) ?_
  refine va_get (D := E.1) (ci := 8) (v := .ref (a_walk 0)) (C := RX8) (T := TX8) (N := 11) hx hb hts iX8 hown hK hP 0 rfl rfl 6 (by decide) (hts _ q220) (fun _ h9 => h9) rfl dX8_tastiest_25 ?_
  refine lv_aload_n hx hb dX8_tastiest_28 rfl (lv_at hl 0 rfl) ?_
  refine va_get (D := E.1) (ci := 8) (v := .ref (a_forest 0)) (C := RX8) (T := TX8) (N := 11) hx hb hts iX8 hown hK hP 0 rfl rfl 0 (by decide) (hts _ q214) (fun _ h9 => h9) rfl dX8_tastiest_29 ?_
  obtain ⟨r8, hr9, h⟩ := ob h
  refine px_Vp (As := [.ref (a_forest 0)]) (rest := []) (gs := ([gX8 E a (a_forest 0) r_this_before r_this_saved v_isSaved r_this_history r_this_desk (a_walk 0) r_this_input r_this_orders r_this_written v_wrongPosition, gX1 E a_forest φ_forest, gX7 E a_walk w5 w6 walk_looks] : List va_W)) (gc := ([gX7 E a_walk w5 w6 walk_looks, gX1 E a_forest φ_forest] : List va_W)) ⟨hx, hb, hml, hown, hts⟩ (c7_farthestBest l E a_walk a_forest   (w5) (w6) (walk_looks) (φ_forest) r8 hr9) (cwV 1 hts (ws_v q1106 q1107 q1108 q23 q1109) rfl rfl rfl hdV_X7_farthestBest (by rw [hR]; exact ⟨Nat.le_of_ble_eq_true rfl, Nat.le_of_ble_eq_true rfl⟩)) hK hN hP hD [2, 1] rfl (by decide) 0 7 rfl rfl rfl rfl hl.1 rfl (Nat.le_of_ble_eq_true rfl) dX8_tastiest_32 (by rw [hR]; exact ⟨Nat.le_of_ble_eq_true rfl, Nat.le_of_ble_eq_true rfl⟩) ?_
  refine W.eq (g2 := F0 m 35 ls [.int r8]) rfl ?_
  cases h
  exact px_eTi (by decide) (by decide) hA0 hQ hP hD hS hx hb hr hlocks dX8_tastiest_35
def f8_bundle (x1 : Int32) (φ_forest : Fo) (φ_before : Fo) (hist_rows : (Nat → Fo)) (hist_next : Int32) (hist_count : Int32) : Option (Nat × Int32 × Fo × Fo × (Nat → Fo) × Int32 × Int32) := ((f1_become (φ_before) (φ_forest)).bind fun w1 => ((f0_tryBundle (x1) (φ_forest)).bind fun (r3, w4) => ((f8_finished (r3) (w4) (w1) (hist_rows) (hist_next) (hist_count)).bind fun (k12, r6, w7, w8, w9, w10) => (if k12 = 0 then (some (0, r6, w7, w1, w8, w9, w10)) else (some (k12, (nI 0), w7, w1, w8, w9, w10))))))
set_option maxHeartbeats 4000000 in
set_option maxRecDepth 100000 in
theorem c8_bundle (l : Launch) (hlt : l.stackTraces = false) (E : PE) (X : PX) (a : Nat → Nat) (a_desk : Nat → Nat) (a_forest : Nat → Nat) (a_before : Nat → Nat) (a_hist : Nat → Nat) (r_this_saved : Nat) (r_this_walk : Nat) (r_this_input : Nat) (r_this_orders : Nat) (r_this_written : Nat) (r_desk_mix : Nat) (x1 : Int32) (v_isSaved : Int32) (v_wrongPosition : Int32) (desk_reason : Int32) (desk_detail : Int32) (φ_forest : Fo) (φ_before : Fo) (hist_rows : (Nat → Fo)) (hist_next : Int32) (hist_count : Int32) (k : Nat) (r : Int32) (z_forest_φ : Fo) (z_before_φ : Fo) (z_hist_rows : (Nat → Fo)) (z_hist_next : Int32) (z_hist_count : Int32) (h : f8_bundle x1 φ_forest φ_before hist_rows hist_next hist_count = some (k, r, z_forest_φ, z_before_φ, z_hist_rows, z_hist_next, z_hist_count)) : MT l yX8_bundle cX8_bundle 2 (some .int) { frames := 7, cells := 1, slots := 6, locals := 111 } E X [.ref (a 0), .int x1] ([gX8 E a (a_forest 0) (a_before 0) r_this_saved v_isSaved (a_hist 0) (a_desk 0) r_this_walk r_this_input r_this_orders r_this_written v_wrongPosition, gX0 E a_desk (a_forest 0) r_desk_mix desk_reason desk_detail, gX1 E a_forest φ_forest, gX1 E a_before φ_before, gX2 E a_hist hist_rows hist_next hist_count] : List va_W).flatten 1 6 k (some (.int r)) ([gX8 E a (a_forest 0) (a_before 0) r_this_saved v_isSaved (a_hist 0) (a_desk 0) r_this_walk r_this_input r_this_orders r_this_written v_wrongPosition, gX0 E a_desk (a_forest 0) r_desk_mix desk_reason desk_detail, gX1 E a_forest z_forest_φ, gX1 E a_before z_before_φ, gX2 E a_hist z_hist_rows z_hist_next z_hist_count] : List va_W).flatten := by
  refine px_startT (by decide +kernel) (Nat.le_of_ble_eq_true rfl) ?_
  intro p e s m args below meth c R Q A ls hC hX hA0 hQ htb
  obtain ⟨hx, hb, hr, hml, hts, hown, hlocks, hR, hK, hN, hP, hD, hA, hl, hin⟩ := hC
  have hl : lv_has ls 2 [(0, .ref (a 0)), (1, .int x1)] := hl
  suffices key : ∀ (H : Heap) (locs : List Loc), va_P E.1 vwCl ([gX8 E a (a_forest 0) (a_before 0) r_this_saved v_isSaved (a_hist 0) (a_desk 0) r_this_walk r_this_input r_this_orders r_this_written v_wrongPosition, gX0 E a_desk (a_forest 0) r_desk_mix desk_reason desk_detail, gX1 E a_forest φ_forest, gX1 E a_before φ_before, gX2 E a_hist hist_rows hist_next hist_count] : List va_W).flatten H → va_S A s.heap H locs → W p l e R s m args below meth c H locs 0 0 Q (F0 m 0 ls []) from key s.heap [] hP va_S.rf
  unfold f8_bundle at h
  intro H locs hP hS
  refine lv_aload_n hx hb dX8_bundle_0 rfl (lv_at hl 0 rfl) ?_
  refine va_get (D := E.1) (ci := 8) (v := .ref (a_before 0)) (C := RX8) (T := TX8) (N := 11) hx hb hts iX8 hown hK hP 0 rfl rfl 1 (by decide) (hts _ q215) (fun _ h9 => h9) rfl dX8_bundle_1 ?_
  refine lv_aload_n hx hb dX8_bundle_4 rfl (lv_at hl 0 rfl) ?_
  refine va_get (D := E.1) (ci := 8) (v := .ref (a_forest 0)) (C := RX8) (T := TX8) (N := 11) hx hb hts iX8 hown hK hP 0 rfl rfl 0 (by decide) (hts _ q214) (fun _ h9 => h9) rfl dX8_bundle_5 ?_
  obtain ⟨w1, hr2, h⟩ := ob h
  refine px_V (As := [.ref (a_forest 0)]) (rest := []) (gs := ([gX8 E a (a_forest 0) (a_before 0) r_this_saved v_isSaved (a_hist 0) (a_desk 0) r_this_walk r_this_input r_this_orders r_this_written v_wrongPosition, gX0 E a_desk (a_forest 0) r_desk_mix desk_reason desk_detail, gX1 E a_forest φ_forest, gX1 E a_before φ_before, gX2 E a_hist hist_rows hist_next hist_count] : List va_W)) (gr := ([gX8 E a (a_forest 0) (a_before 0) r_this_saved v_isSaved (a_hist 0) (a_desk 0) r_this_walk r_this_input r_this_orders r_this_written v_wrongPosition, gX0 E a_desk (a_forest 0) r_desk_mix desk_reason desk_detail, gX2 E a_hist hist_rows hist_next hist_count] : List va_W)) (gc := ([gX1 E a_before φ_before, gX1 E a_forest φ_forest] : List va_W)) (g1 := ([gX1 E a_before w1, gX1 E a_forest φ_forest] : List va_W)) (g2 := ([gX8 E a (a_forest 0) (a_before 0) r_this_saved v_isSaved (a_hist 0) (a_desk 0) r_this_walk r_this_input r_this_orders r_this_written v_wrongPosition, gX0 E a_desk (a_forest 0) r_desk_mix desk_reason desk_detail, gX1 E a_forest φ_forest, gX1 E a_before w1, gX2 E a_hist hist_rows hist_next hist_count] : List va_W)) ⟨hx, hb, hml, hown, hts⟩ (c1_become l E a_before a_forest   (φ_before) (φ_forest) w1 hr2) (cwV 1 hts (ws_v q256 q257 q258 q19 q259) rfl rfl rfl hdV_X1_become (by rw [hR]; exact ⟨Nat.le_of_ble_eq_true rfl, Nat.le_of_ble_eq_true rfl⟩)) hK hN hP hD hS hA [0, 1, 4] [3, 2] [0, 1, 4, 3, 2] rfl rfl (by decide) (by decide) rfl (by decide) 0 1 rfl rfl rfl rfl hl.1 rfl (Nat.le_of_ble_eq_true rfl) dX8_bundle_8 (by rw [hR]; exact ⟨Nat.le_of_ble_eq_true rfl, Nat.le_of_ble_eq_true rfl⟩) (fun H locs hP hD hS => ?_)
  refine W.eq (g2 := F0 m 11 ls []) rfl ?_
  refine lv_aload_n hx hb dX8_bundle_11 rfl (lv_at hl 0 rfl) ?_
  refine lv_aload_n hx hb dX8_bundle_12 rfl (lv_at hl 0 rfl) ?_
  refine va_get (D := E.1) (ci := 8) (v := .ref (a_desk 0)) (C := RX8) (T := TX8) (N := 11) hx hb hts iX8 hown hK hP 0 rfl rfl 5 (by decide) (hts _ q219) (fun _ h9 => h9) rfl dX8_bundle_13 ?_
  refine lv_iload_n hx hb dX8_bundle_16 rfl (lv_at hl 1 rfl) ?_
  obtain ⟨⟨r3, w4⟩, hr5, h⟩ := ob h
  dsimp only at h
  refine px_V (As := [.int x1]) (rest := [.ref (a 0)]) (gs := ([gX8 E a (a_forest 0) (a_before 0) r_this_saved v_isSaved (a_hist 0) (a_desk 0) r_this_walk r_this_input r_this_orders r_this_written v_wrongPosition, gX0 E a_desk (a_forest 0) r_desk_mix desk_reason desk_detail, gX1 E a_forest φ_forest, gX1 E a_before w1, gX2 E a_hist hist_rows hist_next hist_count] : List va_W)) (gr := ([gX8 E a (a_forest 0) (a_before 0) r_this_saved v_isSaved (a_hist 0) (a_desk 0) r_this_walk r_this_input r_this_orders r_this_written v_wrongPosition, gX1 E a_before w1, gX2 E a_hist hist_rows hist_next hist_count] : List va_W)) (gc := ([gX0 E a_desk (a_forest 0) r_desk_mix desk_reason desk_detail, gX1 E a_forest φ_forest] : List va_W)) (g1 := ([gX0 E a_desk (a_forest 0) r_desk_mix desk_reason desk_detail, gX1 E a_forest w4] : List va_W)) (g2 := ([gX8 E a (a_forest 0) (a_before 0) r_this_saved v_isSaved (a_hist 0) (a_desk 0) r_this_walk r_this_input r_this_orders r_this_written v_wrongPosition, gX0 E a_desk (a_forest 0) r_desk_mix desk_reason desk_detail, gX1 E a_forest w4, gX1 E a_before w1, gX2 E a_hist hist_rows hist_next hist_count] : List va_W)) ⟨hx, hb, hml, hown, hts⟩ (c0_tryBundle l E a_desk a_forest r_desk_mix (x1) (desk_reason) (desk_detail) (φ_forest) r3 w4 hr5) (cwV 1 hts (ws_v q687 q688 q689 q21 q690) rfl rfl rfl hdV_X0_tryBundle (by rw [hR]; exact ⟨Nat.le_of_ble_eq_true rfl, Nat.le_of_ble_eq_true rfl⟩)) hK hN hP hD hS hA [0, 3, 4] [1, 2] [0, 3, 4, 1, 2] rfl rfl (by decide) (by decide) rfl (by decide) 0 0 rfl rfl rfl rfl hl.1 rfl (Nat.le_of_ble_eq_true rfl) dX8_bundle_17 (by rw [hR]; exact ⟨Nat.le_of_ble_eq_true rfl, Nat.le_of_ble_eq_true rfl⟩) (fun H locs hP hD hS => ?_)
  refine W.eq (g2 := F0 m 20 ls [.int r3, .ref (a 0)]) rfl ?_
  obtain ⟨⟨k12, r6, w7, w8, w9, w10⟩, hr11, h⟩ := ob h
  dsimp only at h
  refine px_VT (As := [.int r3]) (rest := []) (gs := ([gX8 E a (a_forest 0) (a_before 0) r_this_saved v_isSaved (a_hist 0) (a_desk 0) r_this_walk r_this_input r_this_orders r_this_written v_wrongPosition, gX0 E a_desk (a_forest 0) r_desk_mix desk_reason desk_detail, gX1 E a_forest w4, gX1 E a_before w1, gX2 E a_hist hist_rows hist_next hist_count] : List va_W)) (gr := ([gX0 E a_desk (a_forest 0) r_desk_mix desk_reason desk_detail] : List va_W)) (gc := ([gX8 E a (a_forest 0) (a_before 0) r_this_saved v_isSaved (a_hist 0) (a_desk 0) r_this_walk r_this_input r_this_orders r_this_written v_wrongPosition, gX1 E a_forest w4, gX1 E a_before w1, gX2 E a_hist hist_rows hist_next hist_count] : List va_W)) (g1 := ([gX8 E a (a_forest 0) (a_before 0) r_this_saved v_isSaved (a_hist 0) (a_desk 0) r_this_walk r_this_input r_this_orders r_this_written v_wrongPosition, gX1 E a_forest w7, gX1 E a_before w1, gX2 E a_hist w8 w9 w10] : List va_W)) (g2 := ([gX8 E a (a_forest 0) (a_before 0) r_this_saved v_isSaved (a_hist 0) (a_desk 0) r_this_walk r_this_input r_this_orders r_this_written v_wrongPosition, gX0 E a_desk (a_forest 0) r_desk_mix desk_reason desk_detail, gX1 E a_forest w7, gX1 E a_before w1, gX2 E a_hist w8 w9 w10] : List va_W)) ⟨hx, hb, hml, hown, hts⟩ (c8_finished l hlt E X a a_forest a_before a_hist r_this_saved (a_desk 0) r_this_walk r_this_input r_this_orders r_this_written (r3) (v_isSaved) (v_wrongPosition) (w4) (w1) (hist_rows) (hist_next) (hist_count) k12 r6 w7 w8 w9 w10 hr11) (cwV 1 hts (ws_v q338 q340 q1 q18 q341) rfl rfl rfl hdV_X8_finished (by rw [hR]; exact ⟨Nat.le_of_ble_eq_true rfl, Nat.le_of_ble_eq_true rfl⟩)) hK hN hX hP hD hS hA [1] [0, 2, 3, 4] [1, 0, 2, 3, 4] rfl rfl (by decide) (by decide) rfl (by decide) 0 8 rfl rfl rfl rfl hl.1 rfl (Nat.le_of_ble_eq_true rfl) dX8_bundle_20 (by rw [hR]; exact ⟨Nat.le_of_ble_eq_true rfl, Nat.le_of_ble_eq_true rfl⟩) (fun hk q9 ce H locs hP hD hS hc1 hc2 hc3 => ?_) (fun hk H locs hP hD hS => ?_)
  · rw [if_neg hk] at h
    cases h
    exact px_outT hk rfl hc1 hc2 hc3 hA0 hQ hP hD hS htb hlocks (by decide) (by decide)
  rw [if_pos hk] at h
  refine W.eq (g2 := F0 m 23 ls [.int r6]) rfl ?_
  cases h
  exact px_eTi (by decide) (by decide) hA0 hQ hP hD hS hx hb hr hlocks dX8_bundle_23
def f8_put (x1 : Int32) (x2 : Int32) (desk_reason : Int32) (desk_detail : Int32) (φ_forest : Fo) (φ_before : Fo) (hist_rows : (Nat → Fo)) (hist_next : Int32) (hist_count : Int32) : Option (Nat × Int32 × Int32 × Int32 × Fo × Fo × (Nat → Fo) × Int32 × Int32) := ((f1_become (φ_before) (φ_forest)).bind fun w1 => ((f0_tryPut (x1) (x2) (desk_reason) (desk_detail) (φ_forest)).bind fun (r3, w4, w5, w6) => ((f8_finished (r3) (w6) (w1) (hist_rows) (hist_next) (hist_count)).bind fun (k14, r8, w9, w10, w11, w12) => (if k14 = 0 then (some (0, r8, w4, w5, w9, w1, w10, w11, w12)) else (some (k14, (nI 0), w4, w5, w9, w1, w10, w11, w12))))))
set_option maxHeartbeats 4000000 in
set_option maxRecDepth 100000 in
theorem c8_put (l : Launch) (hlt : l.stackTraces = false) (E : PE) (X : PX) (a : Nat → Nat) (a_desk : Nat → Nat) (a_forest : Nat → Nat) (a_before : Nat → Nat) (a_hist : Nat → Nat) (r_this_saved : Nat) (r_this_walk : Nat) (r_this_input : Nat) (r_this_orders : Nat) (r_this_written : Nat) (r_desk_mix : Nat) (x1 : Int32) (x2 : Int32) (v_isSaved : Int32) (v_wrongPosition : Int32) (desk_reason : Int32) (desk_detail : Int32) (φ_forest : Fo) (φ_before : Fo) (hist_rows : (Nat → Fo)) (hist_next : Int32) (hist_count : Int32) (k : Nat) (r : Int32) (z_desk_reason : Int32) (z_desk_detail : Int32) (z_forest_φ : Fo) (z_before_φ : Fo) (z_hist_rows : (Nat → Fo)) (z_hist_next : Int32) (z_hist_count : Int32) (h : f8_put x1 x2 desk_reason desk_detail φ_forest φ_before hist_rows hist_next hist_count = some (k, r, z_desk_reason, z_desk_detail, z_forest_φ, z_before_φ, z_hist_rows, z_hist_next, z_hist_count)) : MT l yX8_put cX8_put 3 (some .int) { frames := 7, cells := 1, slots := 6, locals := 111 } E X [.ref (a 0), .int x1, .int x2] ([gX8 E a (a_forest 0) (a_before 0) r_this_saved v_isSaved (a_hist 0) (a_desk 0) r_this_walk r_this_input r_this_orders r_this_written v_wrongPosition, gX0 E a_desk (a_forest 0) r_desk_mix desk_reason desk_detail, gX1 E a_forest φ_forest, gX1 E a_before φ_before, gX2 E a_hist hist_rows hist_next hist_count] : List va_W).flatten 1 6 k (some (.int r)) ([gX8 E a (a_forest 0) (a_before 0) r_this_saved v_isSaved (a_hist 0) (a_desk 0) r_this_walk r_this_input r_this_orders r_this_written v_wrongPosition, gX0 E a_desk (a_forest 0) r_desk_mix z_desk_reason z_desk_detail, gX1 E a_forest z_forest_φ, gX1 E a_before z_before_φ, gX2 E a_hist z_hist_rows z_hist_next z_hist_count] : List va_W).flatten := by
  refine px_startT (by decide +kernel) (Nat.le_of_ble_eq_true rfl) ?_
  intro p e s m args below meth c R Q A ls hC hX hA0 hQ htb
  obtain ⟨hx, hb, hr, hml, hts, hown, hlocks, hR, hK, hN, hP, hD, hA, hl, hin⟩ := hC
  have hl : lv_has ls 3 [(0, .ref (a 0)), (1, .int x1), (2, .int x2)] := hl
  suffices key : ∀ (H : Heap) (locs : List Loc), va_P E.1 vwCl ([gX8 E a (a_forest 0) (a_before 0) r_this_saved v_isSaved (a_hist 0) (a_desk 0) r_this_walk r_this_input r_this_orders r_this_written v_wrongPosition, gX0 E a_desk (a_forest 0) r_desk_mix desk_reason desk_detail, gX1 E a_forest φ_forest, gX1 E a_before φ_before, gX2 E a_hist hist_rows hist_next hist_count] : List va_W).flatten H → va_S A s.heap H locs → W p l e R s m args below meth c H locs 0 0 Q (F0 m 0 ls []) from key s.heap [] hP va_S.rf
  unfold f8_put at h
  intro H locs hP hS
  refine lv_aload_n hx hb dX8_put_0 rfl (lv_at hl 0 rfl) ?_
  refine va_get (D := E.1) (ci := 8) (v := .ref (a_before 0)) (C := RX8) (T := TX8) (N := 11) hx hb hts iX8 hown hK hP 0 rfl rfl 1 (by decide) (hts _ q215) (fun _ h9 => h9) rfl dX8_put_1 ?_
  refine lv_aload_n hx hb dX8_put_4 rfl (lv_at hl 0 rfl) ?_
  refine va_get (D := E.1) (ci := 8) (v := .ref (a_forest 0)) (C := RX8) (T := TX8) (N := 11) hx hb hts iX8 hown hK hP 0 rfl rfl 0 (by decide) (hts _ q214) (fun _ h9 => h9) rfl dX8_put_5 ?_
  obtain ⟨w1, hr2, h⟩ := ob h
  refine px_V (As := [.ref (a_forest 0)]) (rest := []) (gs := ([gX8 E a (a_forest 0) (a_before 0) r_this_saved v_isSaved (a_hist 0) (a_desk 0) r_this_walk r_this_input r_this_orders r_this_written v_wrongPosition, gX0 E a_desk (a_forest 0) r_desk_mix desk_reason desk_detail, gX1 E a_forest φ_forest, gX1 E a_before φ_before, gX2 E a_hist hist_rows hist_next hist_count] : List va_W)) (gr := ([gX8 E a (a_forest 0) (a_before 0) r_this_saved v_isSaved (a_hist 0) (a_desk 0) r_this_walk r_this_input r_this_orders r_this_written v_wrongPosition, gX0 E a_desk (a_forest 0) r_desk_mix desk_reason desk_detail, gX2 E a_hist hist_rows hist_next hist_count] : List va_W)) (gc := ([gX1 E a_before φ_before, gX1 E a_forest φ_forest] : List va_W)) (g1 := ([gX1 E a_before w1, gX1 E a_forest φ_forest] : List va_W)) (g2 := ([gX8 E a (a_forest 0) (a_before 0) r_this_saved v_isSaved (a_hist 0) (a_desk 0) r_this_walk r_this_input r_this_orders r_this_written v_wrongPosition, gX0 E a_desk (a_forest 0) r_desk_mix desk_reason desk_detail, gX1 E a_forest φ_forest, gX1 E a_before w1, gX2 E a_hist hist_rows hist_next hist_count] : List va_W)) ⟨hx, hb, hml, hown, hts⟩ (c1_become l E a_before a_forest   (φ_before) (φ_forest) w1 hr2) (cwV 1 hts (ws_v q256 q257 q258 q19 q259) rfl rfl rfl hdV_X1_become (by rw [hR]; exact ⟨Nat.le_of_ble_eq_true rfl, Nat.le_of_ble_eq_true rfl⟩)) hK hN hP hD hS hA [0, 1, 4] [3, 2] [0, 1, 4, 3, 2] rfl rfl (by decide) (by decide) rfl (by decide) 0 1 rfl rfl rfl rfl hl.1 rfl (Nat.le_of_ble_eq_true rfl) dX8_put_8 (by rw [hR]; exact ⟨Nat.le_of_ble_eq_true rfl, Nat.le_of_ble_eq_true rfl⟩) (fun H locs hP hD hS => ?_)
  refine W.eq (g2 := F0 m 11 ls []) rfl ?_
  refine lv_aload_n hx hb dX8_put_11 rfl (lv_at hl 0 rfl) ?_
  refine lv_aload_n hx hb dX8_put_12 rfl (lv_at hl 0 rfl) ?_
  refine va_get (D := E.1) (ci := 8) (v := .ref (a_desk 0)) (C := RX8) (T := TX8) (N := 11) hx hb hts iX8 hown hK hP 0 rfl rfl 5 (by decide) (hts _ q219) (fun _ h9 => h9) rfl dX8_put_13 ?_
  refine lv_iload_n hx hb dX8_put_16 rfl (lv_at hl 1 rfl) ?_
  refine lv_iload_n hx hb dX8_put_17 rfl (lv_at hl 2 rfl) ?_
  obtain ⟨⟨r3, w4, w5, w6⟩, hr7, h⟩ := ob h
  dsimp only at h
  refine px_V (As := [.int x1, .int x2]) (rest := [.ref (a 0)]) (gs := ([gX8 E a (a_forest 0) (a_before 0) r_this_saved v_isSaved (a_hist 0) (a_desk 0) r_this_walk r_this_input r_this_orders r_this_written v_wrongPosition, gX0 E a_desk (a_forest 0) r_desk_mix desk_reason desk_detail, gX1 E a_forest φ_forest, gX1 E a_before w1, gX2 E a_hist hist_rows hist_next hist_count] : List va_W)) (gr := ([gX8 E a (a_forest 0) (a_before 0) r_this_saved v_isSaved (a_hist 0) (a_desk 0) r_this_walk r_this_input r_this_orders r_this_written v_wrongPosition, gX1 E a_before w1, gX2 E a_hist hist_rows hist_next hist_count] : List va_W)) (gc := ([gX0 E a_desk (a_forest 0) r_desk_mix desk_reason desk_detail, gX1 E a_forest φ_forest] : List va_W)) (g1 := ([gX0 E a_desk (a_forest 0) r_desk_mix w4 w5, gX1 E a_forest w6] : List va_W)) (g2 := ([gX8 E a (a_forest 0) (a_before 0) r_this_saved v_isSaved (a_hist 0) (a_desk 0) r_this_walk r_this_input r_this_orders r_this_written v_wrongPosition, gX0 E a_desk (a_forest 0) r_desk_mix w4 w5, gX1 E a_forest w6, gX1 E a_before w1, gX2 E a_hist hist_rows hist_next hist_count] : List va_W)) ⟨hx, hb, hml, hown, hts⟩ (c0_tryPut l E a_desk a_forest r_desk_mix (x1) (x2) (desk_reason) (desk_detail) (φ_forest) r3 w4 w5 w6 hr7) (cwV 2 hts (ws_v q1167 q1168 q1169 q21 q1170) rfl rfl rfl hdV_X0_tryPut (by rw [hR]; exact ⟨Nat.le_of_ble_eq_true rfl, Nat.le_of_ble_eq_true rfl⟩)) hK hN hP hD hS hA [0, 3, 4] [1, 2] [0, 3, 4, 1, 2] rfl rfl (by decide) (by decide) rfl (by decide) 0 0 rfl rfl rfl rfl hl.1 rfl (Nat.le_of_ble_eq_true rfl) dX8_put_18 (by rw [hR]; exact ⟨Nat.le_of_ble_eq_true rfl, Nat.le_of_ble_eq_true rfl⟩) (fun H locs hP hD hS => ?_)
  refine W.eq (g2 := F0 m 21 ls [.int r3, .ref (a 0)]) rfl ?_
  obtain ⟨⟨k14, r8, w9, w10, w11, w12⟩, hr13, h⟩ := ob h
  dsimp only at h
  refine px_VT (As := [.int r3]) (rest := []) (gs := ([gX8 E a (a_forest 0) (a_before 0) r_this_saved v_isSaved (a_hist 0) (a_desk 0) r_this_walk r_this_input r_this_orders r_this_written v_wrongPosition, gX0 E a_desk (a_forest 0) r_desk_mix w4 w5, gX1 E a_forest w6, gX1 E a_before w1, gX2 E a_hist hist_rows hist_next hist_count] : List va_W)) (gr := ([gX0 E a_desk (a_forest 0) r_desk_mix w4 w5] : List va_W)) (gc := ([gX8 E a (a_forest 0) (a_before 0) r_this_saved v_isSaved (a_hist 0) (a_desk 0) r_this_walk r_this_input r_this_orders r_this_written v_wrongPosition, gX1 E a_forest w6, gX1 E a_before w1, gX2 E a_hist hist_rows hist_next hist_count] : List va_W)) (g1 := ([gX8 E a (a_forest 0) (a_before 0) r_this_saved v_isSaved (a_hist 0) (a_desk 0) r_this_walk r_this_input r_this_orders r_this_written v_wrongPosition, gX1 E a_forest w9, gX1 E a_before w1, gX2 E a_hist w10 w11 w12] : List va_W)) (g2 := ([gX8 E a (a_forest 0) (a_before 0) r_this_saved v_isSaved (a_hist 0) (a_desk 0) r_this_walk r_this_input r_this_orders r_this_written v_wrongPosition, gX0 E a_desk (a_forest 0) r_desk_mix w4 w5, gX1 E a_forest w9, gX1 E a_before w1, gX2 E a_hist w10 w11 w12] : List va_W)) ⟨hx, hb, hml, hown, hts⟩ (c8_finished l hlt E X a a_forest a_before a_hist r_this_saved (a_desk 0) r_this_walk r_this_input r_this_orders r_this_written (r3) (v_isSaved) (v_wrongPosition) (w6) (w1) (hist_rows) (hist_next) (hist_count) k14 r8 w9 w10 w11 w12 hr13) (cwV 1 hts (ws_v q338 q340 q1 q18 q341) rfl rfl rfl hdV_X8_finished (by rw [hR]; exact ⟨Nat.le_of_ble_eq_true rfl, Nat.le_of_ble_eq_true rfl⟩)) hK hN hX hP hD hS hA [1] [0, 2, 3, 4] [1, 0, 2, 3, 4] rfl rfl (by decide) (by decide) rfl (by decide) 0 8 rfl rfl rfl rfl hl.1 rfl (Nat.le_of_ble_eq_true rfl) dX8_put_21 (by rw [hR]; exact ⟨Nat.le_of_ble_eq_true rfl, Nat.le_of_ble_eq_true rfl⟩) (fun hk q9 ce H locs hP hD hS hc1 hc2 hc3 => ?_) (fun hk H locs hP hD hS => ?_)
  · rw [if_neg hk] at h
    cases h
    exact px_outT hk rfl hc1 hc2 hc3 hA0 hQ hP hD hS htb hlocks (by decide) (by decide)
  rw [if_pos hk] at h
  refine W.eq (g2 := F0 m 24 ls [.int r8]) rfl ?_
  cases h
  exact px_eTi (by decide) (by decide) hA0 hQ hP hD hS hx hb hr hlocks dX8_put_24
def f8_inBundle (x1 : Int32) (φ_forest : Fo) : Option (Nat × Int32) := ((f8_isPlace (x1)).bind fun r1 => (if (b2i r1) = 0 then (some (1, (nI 0))) else ((f1_bundledAt (x1) (φ_forest)).bind fun r4 => (if r4 = (-1 : Int32) then (some (4, (nI 0))) else (some (0, r4))))))
set_option maxHeartbeats 4000000 in
set_option maxRecDepth 100000 in
theorem c8_inBundle (l : Launch) (hlt : l.stackTraces = false) (E : PE) (X : PX) (a : Nat → Nat) (a_forest : Nat → Nat) (r_this_before : Nat) (r_this_saved : Nat) (r_this_history : Nat) (r_this_desk : Nat) (r_this_walk : Nat) (r_this_input : Nat) (r_this_orders : Nat) (r_this_written : Nat) (x1 : Int32) (v_isSaved : Int32) (v_wrongPosition : Int32) (φ_forest : Fo) (k : Nat) (r : Int32) (h : f8_inBundle x1 φ_forest = some (k, r)) : MT l yX8_inBundle cX8_inBundle 3 (some .int) { frames := 6, cells := 1, slots := 6, locals := 90 } E X [.ref (a 0), .int x1] ([gX8 E a (a_forest 0) r_this_before r_this_saved v_isSaved r_this_history r_this_desk r_this_walk r_this_input r_this_orders r_this_written v_wrongPosition, gX1 E a_forest φ_forest] : List va_W).flatten 1 6 k (some (.int r)) ([gX8 E a (a_forest 0) r_this_before r_this_saved v_isSaved r_this_history r_this_desk r_this_walk r_this_input r_this_orders r_this_written v_wrongPosition, gX1 E a_forest φ_forest] : List va_W).flatten := by
  refine px_startT (by decide +kernel) (Nat.le_of_ble_eq_true rfl) ?_
  intro p e s m args below meth c R Q A ls hC hX hA0 hQ htb
  obtain ⟨hx, hb, hr, hml, hts, hown, hlocks, hR, hK, hN, hP, hD, hA, hl, hin⟩ := hC
  have hl : lv_has ls 3 [(0, .ref (a 0)), (1, .int x1)] := hl
  suffices key : ∀ (H : Heap) (locs : List Loc), va_P E.1 vwCl ([gX8 E a (a_forest 0) r_this_before r_this_saved v_isSaved r_this_history r_this_desk r_this_walk r_this_input r_this_orders r_this_written v_wrongPosition, gX1 E a_forest φ_forest] : List va_W).flatten H → va_S A s.heap H locs → W p l e R s m args below meth c H locs 0 0 Q (F0 m 0 ls []) from key s.heap [] hP va_S.rf
  unfold f8_inBundle at h
  intro H locs hP hS
  refine lv_iload_n hx hb dX8_inBundle_0 rfl (lv_at hl 1 rfl) ?_
  obtain ⟨r1, hr2, h⟩ := ob h
  refine px_Sp (As := [.int x1]) (rest := []) (gs := ([gX8 E a (a_forest 0) r_this_before r_this_saved v_isSaved r_this_history r_this_desk r_this_walk r_this_input r_this_orders r_this_written v_wrongPosition, gX1 E a_forest φ_forest] : List va_W)) (gc := ([] : List va_W)) ⟨hx, hb, hml, hown, hts⟩ (c8_isPlace l E   (x1)  r1 hr2) (va_cwS 1 hts (ws_s q1149 q1150 q18 q1151) rfl rfl rfl hdS_X8_isPlace (by rw [hR]; exact ⟨Nat.le_of_ble_eq_true rfl, Nat.le_of_ble_eq_true rfl⟩)) hK hN hP hD [] rfl (by decide) rfl hl.1 rfl (Nat.le_of_ble_eq_true rfl) dX8_inBundle_1 (by rw [hR]; exact ⟨Nat.le_of_ble_eq_true rfl, Nat.le_of_ble_eq_true rfl⟩) ?_
  refine W.eq (g2 := F0 m 4 ls [.int (b2i r1)]) rfl ?_
  refine lv_if_ne (tgt := 17) hx hb dX8_inBundle_4 (by decide) (fun c3 => ?_) (fun c3 => ?_)
  · rw [if_neg c3] at h
    refine lv_aload_n hx hb dX8_inBundle_17 rfl (lv_at hl 0 rfl) ?_
    refine va_get (D := E.1) (ci := 8) (v := .ref (a_forest 0)) (C := RX8) (T := TX8) (N := 11) hx hb hts iX8 hown hK hP 0 rfl rfl 0 (by decide) (hts _ q214) (fun _ h9 => h9) rfl dX8_inBundle_18 ?_
    refine lv_iload_n hx hb dX8_inBundle_21 rfl (lv_at hl 1 rfl) ?_
    obtain ⟨r4, hr5, h⟩ := ob h
    refine px_Vp (As := [.int x1]) (rest := []) (gs := ([gX8 E a (a_forest 0) r_this_before r_this_saved v_isSaved r_this_history r_this_desk r_this_walk r_this_input r_this_orders r_this_written v_wrongPosition, gX1 E a_forest φ_forest] : List va_W)) (gc := ([gX1 E a_forest φ_forest] : List va_W)) ⟨hx, hb, hml, hown, hts⟩ (c1_bundledAt l E a_forest  (x1) (φ_forest) r4 hr5) (cwV 1 hts (ws_v q1152 q1153 q1154 q19 q1155) rfl rfl rfl hdV_X1_bundledAt (by rw [hR]; exact ⟨Nat.le_of_ble_eq_true rfl, Nat.le_of_ble_eq_true rfl⟩)) hK hN hP hD [1] rfl (by decide) 0 1 rfl rfl rfl rfl hl.1 rfl (Nat.le_of_ble_eq_true rfl) dX8_inBundle_22 (by rw [hR]; exact ⟨Nat.le_of_ble_eq_true rfl, Nat.le_of_ble_eq_true rfl⟩) ?_
    refine W.eq (g2 := F0 m 25 ls [.int r4]) rfl ?_
    refine lv_istore_n (lv' := [(2, .int r4), (0, .ref (a 0)), (1, .int x1)]) hx hb dX8_inBundle_25 rfl hl (by decide) rfl (fun ls hl => ?_)
    refine lv_iload_n hx hb dX8_inBundle_26 rfl (lv_at hl 0 rfl) ?_
    refine lv_iconst (v := (-1 : Int32)) hx hb dX8_inBundle_27 (by decide) ?_
    refine lv_icmp_ne (tgt := 41) hx hb dX8_inBundle_28 (by decide) (fun c6 => ?_) (fun c6 => ?_)
    · rw [if_neg c6] at h
      refine lv_iload_n hx hb dX8_inBundle_41 rfl (lv_at hl 0 rfl) ?_
      cases h
      exact px_eTi (by decide) (by decide) hA0 hQ hP hD hS hx hb hr hlocks dX8_inBundle_42
    · rw [if_pos c6] at h
      cases h
      exact px_thr4S (i := 35) (tx := "the place is empty") hx hb hlt hown (hts _ q634) (hts _ q42) hX rfl (at_4_176 hts hX) ag_4_176 (by decide +kernel) hA0 hQ hP hD hS (hml.trans hl.1.symm) htb hlocks dX8_inBundle_31 dX8_inBundle_34 dX8_inBundle_35 dX8_inBundle_37 dX8_inBundle_40 (by rw [hR]; exact Nat.le_of_ble_eq_true rfl) (by rw [hR]; exact Nat.le_of_ble_eq_true rfl) (by rw [hR]; exact Nat.le_of_ble_eq_true rfl) (by rw [hR]; exact Nat.le_of_ble_eq_true rfl) (by decide) (by decide) (by decide)
  · rw [if_pos c3] at h
    cases h
    exact px_thrS (k := 1) (i := 34) (tx := "there is no such place") hx hb hlt hown (hts _ q354) (hts _ q33) hX rfl (at_1_223 hts hX) ag_1_223 (by decide +kernel) hA0 hQ hP hD hS (hml.trans hl.1.symm) htb hlocks dX8_inBundle_7 dX8_inBundle_10 dX8_inBundle_11 dX8_inBundle_13 dX8_inBundle_16 (by rw [hR]; exact Nat.le_of_ble_eq_true rfl) (by rw [hR]; exact Nat.le_of_ble_eq_true rfl) (by rw [hR]; exact Nat.le_of_ble_eq_true rfl) (by rw [hR]; exact Nat.le_of_ble_eq_true rfl) (by decide) (by decide) (by decide)
def f8_play (x1 : Int32) (x2 : Int32) (desk_reason : Int32) (desk_detail : Int32) (mix_row : AI) (mix_conflictCount : Int32) (mix_lowest : Int32) (φ_forest : Fo) (φ_before : Fo) (hist_rows : (Nat → Fo)) (hist_next : Int32) (hist_count : Int32) : Option (Nat × Int32 × Int32 × Int32 × AI × Int32 × Int32 × Fo × Fo × (Nat → Fo) × Int32 × Int32) := ((f1_become (φ_before) (φ_forest)).bind fun w1 => ((f0_tryPlay (x1) (x2) (desk_reason) (desk_detail) (mix_row) (mix_conflictCount) (mix_lowest) (φ_forest)).bind fun (r3, w4, w5, w6, w7, w8, w9) => ((f8_finished (r3) (w9) (w1) (hist_rows) (hist_next) (hist_count)).bind fun (k17, r11, w12, w13, w14, w15) => (if k17 = 0 then (some (0, r11, w4, w5, w6, w7, w8, w12, w1, w13, w14, w15)) else (some (k17, (nI 0), w4, w5, w6, w7, w8, w12, w1, w13, w14, w15))))))
set_option maxHeartbeats 4000000 in
set_option maxRecDepth 100000 in
theorem c8_play (l : Launch) (hlt : l.stackTraces = false) (E : PE) (X : PX) (a : Nat → Nat) (a_desk : Nat → Nat) (a_mix : Nat → Nat) (a_forest : Nat → Nat) (a_before : Nat → Nat) (a_hist : Nat → Nat) (r_this_saved : Nat) (r_this_walk : Nat) (r_this_input : Nat) (r_this_orders : Nat) (r_this_written : Nat) (x1 : Int32) (x2 : Int32) (v_isSaved : Int32) (v_wrongPosition : Int32) (desk_reason : Int32) (desk_detail : Int32) (mix_row : AI) (mix_conflictCount : Int32) (mix_lowest : Int32) (φ_forest : Fo) (φ_before : Fo) (hist_rows : (Nat → Fo)) (hist_next : Int32) (hist_count : Int32) (k : Nat) (r : Int32) (z_desk_reason : Int32) (z_desk_detail : Int32) (z_mix_row : AI) (z_mix_conflictCount : Int32) (z_mix_lowest : Int32) (z_forest_φ : Fo) (z_before_φ : Fo) (z_hist_rows : (Nat → Fo)) (z_hist_next : Int32) (z_hist_count : Int32) (h : f8_play x1 x2 desk_reason desk_detail mix_row mix_conflictCount mix_lowest φ_forest φ_before hist_rows hist_next hist_count = some (k, r, z_desk_reason, z_desk_detail, z_mix_row, z_mix_conflictCount, z_mix_lowest, z_forest_φ, z_before_φ, z_hist_rows, z_hist_next, z_hist_count)) : MT l yX8_play cX8_play 3 (some .int) { frames := 7, cells := 1, slots := 6, locals := 125 } E X [.ref (a 0), .int x1, .int x2] ([gX8 E a (a_forest 0) (a_before 0) r_this_saved v_isSaved (a_hist 0) (a_desk 0) r_this_walk r_this_input r_this_orders r_this_written v_wrongPosition, gX0 E a_desk (a_forest 0) (a_mix 0) desk_reason desk_detail, gX5 E a_mix mix_row mix_conflictCount mix_lowest, gX1 E a_forest φ_forest, gX1 E a_before φ_before, gX2 E a_hist hist_rows hist_next hist_count] : List va_W).flatten 1 6 k (some (.int r)) ([gX8 E a (a_forest 0) (a_before 0) r_this_saved v_isSaved (a_hist 0) (a_desk 0) r_this_walk r_this_input r_this_orders r_this_written v_wrongPosition, gX0 E a_desk (a_forest 0) (a_mix 0) z_desk_reason z_desk_detail, gX5 E a_mix z_mix_row z_mix_conflictCount z_mix_lowest, gX1 E a_forest z_forest_φ, gX1 E a_before z_before_φ, gX2 E a_hist z_hist_rows z_hist_next z_hist_count] : List va_W).flatten := by
  refine px_startT (by decide +kernel) (Nat.le_of_ble_eq_true rfl) ?_
  intro p e s m args below meth c R Q A ls hC hX hA0 hQ htb
  obtain ⟨hx, hb, hr, hml, hts, hown, hlocks, hR, hK, hN, hP, hD, hA, hl, hin⟩ := hC
  have hl : lv_has ls 3 [(0, .ref (a 0)), (1, .int x1), (2, .int x2)] := hl
  suffices key : ∀ (H : Heap) (locs : List Loc), va_P E.1 vwCl ([gX8 E a (a_forest 0) (a_before 0) r_this_saved v_isSaved (a_hist 0) (a_desk 0) r_this_walk r_this_input r_this_orders r_this_written v_wrongPosition, gX0 E a_desk (a_forest 0) (a_mix 0) desk_reason desk_detail, gX5 E a_mix mix_row mix_conflictCount mix_lowest, gX1 E a_forest φ_forest, gX1 E a_before φ_before, gX2 E a_hist hist_rows hist_next hist_count] : List va_W).flatten H → va_S A s.heap H locs → W p l e R s m args below meth c H locs 0 0 Q (F0 m 0 ls []) from key s.heap [] hP va_S.rf
  unfold f8_play at h
  intro H locs hP hS
  refine lv_aload_n hx hb dX8_play_0 rfl (lv_at hl 0 rfl) ?_
  refine va_get (D := E.1) (ci := 8) (v := .ref (a_before 0)) (C := RX8) (T := TX8) (N := 11) hx hb hts iX8 hown hK hP 0 rfl rfl 1 (by decide) (hts _ q215) (fun _ h9 => h9) rfl dX8_play_1 ?_
  refine lv_aload_n hx hb dX8_play_4 rfl (lv_at hl 0 rfl) ?_
  refine va_get (D := E.1) (ci := 8) (v := .ref (a_forest 0)) (C := RX8) (T := TX8) (N := 11) hx hb hts iX8 hown hK hP 0 rfl rfl 0 (by decide) (hts _ q214) (fun _ h9 => h9) rfl dX8_play_5 ?_
  obtain ⟨w1, hr2, h⟩ := ob h
  refine px_V (As := [.ref (a_forest 0)]) (rest := []) (gs := ([gX8 E a (a_forest 0) (a_before 0) r_this_saved v_isSaved (a_hist 0) (a_desk 0) r_this_walk r_this_input r_this_orders r_this_written v_wrongPosition, gX0 E a_desk (a_forest 0) (a_mix 0) desk_reason desk_detail, gX5 E a_mix mix_row mix_conflictCount mix_lowest, gX1 E a_forest φ_forest, gX1 E a_before φ_before, gX2 E a_hist hist_rows hist_next hist_count] : List va_W)) (gr := ([gX8 E a (a_forest 0) (a_before 0) r_this_saved v_isSaved (a_hist 0) (a_desk 0) r_this_walk r_this_input r_this_orders r_this_written v_wrongPosition, gX0 E a_desk (a_forest 0) (a_mix 0) desk_reason desk_detail, gX5 E a_mix mix_row mix_conflictCount mix_lowest, gX2 E a_hist hist_rows hist_next hist_count] : List va_W)) (gc := ([gX1 E a_before φ_before, gX1 E a_forest φ_forest] : List va_W)) (g1 := ([gX1 E a_before w1, gX1 E a_forest φ_forest] : List va_W)) (g2 := ([gX8 E a (a_forest 0) (a_before 0) r_this_saved v_isSaved (a_hist 0) (a_desk 0) r_this_walk r_this_input r_this_orders r_this_written v_wrongPosition, gX0 E a_desk (a_forest 0) (a_mix 0) desk_reason desk_detail, gX5 E a_mix mix_row mix_conflictCount mix_lowest, gX1 E a_forest φ_forest, gX1 E a_before w1, gX2 E a_hist hist_rows hist_next hist_count] : List va_W)) ⟨hx, hb, hml, hown, hts⟩ (c1_become l E a_before a_forest   (φ_before) (φ_forest) w1 hr2) (cwV 1 hts (ws_v q256 q257 q258 q19 q259) rfl rfl rfl hdV_X1_become (by rw [hR]; exact ⟨Nat.le_of_ble_eq_true rfl, Nat.le_of_ble_eq_true rfl⟩)) hK hN hP hD hS hA [0, 1, 2, 5] [4, 3] [0, 1, 2, 5, 4, 3] rfl rfl (by decide) (by decide) rfl (by decide) 0 1 rfl rfl rfl rfl hl.1 rfl (Nat.le_of_ble_eq_true rfl) dX8_play_8 (by rw [hR]; exact ⟨Nat.le_of_ble_eq_true rfl, Nat.le_of_ble_eq_true rfl⟩) (fun H locs hP hD hS => ?_)
  refine W.eq (g2 := F0 m 11 ls []) rfl ?_
  refine lv_aload_n hx hb dX8_play_11 rfl (lv_at hl 0 rfl) ?_
  refine lv_aload_n hx hb dX8_play_12 rfl (lv_at hl 0 rfl) ?_
  refine va_get (D := E.1) (ci := 8) (v := .ref (a_desk 0)) (C := RX8) (T := TX8) (N := 11) hx hb hts iX8 hown hK hP 0 rfl rfl 5 (by decide) (hts _ q219) (fun _ h9 => h9) rfl dX8_play_13 ?_
  refine lv_iload_n hx hb dX8_play_16 rfl (lv_at hl 1 rfl) ?_
  refine lv_iload_n hx hb dX8_play_17 rfl (lv_at hl 2 rfl) ?_
  obtain ⟨⟨r3, w4, w5, w6, w7, w8, w9⟩, hr10, h⟩ := ob h
  dsimp only at h
  refine px_V (As := [.int x1, .int x2]) (rest := [.ref (a 0)]) (gs := ([gX8 E a (a_forest 0) (a_before 0) r_this_saved v_isSaved (a_hist 0) (a_desk 0) r_this_walk r_this_input r_this_orders r_this_written v_wrongPosition, gX0 E a_desk (a_forest 0) (a_mix 0) desk_reason desk_detail, gX5 E a_mix mix_row mix_conflictCount mix_lowest, gX1 E a_forest φ_forest, gX1 E a_before w1, gX2 E a_hist hist_rows hist_next hist_count] : List va_W)) (gr := ([gX8 E a (a_forest 0) (a_before 0) r_this_saved v_isSaved (a_hist 0) (a_desk 0) r_this_walk r_this_input r_this_orders r_this_written v_wrongPosition, gX1 E a_before w1, gX2 E a_hist hist_rows hist_next hist_count] : List va_W)) (gc := ([gX0 E a_desk (a_forest 0) (a_mix 0) desk_reason desk_detail, gX5 E a_mix mix_row mix_conflictCount mix_lowest, gX1 E a_forest φ_forest] : List va_W)) (g1 := ([gX0 E a_desk (a_forest 0) (a_mix 0) w4 w5, gX5 E a_mix w6 w7 w8, gX1 E a_forest w9] : List va_W)) (g2 := ([gX8 E a (a_forest 0) (a_before 0) r_this_saved v_isSaved (a_hist 0) (a_desk 0) r_this_walk r_this_input r_this_orders r_this_written v_wrongPosition, gX0 E a_desk (a_forest 0) (a_mix 0) w4 w5, gX5 E a_mix w6 w7 w8, gX1 E a_forest w9, gX1 E a_before w1, gX2 E a_hist hist_rows hist_next hist_count] : List va_W)) ⟨hx, hb, hml, hown, hts⟩ (c0_tryPlay l E a_desk a_mix a_forest  (x1) (x2) (desk_reason) (desk_detail) (mix_row) (mix_conflictCount) (mix_lowest) (φ_forest) r3 w4 w5 w6 w7 w8 w9 hr10) (cwV 2 hts (ws_v q1189 q1190 q1191 q21 q1192) rfl rfl rfl hdV_X0_tryPlay (by rw [hR]; exact ⟨Nat.le_of_ble_eq_true rfl, Nat.le_of_ble_eq_true rfl⟩)) hK hN hP hD hS hA [0, 4, 5] [1, 2, 3] [0, 3, 4, 5, 1, 2] rfl rfl (by decide) (by decide) rfl (by decide) 0 0 rfl rfl rfl rfl hl.1 rfl (Nat.le_of_ble_eq_true rfl) dX8_play_18 (by rw [hR]; exact ⟨Nat.le_of_ble_eq_true rfl, Nat.le_of_ble_eq_true rfl⟩) (fun H locs hP hD hS => ?_)
  refine W.eq (g2 := F0 m 21 ls [.int r3, .ref (a 0)]) rfl ?_
  obtain ⟨⟨k17, r11, w12, w13, w14, w15⟩, hr16, h⟩ := ob h
  dsimp only at h
  refine px_VT (As := [.int r3]) (rest := []) (gs := ([gX8 E a (a_forest 0) (a_before 0) r_this_saved v_isSaved (a_hist 0) (a_desk 0) r_this_walk r_this_input r_this_orders r_this_written v_wrongPosition, gX0 E a_desk (a_forest 0) (a_mix 0) w4 w5, gX5 E a_mix w6 w7 w8, gX1 E a_forest w9, gX1 E a_before w1, gX2 E a_hist hist_rows hist_next hist_count] : List va_W)) (gr := ([gX0 E a_desk (a_forest 0) (a_mix 0) w4 w5, gX5 E a_mix w6 w7 w8] : List va_W)) (gc := ([gX8 E a (a_forest 0) (a_before 0) r_this_saved v_isSaved (a_hist 0) (a_desk 0) r_this_walk r_this_input r_this_orders r_this_written v_wrongPosition, gX1 E a_forest w9, gX1 E a_before w1, gX2 E a_hist hist_rows hist_next hist_count] : List va_W)) (g1 := ([gX8 E a (a_forest 0) (a_before 0) r_this_saved v_isSaved (a_hist 0) (a_desk 0) r_this_walk r_this_input r_this_orders r_this_written v_wrongPosition, gX1 E a_forest w12, gX1 E a_before w1, gX2 E a_hist w13 w14 w15] : List va_W)) (g2 := ([gX8 E a (a_forest 0) (a_before 0) r_this_saved v_isSaved (a_hist 0) (a_desk 0) r_this_walk r_this_input r_this_orders r_this_written v_wrongPosition, gX0 E a_desk (a_forest 0) (a_mix 0) w4 w5, gX5 E a_mix w6 w7 w8, gX1 E a_forest w12, gX1 E a_before w1, gX2 E a_hist w13 w14 w15] : List va_W)) ⟨hx, hb, hml, hown, hts⟩ (c8_finished l hlt E X a a_forest a_before a_hist r_this_saved (a_desk 0) r_this_walk r_this_input r_this_orders r_this_written (r3) (v_isSaved) (v_wrongPosition) (w9) (w1) (hist_rows) (hist_next) (hist_count) k17 r11 w12 w13 w14 w15 hr16) (cwV 1 hts (ws_v q338 q340 q1 q18 q341) rfl rfl rfl hdV_X8_finished (by rw [hR]; exact ⟨Nat.le_of_ble_eq_true rfl, Nat.le_of_ble_eq_true rfl⟩)) hK hN hX hP hD hS hA [1, 2] [0, 3, 4, 5] [2, 0, 1, 3, 4, 5] rfl rfl (by decide) (by decide) rfl (by decide) 0 8 rfl rfl rfl rfl hl.1 rfl (Nat.le_of_ble_eq_true rfl) dX8_play_21 (by rw [hR]; exact ⟨Nat.le_of_ble_eq_true rfl, Nat.le_of_ble_eq_true rfl⟩) (fun hk q9 ce H locs hP hD hS hc1 hc2 hc3 => ?_) (fun hk H locs hP hD hS => ?_)
  · rw [if_neg hk] at h
    cases h
    exact px_outT hk rfl hc1 hc2 hc3 hA0 hQ hP hD hS htb hlocks (by decide) (by decide)
  rw [if_pos hk] at h
  refine W.eq (g2 := F0 m 24 ls [.int r11]) rfl ?_
  cases h
  exact px_eTi (by decide) (by decide) hA0 hQ hP hD hS hx hb hr hlocks dX8_play_24
def f8_line (x1 : Int32) (φ_forest : Fo) (lin_signs : AI) (lin_length : Int32) : Option (Nat × Int32 × AI × Int32) := ((f8_needCommit (x1) (φ_forest)).bind fun k2 => (if k2 = 0 then ((f4_write (x1) (lin_signs) (lin_length) (φ_forest)).bind fun (r3, w4, w5) => (some (0, r3, w4, w5))) else (some (k2, (nI 0), lin_signs, lin_length))))
set_option maxHeartbeats 4000000 in
set_option maxRecDepth 100000 in
theorem c8_line (l : Launch) (hlt : l.stackTraces = false) (E : PE) (X : PX) (a : Nat → Nat) (a_forest : Nat → Nat) (a_lin : Nat → Nat) (r_this_before : Nat) (r_this_saved : Nat) (r_this_history : Nat) (r_this_desk : Nat) (r_this_walk : Nat) (r_this_input : Nat) (r_this_orders : Nat) (x1 : Int32) (v_isSaved : Int32) (v_wrongPosition : Int32) (φ_forest : Fo) (lin_signs : AI) (lin_length : Int32) (k : Nat) (r : Int32) (z_lin_signs : AI) (z_lin_length : Int32) (h : f8_line x1 φ_forest lin_signs lin_length = some (k, r, z_lin_signs, z_lin_length)) : MT l yX8_line cX8_line 2 (some .int) { frames := 7, cells := 1, slots := 6, locals := 111 } E X [.ref (a 0), .int x1] ([gX8 E a (a_forest 0) r_this_before r_this_saved v_isSaved r_this_history r_this_desk r_this_walk r_this_input r_this_orders (a_lin 0) v_wrongPosition, gX1 E a_forest φ_forest, gX4 E a_lin lin_signs lin_length] : List va_W).flatten 1 6 k (some (.int r)) ([gX8 E a (a_forest 0) r_this_before r_this_saved v_isSaved r_this_history r_this_desk r_this_walk r_this_input r_this_orders (a_lin 0) v_wrongPosition, gX1 E a_forest φ_forest, gX4 E a_lin z_lin_signs z_lin_length] : List va_W).flatten := by
  refine px_startT (by decide +kernel) (Nat.le_of_ble_eq_true rfl) ?_
  intro p e s m args below meth c R Q A ls hC hX hA0 hQ htb
  obtain ⟨hx, hb, hr, hml, hts, hown, hlocks, hR, hK, hN, hP, hD, hA, hl, hin⟩ := hC
  have hl : lv_has ls 2 [(0, .ref (a 0)), (1, .int x1)] := hl
  suffices key : ∀ (H : Heap) (locs : List Loc), va_P E.1 vwCl ([gX8 E a (a_forest 0) r_this_before r_this_saved v_isSaved r_this_history r_this_desk r_this_walk r_this_input r_this_orders (a_lin 0) v_wrongPosition, gX1 E a_forest φ_forest, gX4 E a_lin lin_signs lin_length] : List va_W).flatten H → va_S A s.heap H locs → W p l e R s m args below meth c H locs 0 0 Q (F0 m 0 ls []) from key s.heap [] hP va_S.rf
  unfold f8_line at h
  intro H locs hP hS
  refine lv_aload_n hx hb dX8_line_0 rfl (lv_at hl 0 rfl) ?_
  refine lv_iload_n hx hb dX8_line_1 rfl (lv_at hl 1 rfl) ?_
  obtain ⟨k2, hr1, h⟩ := ob h
  refine px_VT (As := [.int x1]) (rest := []) (gs := ([gX8 E a (a_forest 0) r_this_before r_this_saved v_isSaved r_this_history r_this_desk r_this_walk r_this_input r_this_orders (a_lin 0) v_wrongPosition, gX1 E a_forest φ_forest, gX4 E a_lin lin_signs lin_length] : List va_W)) (gr := ([gX4 E a_lin lin_signs lin_length] : List va_W)) (gc := ([gX8 E a (a_forest 0) r_this_before r_this_saved v_isSaved r_this_history r_this_desk r_this_walk r_this_input r_this_orders (a_lin 0) v_wrongPosition, gX1 E a_forest φ_forest] : List va_W)) (g1 := ([gX8 E a (a_forest 0) r_this_before r_this_saved v_isSaved r_this_history r_this_desk r_this_walk r_this_input r_this_orders (a_lin 0) v_wrongPosition, gX1 E a_forest φ_forest] : List va_W)) (g2 := ([gX8 E a (a_forest 0) r_this_before r_this_saved v_isSaved r_this_history r_this_desk r_this_walk r_this_input r_this_orders (a_lin 0) v_wrongPosition, gX1 E a_forest φ_forest, gX4 E a_lin lin_signs lin_length] : List va_W)) ⟨hx, hb, hml, hown, hts⟩ (c8_needCommit l hlt E X a a_forest r_this_before r_this_saved r_this_history r_this_desk r_this_walk r_this_input r_this_orders (a_lin 0) (x1) (v_isSaved) (v_wrongPosition) (φ_forest) k2 hr1) (cwV 1 hts (ws_v q515 q517 q5 q18 q518) rfl rfl rfl hdV_X8_needCommit (by rw [hR]; exact ⟨Nat.le_of_ble_eq_true rfl, Nat.le_of_ble_eq_true rfl⟩)) hK hN hX hP hD hS hA [2] [0, 1] [1, 2, 0] rfl rfl (by decide) (by decide) rfl (by decide) 0 8 rfl rfl rfl rfl hl.1 rfl (Nat.le_of_ble_eq_true rfl) dX8_line_2 (by rw [hR]; exact ⟨Nat.le_of_ble_eq_true rfl, Nat.le_of_ble_eq_true rfl⟩) (fun hk q9 ce H locs hP hD hS hc1 hc2 hc3 => ?_) (fun hk H locs hP hD hS => ?_)
  · rw [if_neg hk] at h
    cases h
    exact px_outT hk rfl hc1 hc2 hc3 hA0 hQ hP hD hS htb hlocks (by decide) (by decide)
  rw [if_pos hk] at h
  refine W.eq (g2 := F0 m 5 ls []) rfl ?_
  refine lv_aload_n hx hb dX8_line_5 rfl (lv_at hl 0 rfl) ?_
  refine va_get (D := E.1) (ci := 8) (v := .ref (a_lin 0)) (C := RX8) (T := TX8) (N := 11) hx hb hts iX8 hown hK hP 0 rfl rfl 9 (by decide) (hts _ q223) (fun _ h9 => h9) rfl dX8_line_6 ?_
  refine lv_aload_n hx hb dX8_line_9 rfl (lv_at hl 0 rfl) ?_
  refine va_get (D := E.1) (ci := 8) (v := .ref (a_forest 0)) (C := RX8) (T := TX8) (N := 11) hx hb hts iX8 hown hK hP 0 rfl rfl 0 (by decide) (hts _ q214) (fun _ h9 => h9) rfl dX8_line_10 ?_
  refine lv_iload_n hx hb dX8_line_13 rfl (lv_at hl 1 rfl) ?_
  obtain ⟨⟨r3, w4, w5⟩, hr6, h⟩ := ob h
  dsimp only at h
  refine px_V (As := [.ref (a_forest 0), .int x1]) (rest := []) (gs := ([gX8 E a (a_forest 0) r_this_before r_this_saved v_isSaved r_this_history r_this_desk r_this_walk r_this_input r_this_orders (a_lin 0) v_wrongPosition, gX1 E a_forest φ_forest, gX4 E a_lin lin_signs lin_length] : List va_W)) (gr := ([gX8 E a (a_forest 0) r_this_before r_this_saved v_isSaved r_this_history r_this_desk r_this_walk r_this_input r_this_orders (a_lin 0) v_wrongPosition] : List va_W)) (gc := ([gX4 E a_lin lin_signs lin_length, gX1 E a_forest φ_forest] : List va_W)) (g1 := ([gX4 E a_lin w4 w5, gX1 E a_forest φ_forest] : List va_W)) (g2 := ([gX8 E a (a_forest 0) r_this_before r_this_saved v_isSaved r_this_history r_this_desk r_this_walk r_this_input r_this_orders (a_lin 0) v_wrongPosition, gX1 E a_forest φ_forest, gX4 E a_lin w4 w5] : List va_W)) ⟨hx, hb, hml, hown, hts⟩ (c4_write l E a_lin a_forest  (x1) (lin_signs) (lin_length) (φ_forest) r3 w4 w5 hr6) (cwV 2 hts (ws_v q1065 q1066 q1067 q26 q1068) rfl rfl rfl hdV_X4_write (by rw [hR]; exact ⟨Nat.le_of_ble_eq_true rfl, Nat.le_of_ble_eq_true rfl⟩)) hK hN hP hD hS hA [0] [2, 1] [0, 2, 1] rfl rfl (by decide) (by decide) rfl (by decide) 0 4 rfl rfl rfl rfl hl.1 rfl (Nat.le_of_ble_eq_true rfl) dX8_line_14 (by rw [hR]; exact ⟨Nat.le_of_ble_eq_true rfl, Nat.le_of_ble_eq_true rfl⟩) (fun H locs hP hD hS => ?_)
  refine W.eq (g2 := F0 m 17 ls [.int r3]) rfl ?_
  cases h
  exact px_eTi (by decide) (by decide) hA0 hQ hP hD hS hx hb hr hlocks dX8_line_17
def f8_character (x1 : Int32) (lin_signs : AI) (lin_length : Int32) : Option (Nat × Int32) := ((f4_has (x1) (lin_length)).bind fun r1 => (if (b2i r1) = 0 then (some (1, (nI 0))) else ((f4_signAt (x1) (lin_signs) (lin_length)).bind fun r4 => (some (0, r4)))))
set_option maxHeartbeats 4000000 in
set_option maxRecDepth 100000 in
theorem c8_character (l : Launch) (hlt : l.stackTraces = false) (E : PE) (X : PX) (a : Nat → Nat) (a_lin : Nat → Nat) (r_this_forest : Nat) (r_this_before : Nat) (r_this_saved : Nat) (r_this_history : Nat) (r_this_desk : Nat) (r_this_walk : Nat) (r_this_input : Nat) (r_this_orders : Nat) (x1 : Int32) (v_isSaved : Int32) (v_wrongPosition : Int32) (lin_signs : AI) (lin_length : Int32) (k : Nat) (r : Int32) (h : f8_character x1 lin_signs lin_length = some (k, r)) : MT l yX8_character cX8_character 2 (some .char) { frames := 6, cells := 1, slots := 6, locals := 90 } E X [.ref (a 0), .int x1] ([gX8 E a r_this_forest r_this_before r_this_saved v_isSaved r_this_history r_this_desk r_this_walk r_this_input r_this_orders (a_lin 0) v_wrongPosition, gX4 E a_lin lin_signs lin_length] : List va_W).flatten 1 6 k (some (.int (ch r))) ([gX8 E a r_this_forest r_this_before r_this_saved v_isSaved r_this_history r_this_desk r_this_walk r_this_input r_this_orders (a_lin 0) v_wrongPosition, gX4 E a_lin lin_signs lin_length] : List va_W).flatten := by
  refine px_startT (by decide +kernel) (Nat.le_of_ble_eq_true rfl) ?_
  intro p e s m args below meth c R Q A ls hC hX hA0 hQ htb
  obtain ⟨hx, hb, hr, hml, hts, hown, hlocks, hR, hK, hN, hP, hD, hA, hl, hin⟩ := hC
  have hl : lv_has ls 2 [(0, .ref (a 0)), (1, .int x1)] := hl
  suffices key : ∀ (H : Heap) (locs : List Loc), va_P E.1 vwCl ([gX8 E a r_this_forest r_this_before r_this_saved v_isSaved r_this_history r_this_desk r_this_walk r_this_input r_this_orders (a_lin 0) v_wrongPosition, gX4 E a_lin lin_signs lin_length] : List va_W).flatten H → va_S A s.heap H locs → W p l e R s m args below meth c H locs 0 0 Q (F0 m 0 ls []) from key s.heap [] hP va_S.rf
  unfold f8_character at h
  intro H locs hP hS
  refine lv_aload_n hx hb dX8_character_0 rfl (lv_at hl 0 rfl) ?_
  refine va_get (D := E.1) (ci := 8) (v := .ref (a_lin 0)) (C := RX8) (T := TX8) (N := 11) hx hb hts iX8 hown hK hP 0 rfl rfl 9 (by decide) (hts _ q223) (fun _ h9 => h9) rfl dX8_character_1 ?_
  refine lv_iload_n hx hb dX8_character_4 rfl (lv_at hl 1 rfl) ?_
  obtain ⟨r1, hr2, h⟩ := ob h
  refine px_Vp (As := [.int x1]) (rest := []) (gs := ([gX8 E a r_this_forest r_this_before r_this_saved v_isSaved r_this_history r_this_desk r_this_walk r_this_input r_this_orders (a_lin 0) v_wrongPosition, gX4 E a_lin lin_signs lin_length] : List va_W)) (gc := ([gX4 E a_lin lin_signs lin_length] : List va_W)) ⟨hx, hb, hml, hown, hts⟩ (c4_has l E a_lin  (x1) (lin_signs) (lin_length) r1 hr2) (cwV 1 hts (ws_v q1089 q1090 q1091 q26 q1092) rfl rfl rfl hdV_X4_has (by rw [hR]; exact ⟨Nat.le_of_ble_eq_true rfl, Nat.le_of_ble_eq_true rfl⟩)) hK hN hP hD [1] rfl (by decide) 0 4 rfl rfl rfl rfl hl.1 rfl (Nat.le_of_ble_eq_true rfl) dX8_character_5 (by rw [hR]; exact ⟨Nat.le_of_ble_eq_true rfl, Nat.le_of_ble_eq_true rfl⟩) ?_
  refine W.eq (g2 := F0 m 8 ls [.int (b2i r1)]) rfl ?_
  refine lv_if_ne (tgt := 21) hx hb dX8_character_8 (by decide) (fun c3 => ?_) (fun c3 => ?_)
  · rw [if_neg c3] at h
    refine lv_aload_n hx hb dX8_character_21 rfl (lv_at hl 0 rfl) ?_
    refine va_get (D := E.1) (ci := 8) (v := .ref (a_lin 0)) (C := RX8) (T := TX8) (N := 11) hx hb hts iX8 hown hK hP 0 rfl rfl 9 (by decide) (hts _ q223) (fun _ h9 => h9) rfl dX8_character_22 ?_
    refine lv_iload_n hx hb dX8_character_25 rfl (lv_at hl 1 rfl) ?_
    obtain ⟨r4, hr5, h⟩ := ob h
    refine px_Vp (As := [.int x1]) (rest := []) (gs := ([gX8 E a r_this_forest r_this_before r_this_saved v_isSaved r_this_history r_this_desk r_this_walk r_this_input r_this_orders (a_lin 0) v_wrongPosition, gX4 E a_lin lin_signs lin_length] : List va_W)) (gc := ([gX4 E a_lin lin_signs lin_length] : List va_W)) ⟨hx, hb, hml, hown, hts⟩ (c4_signAt l E a_lin  (x1) (lin_signs) (lin_length) r4 hr5) (cwV 1 hts (ws_v q1094 q1095 q1096 q26 q1097) rfl rfl rfl hdV_X4_signAt (by rw [hR]; exact ⟨Nat.le_of_ble_eq_true rfl, Nat.le_of_ble_eq_true rfl⟩)) hK hN hP hD [1] rfl (by decide) 0 4 rfl rfl rfl rfl hl.1 rfl (Nat.le_of_ble_eq_true rfl) dX8_character_26 (by rw [hR]; exact ⟨Nat.le_of_ble_eq_true rfl, Nat.le_of_ble_eq_true rfl⟩) ?_
    refine W.eq (g2 := F0 m 29 ls [.int (ch r4)]) rfl ?_
    cases h
    exact px_eTz (ch_n _) (by decide) (by decide) hA0 hQ hP hD hS hx hb hr hlocks dX8_character_29
  · rw [if_pos c3] at h
    cases h
    exact px_thrS (k := 1) (i := 33) (tx := "there is no such index") hx hb hlt hown (hts _ q354) (hts _ q33) hX rfl (at_1_223 hts hX) ag_1_223 (by decide +kernel) hA0 hQ hP hD hS (hml.trans hl.1.symm) htb hlocks dX8_character_11 dX8_character_14 dX8_character_15 dX8_character_17 dX8_character_20 (by rw [hR]; exact Nat.le_of_ble_eq_true rfl) (by rw [hR]; exact Nat.le_of_ble_eq_true rfl) (by rw [hR]; exact Nat.le_of_ble_eq_true rfl) (by rw [hR]; exact Nat.le_of_ble_eq_true rfl) (by decide) (by decide) (by decide)
def f8_append (x1 : Int32) (inp_signs : AI) (inp_length : Int32) : Option (Nat × Int32 × AI × Int32) := ((f3_isFull (inp_length)).bind fun r1 => (if (b2i r1) = 0 then ((f3_add (x1) (inp_signs) (inp_length)).bind fun (r4, w5, w6) => (some (0, r4, w5, w6))) else (some (5, (nI 0), inp_signs, inp_length))))
set_option maxHeartbeats 4000000 in
set_option maxRecDepth 100000 in
theorem c8_append (l : Launch) (hlt : l.stackTraces = false) (E : PE) (X : PX) (a : Nat → Nat) (a_inp : Nat → Nat) (r_this_forest : Nat) (r_this_before : Nat) (r_this_saved : Nat) (r_this_history : Nat) (r_this_desk : Nat) (r_this_walk : Nat) (r_this_orders : Nat) (r_this_written : Nat) (x1 : Int32) (v_isSaved : Int32) (v_wrongPosition : Int32) (inp_signs : AI) (inp_length : Int32) (k : Nat) (r : Int32) (z_inp_signs : AI) (z_inp_length : Int32) (h : f8_append x1 inp_signs inp_length = some (k, r, z_inp_signs, z_inp_length)) : MT l yX8_append cX8_append 2 (some .int) { frames := 6, cells := 1, slots := 6, locals := 90 } E X [.ref (a 0), .int (ch x1)] ([gX8 E a r_this_forest r_this_before r_this_saved v_isSaved r_this_history r_this_desk r_this_walk (a_inp 0) r_this_orders r_this_written v_wrongPosition, gX3 E a_inp inp_signs inp_length] : List va_W).flatten 1 6 k (some (.int r)) ([gX8 E a r_this_forest r_this_before r_this_saved v_isSaved r_this_history r_this_desk r_this_walk (a_inp 0) r_this_orders r_this_written v_wrongPosition, gX3 E a_inp z_inp_signs z_inp_length] : List va_W).flatten := by
  refine px_startT (by decide +kernel) (Nat.le_of_ble_eq_true rfl) ?_
  intro p e s m args below meth c R Q A ls hC hX hA0 hQ htb
  obtain ⟨hx, hb, hr, hml, hts, hown, hlocks, hR, hK, hN, hP, hD, hA, hl, hin⟩ := hC
  have hl : lv_has ls 2 [(0, .ref (a 0)), (1, .int (ch x1))] := hl
  suffices key : ∀ (H : Heap) (locs : List Loc), va_P E.1 vwCl ([gX8 E a r_this_forest r_this_before r_this_saved v_isSaved r_this_history r_this_desk r_this_walk (a_inp 0) r_this_orders r_this_written v_wrongPosition, gX3 E a_inp inp_signs inp_length] : List va_W).flatten H → va_S A s.heap H locs → W p l e R s m args below meth c H locs 0 0 Q (F0 m 0 ls []) from key s.heap [] hP va_S.rf
  unfold f8_append at h
  intro H locs hP hS
  refine lv_aload_n hx hb dX8_append_0 rfl (lv_at hl 0 rfl) ?_
  refine va_get (D := E.1) (ci := 8) (v := .ref (a_inp 0)) (C := RX8) (T := TX8) (N := 11) hx hb hts iX8 hown hK hP 0 rfl rfl 7 (by decide) (hts _ q221) (fun _ h9 => h9) rfl dX8_append_1 ?_
  obtain ⟨r1, hr2, h⟩ := ob h
  refine px_Vp (As := []) (rest := []) (gs := ([gX8 E a r_this_forest r_this_before r_this_saved v_isSaved r_this_history r_this_desk r_this_walk (a_inp 0) r_this_orders r_this_written v_wrongPosition, gX3 E a_inp inp_signs inp_length] : List va_W)) (gc := ([gX3 E a_inp inp_signs inp_length] : List va_W)) ⟨hx, hb, hml, hown, hts⟩ (c3_isFull l E a_inp   (inp_signs) (inp_length) r1 hr2) (cwV 0 hts (ws_v q707 q708 q709 q24 q710) rfl rfl rfl hdV_X3_isFull (by rw [hR]; exact ⟨Nat.le_of_ble_eq_true rfl, Nat.le_of_ble_eq_true rfl⟩)) hK hN hP hD [1] rfl (by decide) 0 3 rfl rfl rfl rfl hl.1 rfl (Nat.le_of_ble_eq_true rfl) dX8_append_4 (by rw [hR]; exact ⟨Nat.le_of_ble_eq_true rfl, Nat.le_of_ble_eq_true rfl⟩) ?_
  refine W.eq (g2 := F0 m 7 ls [.int (b2i r1)]) rfl ?_
  refine lv_if_eq (tgt := 20) hx hb dX8_append_7 (by decide) (fun c3 => ?_) (fun c3 => ?_)
  · rw [if_pos c3] at h
    refine lv_aload_n hx hb dX8_append_20 rfl (lv_at hl 0 rfl) ?_
    refine va_get (D := E.1) (ci := 8) (v := .ref (a_inp 0)) (C := RX8) (T := TX8) (N := 11) hx hb hts iX8 hown hK hP 0 rfl rfl 7 (by decide) (hts _ q221) (fun _ h9 => h9) rfl dX8_append_21 ?_
    refine lv_iload_n hx hb dX8_append_24 rfl (lv_at hl 1 rfl) ?_
    obtain ⟨⟨r4, w5, w6⟩, hr7, h⟩ := ob h
    dsimp only at h
    refine px_V (As := [.int (ch x1)]) (rest := []) (gs := ([gX8 E a r_this_forest r_this_before r_this_saved v_isSaved r_this_history r_this_desk r_this_walk (a_inp 0) r_this_orders r_this_written v_wrongPosition, gX3 E a_inp inp_signs inp_length] : List va_W)) (gr := ([gX8 E a r_this_forest r_this_before r_this_saved v_isSaved r_this_history r_this_desk r_this_walk (a_inp 0) r_this_orders r_this_written v_wrongPosition] : List va_W)) (gc := ([gX3 E a_inp inp_signs inp_length] : List va_W)) (g1 := ([gX3 E a_inp w5 w6] : List va_W)) (g2 := ([gX8 E a r_this_forest r_this_before r_this_saved v_isSaved r_this_history r_this_desk r_this_walk (a_inp 0) r_this_orders r_this_written v_wrongPosition, gX3 E a_inp w5 w6] : List va_W)) ⟨hx, hb, hml, hown, hts⟩ (c3_add l E a_inp  (x1) (inp_signs) (inp_length) r4 w5 w6 hr7) (cwV 1 hts (ws_v q727 q728 q729 q24 q730) rfl rfl rfl hdV_X3_add (by rw [hR]; exact ⟨Nat.le_of_ble_eq_true rfl, Nat.le_of_ble_eq_true rfl⟩)) hK hN hP hD hS hA [0] [1] [0, 1] rfl rfl (by decide) (by decide) rfl (by decide) 0 3 rfl rfl rfl rfl hl.1 rfl (Nat.le_of_ble_eq_true rfl) dX8_append_25 (by rw [hR]; exact ⟨Nat.le_of_ble_eq_true rfl, Nat.le_of_ble_eq_true rfl⟩) (fun H locs hP hD hS => ?_)
    refine W.eq (g2 := F0 m 28 ls [.int r4]) rfl ?_
    cases h
    exact px_eTi (by decide) (by decide) hA0 hQ hP hD hS hx hb hr hlocks dX8_append_28
  · rw [if_neg c3] at h
    cases h
    exact px_thrS (k := 5) (i := 27) (tx := "the input is full") hx hb hlt hown (hts _ q711) (hts _ q30) hX rfl (at_5_252 hts hX) ag_5_252 (by decide +kernel) hA0 hQ hP hD hS (hml.trans hl.1.symm) htb hlocks dX8_append_10 dX8_append_13 dX8_append_14 dX8_append_16 dX8_append_19 (by rw [hR]; exact Nat.le_of_ble_eq_true rfl) (by rw [hR]; exact Nat.le_of_ble_eq_true rfl) (by rw [hR]; exact Nat.le_of_ble_eq_true rfl) (by rw [hR]; exact Nat.le_of_ble_eq_true rfl) (by decide) (by decide) (by decide)
def f8_read  (v_wrongPosition : Int32) (desk_reason : Int32) (desk_detail : Int32) (mix_row : AI) (mix_conflictCount : Int32) (mix_lowest : Int32) (φ_forest : Fo) (φ_before : Fo) (hist_rows : (Nat → Fo)) (hist_next : Int32) (hist_count : Int32) (inp_signs : AI) (inp_length : Int32) (ord_rows : AI) (ord_count : Int32) (ord_position : Int32) (ord_column : Int32) : Option (Nat × Int32 × Int32 × Int32 × Int32 × AI × Int32 × Int32 × Fo × Fo × (Nat → Fo) × Int32 × Int32 × Int32 × AI × Int32 × Int32 × Int32) := ((f6_parse (ord_rows) (ord_count) (ord_position) (ord_column) (inp_signs) (inp_length)).bind fun (r1, w2, w3, w4, w5) => ((f3_clear (inp_length)).bind fun w7 => (if r1 = (-1 : Int32) then ((f1_become (φ_before) (φ_forest)).bind fun w10 => ((f6_carryOut (w2) (w3) (desk_reason) (desk_detail) (mix_row) (mix_conflictCount) (mix_lowest) (φ_forest)).bind fun (r12, w13, w14, w15, w16, w17, w18) => ((f8_finished (r12) (w18) (w10) (hist_rows) (hist_next) (hist_count)).bind fun (k26, r20, w21, w22, w23, w24) => (if k26 = 0 then (some (0, r20, r1, w13, w14, w15, w16, w17, w21, w10, w22, w23, w24, w7, w2, w3, w4, w5)) else (some (k26, (nI 0), r1, w13, w14, w15, w16, w17, w21, w10, w22, w23, w24, w7, w2, w3, w4, w5)))))) else (some (2, (nI 0), r1, desk_reason, desk_detail, mix_row, mix_conflictCount, mix_lowest, φ_forest, φ_before, hist_rows, hist_next, hist_count, w7, w2, w3, w4, w5)))))
set_option maxHeartbeats 4000000 in
set_option maxRecDepth 100000 in
theorem c8_read (l : Launch) (hlt : l.stackTraces = false) (E : PE) (X : PX) (a : Nat → Nat) (a_desk : Nat → Nat) (a_mix : Nat → Nat) (a_forest : Nat → Nat) (a_before : Nat → Nat) (a_hist : Nat → Nat) (a_inp : Nat → Nat) (a_ord : Nat → Nat) (r_this_saved : Nat) (r_this_walk : Nat) (r_this_written : Nat)  (v_isSaved : Int32) (v_wrongPosition : Int32) (desk_reason : Int32) (desk_detail : Int32) (mix_row : AI) (mix_conflictCount : Int32) (mix_lowest : Int32) (φ_forest : Fo) (φ_before : Fo) (hist_rows : (Nat → Fo)) (hist_next : Int32) (hist_count : Int32) (inp_signs : AI) (inp_length : Int32) (ord_rows : AI) (ord_count : Int32) (ord_position : Int32) (ord_column : Int32) (k : Nat) (r : Int32) (z_this_wrongPosition : Int32) (z_desk_reason : Int32) (z_desk_detail : Int32) (z_mix_row : AI) (z_mix_conflictCount : Int32) (z_mix_lowest : Int32) (z_forest_φ : Fo) (z_before_φ : Fo) (z_hist_rows : (Nat → Fo)) (z_hist_next : Int32) (z_hist_count : Int32) (z_inp_length : Int32) (z_ord_rows : AI) (z_ord_count : Int32) (z_ord_position : Int32) (z_ord_column : Int32) (h : f8_read v_wrongPosition desk_reason desk_detail mix_row mix_conflictCount mix_lowest φ_forest φ_before hist_rows hist_next hist_count inp_signs inp_length ord_rows ord_count ord_position ord_column = some (k, r, z_this_wrongPosition, z_desk_reason, z_desk_detail, z_mix_row, z_mix_conflictCount, z_mix_lowest, z_forest_φ, z_before_φ, z_hist_rows, z_hist_next, z_hist_count, z_inp_length, z_ord_rows, z_ord_count, z_ord_position, z_ord_column)) : MT l yX8_read cX8_read 1 (some .int) { frames := 7, cells := 1, slots := 6, locals := 148 } E X [.ref (a 0)] ([gX8 E a (a_forest 0) (a_before 0) r_this_saved v_isSaved (a_hist 0) (a_desk 0) r_this_walk (a_inp 0) (a_ord 0) r_this_written v_wrongPosition, gX0 E a_desk (a_forest 0) (a_mix 0) desk_reason desk_detail, gX5 E a_mix mix_row mix_conflictCount mix_lowest, gX1 E a_forest φ_forest, gX1 E a_before φ_before, gX2 E a_hist hist_rows hist_next hist_count, gX3 E a_inp inp_signs inp_length, gX6 E a_ord ord_rows ord_count ord_position ord_column] : List va_W).flatten 1 6 k (some (.int r)) ([gX8 E a (a_forest 0) (a_before 0) r_this_saved v_isSaved (a_hist 0) (a_desk 0) r_this_walk (a_inp 0) (a_ord 0) r_this_written z_this_wrongPosition, gX0 E a_desk (a_forest 0) (a_mix 0) z_desk_reason z_desk_detail, gX5 E a_mix z_mix_row z_mix_conflictCount z_mix_lowest, gX1 E a_forest z_forest_φ, gX1 E a_before z_before_φ, gX2 E a_hist z_hist_rows z_hist_next z_hist_count, gX3 E a_inp inp_signs z_inp_length, gX6 E a_ord z_ord_rows z_ord_count z_ord_position z_ord_column] : List va_W).flatten := by
  refine px_startT (by decide +kernel) (Nat.le_of_ble_eq_true rfl) ?_
  intro p e s m args below meth c R Q A ls hC hX hA0 hQ htb
  obtain ⟨hx, hb, hr, hml, hts, hown, hlocks, hR, hK, hN, hP, hD, hA, hl, hin⟩ := hC
  have hl : lv_has ls 1 [(0, .ref (a 0))] := hl
  suffices key : ∀ (H : Heap) (locs : List Loc), va_P E.1 vwCl ([gX8 E a (a_forest 0) (a_before 0) r_this_saved v_isSaved (a_hist 0) (a_desk 0) r_this_walk (a_inp 0) (a_ord 0) r_this_written v_wrongPosition, gX0 E a_desk (a_forest 0) (a_mix 0) desk_reason desk_detail, gX5 E a_mix mix_row mix_conflictCount mix_lowest, gX1 E a_forest φ_forest, gX1 E a_before φ_before, gX2 E a_hist hist_rows hist_next hist_count, gX3 E a_inp inp_signs inp_length, gX6 E a_ord ord_rows ord_count ord_position ord_column] : List va_W).flatten H → va_S A s.heap H locs → W p l e R s m args below meth c H locs 0 0 Q (F0 m 0 ls []) from key s.heap [] hP va_S.rf
  unfold f8_read at h
  intro H locs hP hS
  refine lv_aload_n hx hb dX8_read_0 rfl (lv_at hl 0 rfl) ?_
  refine lv_aload_n hx hb dX8_read_1 rfl (lv_at hl 0 rfl) ?_
  refine va_get (D := E.1) (ci := 8) (v := .ref (a_ord 0)) (C := RX8) (T := TX8) (N := 11) hx hb hts iX8 hown hK hP 0 rfl rfl 8 (by decide) (hts _ q222) (fun _ h9 => h9) rfl dX8_read_2 ?_
  refine lv_aload_n hx hb dX8_read_5 rfl (lv_at hl 0 rfl) ?_
  refine va_get (D := E.1) (ci := 8) (v := .ref (a_inp 0)) (C := RX8) (T := TX8) (N := 11) hx hb hts iX8 hown hK hP 0 rfl rfl 7 (by decide) (hts _ q221) (fun _ h9 => h9) rfl dX8_read_6 ?_
  obtain ⟨⟨r1, w2, w3, w4, w5⟩, hr6, h⟩ := ob h
  dsimp only at h
  refine px_VX (As := [.ref (a_inp 0)]) (rest := [.ref (a 0)]) (gs := ([gX8 E a (a_forest 0) (a_before 0) r_this_saved v_isSaved (a_hist 0) (a_desk 0) r_this_walk (a_inp 0) (a_ord 0) r_this_written v_wrongPosition, gX0 E a_desk (a_forest 0) (a_mix 0) desk_reason desk_detail, gX5 E a_mix mix_row mix_conflictCount mix_lowest, gX1 E a_forest φ_forest, gX1 E a_before φ_before, gX2 E a_hist hist_rows hist_next hist_count, gX3 E a_inp inp_signs inp_length, gX6 E a_ord ord_rows ord_count ord_position ord_column] : List va_W)) (gr := ([gX8 E a (a_forest 0) (a_before 0) r_this_saved v_isSaved (a_hist 0) (a_desk 0) r_this_walk (a_inp 0) (a_ord 0) r_this_written v_wrongPosition, gX0 E a_desk (a_forest 0) (a_mix 0) desk_reason desk_detail, gX5 E a_mix mix_row mix_conflictCount mix_lowest, gX1 E a_forest φ_forest, gX1 E a_before φ_before, gX2 E a_hist hist_rows hist_next hist_count] : List va_W)) (gc := ([gX6 E a_ord ord_rows ord_count ord_position ord_column, gX3 E a_inp inp_signs inp_length] : List va_W)) (g1 := ([gX6 E a_ord w2 w3 w4 w5, gX3 E a_inp inp_signs inp_length] : List va_W)) (g2 := ([gX8 E a (a_forest 0) (a_before 0) r_this_saved v_isSaved (a_hist 0) (a_desk 0) r_this_walk (a_inp 0) (a_ord 0) r_this_written v_wrongPosition, gX0 E a_desk (a_forest 0) (a_mix 0) desk_reason desk_detail, gX5 E a_mix mix_row mix_conflictCount mix_lowest, gX1 E a_forest φ_forest, gX1 E a_before φ_before, gX2 E a_hist hist_rows hist_next hist_count, gX3 E a_inp inp_signs inp_length, gX6 E a_ord w2 w3 w4 w5] : List va_W)) ⟨hx, hb, hml, hown, hts⟩ (c6_parse l E X a_ord a_inp   (ord_rows) (ord_count) (ord_position) (ord_column) (inp_signs) (inp_length) r1 w2 w3 w4 w5 hr6) (cwV 1 hts (ws_v q738 q739 q740 q25 q741) rfl rfl rfl hdV_X6_parse (by rw [hR]; exact ⟨Nat.le_of_ble_eq_true rfl, Nat.le_of_ble_eq_true rfl⟩)) hK hN hX hP hD hS hA [0, 1, 2, 3, 4, 5] [7, 6] [0, 1, 2, 3, 4, 5, 7, 6] rfl rfl (by decide) (by decide) rfl (by decide) 0 6 rfl rfl rfl rfl hl.1 rfl (Nat.le_of_ble_eq_true rfl) dX8_read_9 (by rw [hR]; exact ⟨Nat.le_of_ble_eq_true rfl, Nat.le_of_ble_eq_true rfl⟩) (fun H locs hP hD hS => ?_)
  refine W.eq (g2 := F0 m 12 ls [.int r1, .ref (a 0)]) rfl ?_
  refine va_put (D := E.1) (ci := 8) (v := .int r1) (ty := .int) (C := RX8) (T := TX8) (N := 11) hx hb hts iX8 tyX8 tyX8_ok nmX8 hown hK hP hD hS 0 rfl rfl 10 (by decide) (hts _ q224) (fun _ h9 => h9) rfl (tyX8_ok 10 (by decide)) rfl rfl (Nat.le_of_ble_eq_true rfl) dX8_read_12 (fun H locs hP hD hS => ?_)
  have hP : va_P E.1 vwCl ([gX8 E a (a_forest 0) (a_before 0) r_this_saved v_isSaved (a_hist 0) (a_desk 0) r_this_walk (a_inp 0) (a_ord 0) r_this_written r1, gX0 E a_desk (a_forest 0) (a_mix 0) desk_reason desk_detail, gX5 E a_mix mix_row mix_conflictCount mix_lowest, gX1 E a_forest φ_forest, gX1 E a_before φ_before, gX2 E a_hist hist_rows hist_next hist_count, gX3 E a_inp inp_signs inp_length, gX6 E a_ord w2 w3 w4 w5] : List va_W).flatten H := hP
  have hD : va_D A ([gX8 E a (a_forest 0) (a_before 0) r_this_saved v_isSaved (a_hist 0) (a_desk 0) r_this_walk (a_inp 0) (a_ord 0) r_this_written r1, gX0 E a_desk (a_forest 0) (a_mix 0) desk_reason desk_detail, gX5 E a_mix mix_row mix_conflictCount mix_lowest, gX1 E a_forest φ_forest, gX1 E a_before φ_before, gX2 E a_hist hist_rows hist_next hist_count, gX3 E a_inp inp_signs inp_length, gX6 E a_ord w2 w3 w4 w5] : List va_W).flatten := hD
  refine lv_aload_n hx hb dX8_read_15 rfl (lv_at hl 0 rfl) ?_
  refine va_get (D := E.1) (ci := 8) (v := .ref (a_inp 0)) (C := RX8) (T := TX8) (N := 11) hx hb hts iX8 hown hK hP 0 rfl rfl 7 (by decide) (hts _ q221) (fun _ h9 => h9) rfl dX8_read_16 ?_
  obtain ⟨w7, hr8, h⟩ := ob h
  refine px_V (As := []) (rest := []) (gs := ([gX8 E a (a_forest 0) (a_before 0) r_this_saved v_isSaved (a_hist 0) (a_desk 0) r_this_walk (a_inp 0) (a_ord 0) r_this_written r1, gX0 E a_desk (a_forest 0) (a_mix 0) desk_reason desk_detail, gX5 E a_mix mix_row mix_conflictCount mix_lowest, gX1 E a_forest φ_forest, gX1 E a_before φ_before, gX2 E a_hist hist_rows hist_next hist_count, gX3 E a_inp inp_signs inp_length, gX6 E a_ord w2 w3 w4 w5] : List va_W)) (gr := ([gX8 E a (a_forest 0) (a_before 0) r_this_saved v_isSaved (a_hist 0) (a_desk 0) r_this_walk (a_inp 0) (a_ord 0) r_this_written r1, gX0 E a_desk (a_forest 0) (a_mix 0) desk_reason desk_detail, gX5 E a_mix mix_row mix_conflictCount mix_lowest, gX1 E a_forest φ_forest, gX1 E a_before φ_before, gX2 E a_hist hist_rows hist_next hist_count, gX6 E a_ord w2 w3 w4 w5] : List va_W)) (gc := ([gX3 E a_inp inp_signs inp_length] : List va_W)) (g1 := ([gX3 E a_inp inp_signs w7] : List va_W)) (g2 := ([gX8 E a (a_forest 0) (a_before 0) r_this_saved v_isSaved (a_hist 0) (a_desk 0) r_this_walk (a_inp 0) (a_ord 0) r_this_written r1, gX0 E a_desk (a_forest 0) (a_mix 0) desk_reason desk_detail, gX5 E a_mix mix_row mix_conflictCount mix_lowest, gX1 E a_forest φ_forest, gX1 E a_before φ_before, gX2 E a_hist hist_rows hist_next hist_count, gX3 E a_inp inp_signs w7, gX6 E a_ord w2 w3 w4 w5] : List va_W)) ⟨hx, hb, hml, hown, hts⟩ (c3_clear l E a_inp   (inp_signs) (inp_length) w7 hr8) (cwV 0 hts (ws_v q822 q823 q824 q24 q825) rfl rfl rfl hdV_X3_clear (by rw [hR]; exact ⟨Nat.le_of_ble_eq_true rfl, Nat.le_of_ble_eq_true rfl⟩)) hK hN hP hD hS hA [0, 1, 2, 3, 4, 5, 7] [6] [0, 1, 2, 3, 4, 5, 7, 6] rfl rfl (by decide) (by decide) rfl (by decide) 0 3 rfl rfl rfl rfl hl.1 rfl (Nat.le_of_ble_eq_true rfl) dX8_read_19 (by rw [hR]; exact ⟨Nat.le_of_ble_eq_true rfl, Nat.le_of_ble_eq_true rfl⟩) (fun H locs hP hD hS => ?_)
  refine W.eq (g2 := F0 m 22 ls []) rfl ?_
  refine lv_aload_n hx hb dX8_read_22 rfl (lv_at hl 0 rfl) ?_
  refine va_get (D := E.1) (ci := 8) (v := .int r1) (C := RX8) (T := TX8) (N := 11) hx hb hts iX8 hown hK hP 0 rfl rfl 10 (by decide) (hts _ q224) (fun _ h9 => h9) rfl dX8_read_23 ?_
  refine lv_iconst (v := (-1 : Int32)) hx hb dX8_read_26 (by decide) ?_
  refine lv_icmp_eq (tgt := 41) hx hb dX8_read_27 (by decide) (fun c9 => ?_) (fun c9 => ?_)
  · rw [if_pos c9] at h
    refine lv_aload_n hx hb dX8_read_41 rfl (lv_at hl 0 rfl) ?_
    refine va_get (D := E.1) (ci := 8) (v := .ref (a_before 0)) (C := RX8) (T := TX8) (N := 11) hx hb hts iX8 hown hK hP 0 rfl rfl 1 (by decide) (hts _ q215) (fun _ h9 => h9) rfl dX8_read_42 ?_
    refine lv_aload_n hx hb dX8_read_45 rfl (lv_at hl 0 rfl) ?_
    refine va_get (D := E.1) (ci := 8) (v := .ref (a_forest 0)) (C := RX8) (T := TX8) (N := 11) hx hb hts iX8 hown hK hP 0 rfl rfl 0 (by decide) (hts _ q214) (fun _ h9 => h9) rfl dX8_read_46 ?_
    obtain ⟨w10, hr11, h⟩ := ob h
    refine px_V (As := [.ref (a_forest 0)]) (rest := []) (gs := ([gX8 E a (a_forest 0) (a_before 0) r_this_saved v_isSaved (a_hist 0) (a_desk 0) r_this_walk (a_inp 0) (a_ord 0) r_this_written r1, gX0 E a_desk (a_forest 0) (a_mix 0) desk_reason desk_detail, gX5 E a_mix mix_row mix_conflictCount mix_lowest, gX1 E a_forest φ_forest, gX1 E a_before φ_before, gX2 E a_hist hist_rows hist_next hist_count, gX3 E a_inp inp_signs w7, gX6 E a_ord w2 w3 w4 w5] : List va_W)) (gr := ([gX8 E a (a_forest 0) (a_before 0) r_this_saved v_isSaved (a_hist 0) (a_desk 0) r_this_walk (a_inp 0) (a_ord 0) r_this_written r1, gX0 E a_desk (a_forest 0) (a_mix 0) desk_reason desk_detail, gX5 E a_mix mix_row mix_conflictCount mix_lowest, gX2 E a_hist hist_rows hist_next hist_count, gX3 E a_inp inp_signs w7, gX6 E a_ord w2 w3 w4 w5] : List va_W)) (gc := ([gX1 E a_before φ_before, gX1 E a_forest φ_forest] : List va_W)) (g1 := ([gX1 E a_before w10, gX1 E a_forest φ_forest] : List va_W)) (g2 := ([gX8 E a (a_forest 0) (a_before 0) r_this_saved v_isSaved (a_hist 0) (a_desk 0) r_this_walk (a_inp 0) (a_ord 0) r_this_written r1, gX0 E a_desk (a_forest 0) (a_mix 0) desk_reason desk_detail, gX5 E a_mix mix_row mix_conflictCount mix_lowest, gX1 E a_forest φ_forest, gX1 E a_before w10, gX2 E a_hist hist_rows hist_next hist_count, gX3 E a_inp inp_signs w7, gX6 E a_ord w2 w3 w4 w5] : List va_W)) ⟨hx, hb, hml, hown, hts⟩ (c1_become l E a_before a_forest   (φ_before) (φ_forest) w10 hr11) (cwV 1 hts (ws_v q256 q257 q258 q19 q259) rfl rfl rfl hdV_X1_become (by rw [hR]; exact ⟨Nat.le_of_ble_eq_true rfl, Nat.le_of_ble_eq_true rfl⟩)) hK hN hP hD hS hA [0, 1, 2, 5, 6, 7] [4, 3] [0, 1, 2, 7, 6, 3, 4, 5] rfl rfl (by decide) (by decide) rfl (by decide) 0 1 rfl rfl rfl rfl hl.1 rfl (Nat.le_of_ble_eq_true rfl) dX8_read_49 (by rw [hR]; exact ⟨Nat.le_of_ble_eq_true rfl, Nat.le_of_ble_eq_true rfl⟩) (fun H locs hP hD hS => ?_)
    refine W.eq (g2 := F0 m 52 ls []) rfl ?_
    refine lv_aload_n hx hb dX8_read_52 rfl (lv_at hl 0 rfl) ?_
    refine lv_aload_n hx hb dX8_read_53 rfl (lv_at hl 0 rfl) ?_
    refine va_get (D := E.1) (ci := 8) (v := .ref (a_ord 0)) (C := RX8) (T := TX8) (N := 11) hx hb hts iX8 hown hK hP 0 rfl rfl 8 (by decide) (hts _ q222) (fun _ h9 => h9) rfl dX8_read_54 ?_
    refine lv_aload_n hx hb dX8_read_57 rfl (lv_at hl 0 rfl) ?_
    refine va_get (D := E.1) (ci := 8) (v := .ref (a_desk 0)) (C := RX8) (T := TX8) (N := 11) hx hb hts iX8 hown hK hP 0 rfl rfl 5 (by decide) (hts _ q219) (fun _ h9 => h9) rfl dX8_read_58 ?_
    obtain ⟨⟨r12, w13, w14, w15, w16, w17, w18⟩, hr19, h⟩ := ob h
    dsimp only at h
    refine px_V (As := [.ref (a_desk 0)]) (rest := [.ref (a 0)]) (gs := ([gX8 E a (a_forest 0) (a_before 0) r_this_saved v_isSaved (a_hist 0) (a_desk 0) r_this_walk (a_inp 0) (a_ord 0) r_this_written r1, gX0 E a_desk (a_forest 0) (a_mix 0) desk_reason desk_detail, gX5 E a_mix mix_row mix_conflictCount mix_lowest, gX1 E a_forest φ_forest, gX1 E a_before w10, gX2 E a_hist hist_rows hist_next hist_count, gX3 E a_inp inp_signs w7, gX6 E a_ord w2 w3 w4 w5] : List va_W)) (gr := ([gX8 E a (a_forest 0) (a_before 0) r_this_saved v_isSaved (a_hist 0) (a_desk 0) r_this_walk (a_inp 0) (a_ord 0) r_this_written r1, gX1 E a_before w10, gX2 E a_hist hist_rows hist_next hist_count, gX3 E a_inp inp_signs w7] : List va_W)) (gc := ([gX6 E a_ord w2 w3 w4 w5, gX0 E a_desk (a_forest 0) (a_mix 0) desk_reason desk_detail, gX5 E a_mix mix_row mix_conflictCount mix_lowest, gX1 E a_forest φ_forest] : List va_W)) (g1 := ([gX6 E a_ord w2 w3 w4 w5, gX0 E a_desk (a_forest 0) (a_mix 0) w13 w14, gX5 E a_mix w15 w16 w17, gX1 E a_forest w18] : List va_W)) (g2 := ([gX8 E a (a_forest 0) (a_before 0) r_this_saved v_isSaved (a_hist 0) (a_desk 0) r_this_walk (a_inp 0) (a_ord 0) r_this_written r1, gX0 E a_desk (a_forest 0) (a_mix 0) w13 w14, gX5 E a_mix w15 w16 w17, gX1 E a_forest w18, gX1 E a_before w10, gX2 E a_hist hist_rows hist_next hist_count, gX3 E a_inp inp_signs w7, gX6 E a_ord w2 w3 w4 w5] : List va_W)) ⟨hx, hb, hml, hown, hts⟩ (c6_carryOut l E a_ord a_desk a_mix a_forest   (w2) (w3) (w4) (w5) (desk_reason) (desk_detail) (mix_row) (mix_conflictCount) (mix_lowest) (φ_forest) r12 w13 w14 w15 w16 w17 w18 hr19) (cwV 1 hts (ws_v q827 q828 q829 q25 q830) rfl rfl rfl hdV_X6_carryOut (by rw [hR]; exact ⟨Nat.le_of_ble_eq_true rfl, Nat.le_of_ble_eq_true rfl⟩)) hK hN hP hD hS hA [0, 4, 5, 6] [7, 1, 2, 3] [0, 5, 6, 7, 1, 2, 3, 4] rfl rfl (by decide) (by decide) rfl (by decide) 0 6 rfl rfl rfl rfl hl.1 rfl (Nat.le_of_ble_eq_true rfl) dX8_read_61 (by rw [hR]; exact ⟨Nat.le_of_ble_eq_true rfl, Nat.le_of_ble_eq_true rfl⟩) (fun H locs hP hD hS => ?_)
    refine W.eq (g2 := F0 m 64 ls [.int r12, .ref (a 0)]) rfl ?_
    obtain ⟨⟨k26, r20, w21, w22, w23, w24⟩, hr25, h⟩ := ob h
    dsimp only at h
    refine px_VT (As := [.int r12]) (rest := []) (gs := ([gX8 E a (a_forest 0) (a_before 0) r_this_saved v_isSaved (a_hist 0) (a_desk 0) r_this_walk (a_inp 0) (a_ord 0) r_this_written r1, gX0 E a_desk (a_forest 0) (a_mix 0) w13 w14, gX5 E a_mix w15 w16 w17, gX1 E a_forest w18, gX1 E a_before w10, gX2 E a_hist hist_rows hist_next hist_count, gX3 E a_inp inp_signs w7, gX6 E a_ord w2 w3 w4 w5] : List va_W)) (gr := ([gX0 E a_desk (a_forest 0) (a_mix 0) w13 w14, gX5 E a_mix w15 w16 w17, gX3 E a_inp inp_signs w7, gX6 E a_ord w2 w3 w4 w5] : List va_W)) (gc := ([gX8 E a (a_forest 0) (a_before 0) r_this_saved v_isSaved (a_hist 0) (a_desk 0) r_this_walk (a_inp 0) (a_ord 0) r_this_written r1, gX1 E a_forest w18, gX1 E a_before w10, gX2 E a_hist hist_rows hist_next hist_count] : List va_W)) (g1 := ([gX8 E a (a_forest 0) (a_before 0) r_this_saved v_isSaved (a_hist 0) (a_desk 0) r_this_walk (a_inp 0) (a_ord 0) r_this_written r1, gX1 E a_forest w21, gX1 E a_before w10, gX2 E a_hist w22 w23 w24] : List va_W)) (g2 := ([gX8 E a (a_forest 0) (a_before 0) r_this_saved v_isSaved (a_hist 0) (a_desk 0) r_this_walk (a_inp 0) (a_ord 0) r_this_written r1, gX0 E a_desk (a_forest 0) (a_mix 0) w13 w14, gX5 E a_mix w15 w16 w17, gX1 E a_forest w21, gX1 E a_before w10, gX2 E a_hist w22 w23 w24, gX3 E a_inp inp_signs w7, gX6 E a_ord w2 w3 w4 w5] : List va_W)) ⟨hx, hb, hml, hown, hts⟩ (c8_finished l hlt E X a a_forest a_before a_hist r_this_saved (a_desk 0) r_this_walk (a_inp 0) (a_ord 0) r_this_written (r12) (v_isSaved) (r1) (w18) (w10) (hist_rows) (hist_next) (hist_count) k26 r20 w21 w22 w23 w24 hr25) (cwV 1 hts (ws_v q338 q340 q1 q18 q341) rfl rfl rfl hdV_X8_finished (by rw [hR]; exact ⟨Nat.le_of_ble_eq_true rfl, Nat.le_of_ble_eq_true rfl⟩)) hK hN hX hP hD hS hA [1, 2, 6, 7] [0, 3, 4, 5] [4, 0, 1, 5, 6, 7, 2, 3] rfl rfl (by decide) (by decide) rfl (by decide) 0 8 rfl rfl rfl rfl hl.1 rfl (Nat.le_of_ble_eq_true rfl) dX8_read_64 (by rw [hR]; exact ⟨Nat.le_of_ble_eq_true rfl, Nat.le_of_ble_eq_true rfl⟩) (fun hk q9 ce H locs hP hD hS hc1 hc2 hc3 => ?_) (fun hk H locs hP hD hS => ?_)
    · rw [if_neg hk] at h
      cases h
      exact px_outT hk rfl hc1 hc2 hc3 hA0 hQ hP hD hS htb hlocks (by decide) (by decide)
    rw [if_pos hk] at h
    refine W.eq (g2 := F0 m 67 ls [.int r20]) rfl ?_
    cases h
    exact px_eTi (by decide) (by decide) hA0 hQ hP hD hS hx hb hr hlocks dX8_read_67
  · rw [if_neg c9] at h
    cases h
    exact px_thrSW (k := 2) (i := 28) (tx := "the text has an error") hx hb hlt hown (hts _ q424) (hts _ q34) hX rfl (at_2_135 hts hX) ag_2_135 (by decide +kernel) hA0 hQ hP hD hS (hml.trans hl.1.symm) htb hlocks dX8_read_30 dX8_read_33 dX8_read_34 dX8_read_37 dX8_read_40 (by rw [hR]; exact Nat.le_of_ble_eq_true rfl) (by rw [hR]; exact Nat.le_of_ble_eq_true rfl) (by rw [hR]; exact Nat.le_of_ble_eq_true rfl) (by rw [hR]; exact Nat.le_of_ble_eq_true rfl) (by decide) (by decide) (by decide)
def f8_errorPosition  (v_wrongPosition : Int32) : Option (Int32) := (some v_wrongPosition)
set_option maxHeartbeats 4000000 in
set_option maxRecDepth 100000 in
theorem c8_errorPosition (l : Launch) (E : PE) (a : Nat → Nat) (r_this_forest : Nat) (r_this_before : Nat) (r_this_saved : Nat) (r_this_history : Nat) (r_this_desk : Nat) (r_this_walk : Nat) (r_this_input : Nat) (r_this_orders : Nat) (r_this_written : Nat)  (v_isSaved : Int32) (v_wrongPosition : Int32) (r : Int32) (h : f8_errorPosition v_wrongPosition = some r) : MP l yX8_errorPosition cX8_errorPosition 1 (some .int) { frames := 0, cells := 0, slots := 0, locals := 0 } E [.ref (a 0)] ([gX8 E a r_this_forest r_this_before r_this_saved v_isSaved r_this_history r_this_desk r_this_walk r_this_input r_this_orders r_this_written v_wrongPosition] : List va_W).flatten (some (.int r)) := by
  refine px_startP (by decide +kernel) (Nat.le_of_ble_eq_true rfl) ?_
  intro p e s m args below meth c R Q A ls hC hQ
  obtain ⟨hx, hb, hr, hml, hts, hown, hlocks, hR, hK, hN, hP, hD, hA, hl, hin⟩ := hC
  have hl : lv_has ls 1 [(0, .ref (a 0))] := hl
  unfold f8_errorPosition at h
  refine lv_aload_n hx hb dX8_errorPosition_0 rfl (lv_at hl 0 rfl) ?_
  refine va_get (D := E.1) (ci := 8) (v := .int v_wrongPosition) (C := RX8) (T := TX8) (N := 11) hx hb hts iX8 hown hK hP 0 rfl rfl 10 (by decide) (hts _ q224) (fun _ h9 => h9) rfl dX8_errorPosition_1 ?_
  cases h
  exact px_ePi hQ hx hb hr hlocks dX8_errorPosition_4
def f8_refusal (x1 : Int32) (desk_reason : Int32) (desk_detail : Int32) : Option (Nat × Int32) := ((f0_latestReason (desk_reason)).bind fun r1 => (if r1 = (-1 : Int32) then (some (4, (nI 0))) else (if x1 = 0 then ((f0_latestReason (desk_reason)).bind fun r5 => (some (0, r5))) else ((f0_latestDetail (desk_detail)).bind fun r7 => (some (0, r7))))))
set_option maxHeartbeats 4000000 in
set_option maxRecDepth 100000 in
theorem c8_refusal (l : Launch) (hlt : l.stackTraces = false) (E : PE) (X : PX) (a : Nat → Nat) (a_desk : Nat → Nat) (r_this_forest : Nat) (r_this_before : Nat) (r_this_saved : Nat) (r_this_history : Nat) (r_this_walk : Nat) (r_this_input : Nat) (r_this_orders : Nat) (r_this_written : Nat) (r_desk_forest : Nat) (r_desk_mix : Nat) (x1 : Int32) (v_isSaved : Int32) (v_wrongPosition : Int32) (desk_reason : Int32) (desk_detail : Int32) (k : Nat) (r : Int32) (h : f8_refusal x1 desk_reason desk_detail = some (k, r)) : MT l yX8_refusal cX8_refusal 2 (some .int) { frames := 6, cells := 1, slots := 6, locals := 90 } E X [.ref (a 0), .int x1] ([gX8 E a r_this_forest r_this_before r_this_saved v_isSaved r_this_history (a_desk 0) r_this_walk r_this_input r_this_orders r_this_written v_wrongPosition, gX0 E a_desk r_desk_forest r_desk_mix desk_reason desk_detail] : List va_W).flatten 1 6 k (some (.int r)) ([gX8 E a r_this_forest r_this_before r_this_saved v_isSaved r_this_history (a_desk 0) r_this_walk r_this_input r_this_orders r_this_written v_wrongPosition, gX0 E a_desk r_desk_forest r_desk_mix desk_reason desk_detail] : List va_W).flatten := by
  refine px_startT (by decide +kernel) (Nat.le_of_ble_eq_true rfl) ?_
  intro p e s m args below meth c R Q A ls hC hX hA0 hQ htb
  obtain ⟨hx, hb, hr, hml, hts, hown, hlocks, hR, hK, hN, hP, hD, hA, hl, hin⟩ := hC
  have hl : lv_has ls 2 [(0, .ref (a 0)), (1, .int x1)] := hl
  suffices key : ∀ (H : Heap) (locs : List Loc), va_P E.1 vwCl ([gX8 E a r_this_forest r_this_before r_this_saved v_isSaved r_this_history (a_desk 0) r_this_walk r_this_input r_this_orders r_this_written v_wrongPosition, gX0 E a_desk r_desk_forest r_desk_mix desk_reason desk_detail] : List va_W).flatten H → va_S A s.heap H locs → W p l e R s m args below meth c H locs 0 0 Q (F0 m 0 ls []) from key s.heap [] hP va_S.rf
  unfold f8_refusal at h
  intro H locs hP hS
  refine lv_aload_n hx hb dX8_refusal_0 rfl (lv_at hl 0 rfl) ?_
  refine va_get (D := E.1) (ci := 8) (v := .ref (a_desk 0)) (C := RX8) (T := TX8) (N := 11) hx hb hts iX8 hown hK hP 0 rfl rfl 5 (by decide) (hts _ q219) (fun _ h9 => h9) rfl dX8_refusal_1 ?_
  obtain ⟨r1, hr2, h⟩ := ob h
  refine px_Vp (As := []) (rest := []) (gs := ([gX8 E a r_this_forest r_this_before r_this_saved v_isSaved r_this_history (a_desk 0) r_this_walk r_this_input r_this_orders r_this_written v_wrongPosition, gX0 E a_desk r_desk_forest r_desk_mix desk_reason desk_detail] : List va_W)) (gc := ([gX0 E a_desk r_desk_forest r_desk_mix desk_reason desk_detail] : List va_W)) ⟨hx, hb, hml, hown, hts⟩ (c0_latestReason l E a_desk r_desk_forest r_desk_mix  (desk_reason) (desk_detail) r1 hr2) (cwV 0 hts (ws_v q919 q920 q921 q21 q922) rfl rfl rfl hdV_X0_latestReason (by rw [hR]; exact ⟨Nat.le_of_ble_eq_true rfl, Nat.le_of_ble_eq_true rfl⟩)) hK hN hP hD [1] rfl (by decide) 0 0 rfl rfl rfl rfl hl.1 rfl (Nat.le_of_ble_eq_true rfl) dX8_refusal_4 (by rw [hR]; exact ⟨Nat.le_of_ble_eq_true rfl, Nat.le_of_ble_eq_true rfl⟩) ?_
  refine W.eq (g2 := F0 m 7 ls [.int r1]) rfl ?_
  refine lv_iconst (v := (-1 : Int32)) hx hb dX8_refusal_7 (by decide) ?_
  refine lv_icmp_ne (tgt := 22) hx hb dX8_refusal_8 (by decide) (fun c3 => ?_) (fun c3 => ?_)
  · rw [if_neg c3] at h
    refine lv_iload_n hx hb dX8_refusal_22 rfl (lv_at hl 1 rfl) ?_
    refine lv_if_eq (tgt := 36) hx hb dX8_refusal_23 (by decide) (fun c4 => ?_) (fun c4 => ?_)
    · rw [if_pos c4] at h
      refine lv_aload_n hx hb dX8_refusal_36 rfl (lv_at hl 0 rfl) ?_
      refine va_get (D := E.1) (ci := 8) (v := .ref (a_desk 0)) (C := RX8) (T := TX8) (N := 11) hx hb hts iX8 hown hK hP 0 rfl rfl 5 (by decide) (hts _ q219) (fun _ h9 => h9) rfl dX8_refusal_37 ?_
      obtain ⟨r5, hr6, h⟩ := ob h
      refine px_Vp (As := []) (rest := []) (gs := ([gX8 E a r_this_forest r_this_before r_this_saved v_isSaved r_this_history (a_desk 0) r_this_walk r_this_input r_this_orders r_this_written v_wrongPosition, gX0 E a_desk r_desk_forest r_desk_mix desk_reason desk_detail] : List va_W)) (gc := ([gX0 E a_desk r_desk_forest r_desk_mix desk_reason desk_detail] : List va_W)) ⟨hx, hb, hml, hown, hts⟩ (c0_latestReason l E a_desk r_desk_forest r_desk_mix  (desk_reason) (desk_detail) r5 hr6) (cwV 0 hts (ws_v q919 q920 q921 q21 q922) rfl rfl rfl hdV_X0_latestReason (by rw [hR]; exact ⟨Nat.le_of_ble_eq_true rfl, Nat.le_of_ble_eq_true rfl⟩)) hK hN hP hD [1] rfl (by decide) 0 0 rfl rfl rfl rfl hl.1 rfl (Nat.le_of_ble_eq_true rfl) dX8_refusal_40 (by rw [hR]; exact ⟨Nat.le_of_ble_eq_true rfl, Nat.le_of_ble_eq_true rfl⟩) ?_
      refine W.eq (g2 := F0 m 43 ls [.int r5]) rfl ?_
      cases h
      exact px_eTi (by decide) (by decide) hA0 hQ hP hD hS hx hb hr hlocks dX8_refusal_43
    · rw [if_neg c4] at h
      refine lv_aload_n hx hb dX8_refusal_26 rfl (lv_at hl 0 rfl) ?_
      refine va_get (D := E.1) (ci := 8) (v := .ref (a_desk 0)) (C := RX8) (T := TX8) (N := 11) hx hb hts iX8 hown hK hP 0 rfl rfl 5 (by decide) (hts _ q219) (fun _ h9 => h9) rfl dX8_refusal_27 ?_
      obtain ⟨r7, hr8, h⟩ := ob h
      refine px_Vp (As := []) (rest := []) (gs := ([gX8 E a r_this_forest r_this_before r_this_saved v_isSaved r_this_history (a_desk 0) r_this_walk r_this_input r_this_orders r_this_written v_wrongPosition, gX0 E a_desk r_desk_forest r_desk_mix desk_reason desk_detail] : List va_W)) (gc := ([gX0 E a_desk r_desk_forest r_desk_mix desk_reason desk_detail] : List va_W)) ⟨hx, hb, hml, hown, hts⟩ (c0_latestDetail l E a_desk r_desk_forest r_desk_mix  (desk_reason) (desk_detail) r7 hr8) (cwV 0 hts (ws_v q924 q925 q926 q21 q927) rfl rfl rfl hdV_X0_latestDetail (by rw [hR]; exact ⟨Nat.le_of_ble_eq_true rfl, Nat.le_of_ble_eq_true rfl⟩)) hK hN hP hD [1] rfl (by decide) 0 0 rfl rfl rfl rfl hl.1 rfl (Nat.le_of_ble_eq_true rfl) dX8_refusal_30 (by rw [hR]; exact ⟨Nat.le_of_ble_eq_true rfl, Nat.le_of_ble_eq_true rfl⟩) ?_
      refine W.eq (g2 := F0 m 33 ls [.int r7]) rfl ?_
      refine lv_goto (tgt := 43) hx hb dX8_refusal_33 (by decide) ?_
      cases h
      exact px_eTi (by decide) (by decide) hA0 hQ hP hD hS hx hb hr hlocks dX8_refusal_43
  · rw [if_pos c3] at h
    cases h
    exact px_thr4SW (i := 32) (tx := "nothing was refused") hx hb hlt hown (hts _ q634) (hts _ q42) hX rfl (at_4_176 hts hX) ag_4_176 (by decide +kernel) hA0 hQ hP hD hS (hml.trans hl.1.symm) htb hlocks dX8_refusal_11 dX8_refusal_14 dX8_refusal_15 dX8_refusal_18 dX8_refusal_21 (by rw [hR]; exact Nat.le_of_ble_eq_true rfl) (by rw [hR]; exact Nat.le_of_ble_eq_true rfl) (by rw [hR]; exact Nat.le_of_ble_eq_true rfl) (by rw [hR]; exact Nat.le_of_ble_eq_true rfl) (by decide) (by decide) (by decide)
def f8_account (x1 : Int32) (φ_forest : Fo) (hist_count : Int32) (inp_length : Int32) : Option (Nat × Int32) := (if x1 = nI 0 then ((f1_commitCount (φ_forest)).bind fun r2 => (some (0, r2))) else (if x1 = nI 1 then ((f1_branchCount (φ_forest)).bind fun r5 => (some (0, r5))) else (if x1 = nI 2 then ((f1_countKind ((nI 0)) (φ_forest)).bind fun r8 => (some (0, r8))) else (if x1 = nI 3 then ((f1_countKind ((nI 1)) (φ_forest)).bind fun r11 => (some (0, r11))) else (if x1 = nI 4 then ((f1_countKind ((nI 2)) (φ_forest)).bind fun r14 => (some (0, r14))) else (if x1 = nI 5 then ((f1_countLost (φ_forest)).bind fun r17 => (some (0, r17))) else (if x1 = nI 6 then ((f1_bundleKind (φ_forest)).bind fun r20 => (some (0, r20))) else (if x1 = nI 7 then ((f1_bundledCount (φ_forest)).bind fun r23 => (some (0, r23))) else (if x1 = nI 8 then ((f1_sumOfTips (φ_forest)).bind fun r26 => (some (0, r26))) else (if x1 = nI 9 then ((f3_size (inp_length)).bind fun r29 => (some (0, r29))) else (if x1 = nI 10 then ((f2_size (hist_count)).bind fun r32 => (some (0, r32))) else (some (2, (nI 0))))))))))))))
set_option maxHeartbeats 4000000 in
set_option maxRecDepth 100000 in
theorem c8_account (l : Launch) (hlt : l.stackTraces = false) (E : PE) (X : PX) (a : Nat → Nat) (a_forest : Nat → Nat) (a_hist : Nat → Nat) (a_inp : Nat → Nat) (r_this_before : Nat) (r_this_saved : Nat) (r_this_desk : Nat) (r_this_walk : Nat) (r_this_orders : Nat) (r_this_written : Nat) (x1 : Int32) (v_isSaved : Int32) (v_wrongPosition : Int32) (φ_forest : Fo) (hist_rows : (Nat → Fo)) (hist_next : Int32) (hist_count : Int32) (inp_signs : AI) (inp_length : Int32) (k : Nat) (r : Int32) (h : f8_account x1 φ_forest hist_count inp_length = some (k, r)) : MT l yX8_account cX8_account 2 (some .int) { frames := 6, cells := 1, slots := 6, locals := 90 } E X [.ref (a 0), .int x1] ([gX8 E a (a_forest 0) r_this_before r_this_saved v_isSaved (a_hist 0) r_this_desk r_this_walk (a_inp 0) r_this_orders r_this_written v_wrongPosition, gX1 E a_forest φ_forest, gX2 E a_hist hist_rows hist_next hist_count, gX3 E a_inp inp_signs inp_length] : List va_W).flatten 1 6 k (some (.int r)) ([gX8 E a (a_forest 0) r_this_before r_this_saved v_isSaved (a_hist 0) r_this_desk r_this_walk (a_inp 0) r_this_orders r_this_written v_wrongPosition, gX1 E a_forest φ_forest, gX2 E a_hist hist_rows hist_next hist_count, gX3 E a_inp inp_signs inp_length] : List va_W).flatten := by
  refine px_startT (by decide +kernel) (Nat.le_of_ble_eq_true rfl) ?_
  intro p e s m args below meth c R Q A ls hC hX hA0 hQ htb
  obtain ⟨hx, hb, hr, hml, hts, hown, hlocks, hR, hK, hN, hP, hD, hA, hl, hin⟩ := hC
  have hl : lv_has ls 2 [(0, .ref (a 0)), (1, .int x1)] := hl
  suffices key : ∀ (H : Heap) (locs : List Loc), va_P E.1 vwCl ([gX8 E a (a_forest 0) r_this_before r_this_saved v_isSaved (a_hist 0) r_this_desk r_this_walk (a_inp 0) r_this_orders r_this_written v_wrongPosition, gX1 E a_forest φ_forest, gX2 E a_hist hist_rows hist_next hist_count, gX3 E a_inp inp_signs inp_length] : List va_W).flatten H → va_S A s.heap H locs → W p l e R s m args below meth c H locs 0 0 Q (F0 m 0 ls []) from key s.heap [] hP va_S.rf
  unfold f8_account at h
  intro H locs hP hS
  refine lv_iload_n hx hb dX8_account_0 rfl (lv_at hl 1 rfl) ?_
  by_cases c1 : x1 = nI 0
  · rw [if_pos c1] at h
    refine lv_tableIn (off := 59) (tgt := 60) hx hb dX8_account_1 (by rw [c1]; decide) (by rw [c1]; decide) (by rw [c1]; rfl) (by decide) ?_
    refine lv_aload_n hx hb dX8_account_60 rfl (lv_at hl 0 rfl) ?_
    refine va_get (D := E.1) (ci := 8) (v := .ref (a_forest 0)) (C := RX8) (T := TX8) (N := 11) hx hb hts iX8 hown hK hP 0 rfl rfl 0 (by decide) (hts _ q214) (fun _ h9 => h9) rfl dX8_account_61 ?_
    obtain ⟨r2, hr3, h⟩ := ob h
    refine px_Vp (As := []) (rest := []) (gs := ([gX8 E a (a_forest 0) r_this_before r_this_saved v_isSaved (a_hist 0) r_this_desk r_this_walk (a_inp 0) r_this_orders r_this_written v_wrongPosition, gX1 E a_forest φ_forest, gX2 E a_hist hist_rows hist_next hist_count, gX3 E a_inp inp_signs inp_length] : List va_W)) (gc := ([gX1 E a_forest φ_forest] : List va_W)) ⟨hx, hb, hml, hown, hts⟩ (c1_commitCount l E a_forest   (φ_forest) r2 hr3) (cwV 0 hts (ws_v q263 q264 q265 q19 q266) rfl rfl rfl hdV_X1_commitCount (by rw [hR]; exact ⟨Nat.le_of_ble_eq_true rfl, Nat.le_of_ble_eq_true rfl⟩)) hK hN hP hD [1] rfl (by decide) 0 1 rfl rfl rfl rfl hl.1 rfl (Nat.le_of_ble_eq_true rfl) dX8_account_64 (by rw [hR]; exact ⟨Nat.le_of_ble_eq_true rfl, Nat.le_of_ble_eq_true rfl⟩) ?_
    refine W.eq (g2 := F0 m 67 ls [.int r2]) rfl ?_
    cases h
    exact px_eTi (by decide) (by decide) hA0 hQ hP hD hS hx hb hr hlocks dX8_account_67
  · rw [if_neg c1] at h
    by_cases c4 : x1 = nI 1
    · rw [if_pos c4] at h
      refine lv_tableIn (off := 67) (tgt := 68) hx hb dX8_account_1 (by rw [c4]; decide) (by rw [c4]; decide) (by rw [c4]; rfl) (by decide) ?_
      refine lv_aload_n hx hb dX8_account_68 rfl (lv_at hl 0 rfl) ?_
      refine va_get (D := E.1) (ci := 8) (v := .ref (a_forest 0)) (C := RX8) (T := TX8) (N := 11) hx hb hts iX8 hown hK hP 0 rfl rfl 0 (by decide) (hts _ q214) (fun _ h9 => h9) rfl dX8_account_69 ?_
      obtain ⟨r5, hr6, h⟩ := ob h
      refine px_Vp (As := []) (rest := []) (gs := ([gX8 E a (a_forest 0) r_this_before r_this_saved v_isSaved (a_hist 0) r_this_desk r_this_walk (a_inp 0) r_this_orders r_this_written v_wrongPosition, gX1 E a_forest φ_forest, gX2 E a_hist hist_rows hist_next hist_count, gX3 E a_inp inp_signs inp_length] : List va_W)) (gc := ([gX1 E a_forest φ_forest] : List va_W)) ⟨hx, hb, hml, hown, hts⟩ (c1_branchCount l E a_forest   (φ_forest) r5 hr6) (cwV 0 hts (ws_v q855 q468 q469 q19 q470) rfl rfl rfl hdV_X1_branchCount (by rw [hR]; exact ⟨Nat.le_of_ble_eq_true rfl, Nat.le_of_ble_eq_true rfl⟩)) hK hN hP hD [1] rfl (by decide) 0 1 rfl rfl rfl rfl hl.1 rfl (Nat.le_of_ble_eq_true rfl) dX8_account_72 (by rw [hR]; exact ⟨Nat.le_of_ble_eq_true rfl, Nat.le_of_ble_eq_true rfl⟩) ?_
      refine W.eq (g2 := F0 m 75 ls [.int r5]) rfl ?_
      cases h
      exact px_eTi (by decide) (by decide) hA0 hQ hP hD hS hx hb hr hlocks dX8_account_75
    · rw [if_neg c4] at h
      by_cases c7 : x1 = nI 2
      · rw [if_pos c7] at h
        refine lv_tableIn (off := 75) (tgt := 76) hx hb dX8_account_1 (by rw [c7]; decide) (by rw [c7]; decide) (by rw [c7]; rfl) (by decide) ?_
        refine lv_aload_n hx hb dX8_account_76 rfl (lv_at hl 0 rfl) ?_
        refine va_get (D := E.1) (ci := 8) (v := .ref (a_forest 0)) (C := RX8) (T := TX8) (N := 11) hx hb hts iX8 hown hK hP 0 rfl rfl 0 (by decide) (hts _ q214) (fun _ h9 => h9) rfl dX8_account_77 ?_
        refine lv_iconst (v := (nI 0)) hx hb dX8_account_80 (by decide) ?_
        obtain ⟨r8, hr9, h⟩ := ob h
        refine px_Vp (As := [.int (nI 0)]) (rest := []) (gs := ([gX8 E a (a_forest 0) r_this_before r_this_saved v_isSaved (a_hist 0) r_this_desk r_this_walk (a_inp 0) r_this_orders r_this_written v_wrongPosition, gX1 E a_forest φ_forest, gX2 E a_hist hist_rows hist_next hist_count, gX3 E a_inp inp_signs inp_length] : List va_W)) (gc := ([gX1 E a_forest φ_forest] : List va_W)) ⟨hx, hb, hml, hown, hts⟩ (c1_countKind l E a_forest  ((nI 0)) (φ_forest) r8 hr9) (cwV 1 hts (ws_v q856 q857 q858 q19 q859) rfl rfl rfl hdV_X1_countKind (by rw [hR]; exact ⟨Nat.le_of_ble_eq_true rfl, Nat.le_of_ble_eq_true rfl⟩)) hK hN hP hD [1] rfl (by decide) 0 1 rfl rfl rfl rfl hl.1 rfl (Nat.le_of_ble_eq_true rfl) dX8_account_81 (by rw [hR]; exact ⟨Nat.le_of_ble_eq_true rfl, Nat.le_of_ble_eq_true rfl⟩) ?_
        refine W.eq (g2 := F0 m 84 ls [.int r8]) rfl ?_
        cases h
        exact px_eTi (by decide) (by decide) hA0 hQ hP hD hS hx hb hr hlocks dX8_account_84
      · rw [if_neg c7] at h
        by_cases c10 : x1 = nI 3
        · rw [if_pos c10] at h
          refine lv_tableIn (off := 84) (tgt := 85) hx hb dX8_account_1 (by rw [c10]; decide) (by rw [c10]; decide) (by rw [c10]; rfl) (by decide) ?_
          refine lv_aload_n hx hb dX8_account_85 rfl (lv_at hl 0 rfl) ?_
          refine va_get (D := E.1) (ci := 8) (v := .ref (a_forest 0)) (C := RX8) (T := TX8) (N := 11) hx hb hts iX8 hown hK hP 0 rfl rfl 0 (by decide) (hts _ q214) (fun _ h9 => h9) rfl dX8_account_86 ?_
          refine lv_iconst (v := (nI 1)) hx hb dX8_account_89 (by decide) ?_
          obtain ⟨r11, hr12, h⟩ := ob h
          refine px_Vp (As := [.int (nI 1)]) (rest := []) (gs := ([gX8 E a (a_forest 0) r_this_before r_this_saved v_isSaved (a_hist 0) r_this_desk r_this_walk (a_inp 0) r_this_orders r_this_written v_wrongPosition, gX1 E a_forest φ_forest, gX2 E a_hist hist_rows hist_next hist_count, gX3 E a_inp inp_signs inp_length] : List va_W)) (gc := ([gX1 E a_forest φ_forest] : List va_W)) ⟨hx, hb, hml, hown, hts⟩ (c1_countKind l E a_forest  ((nI 1)) (φ_forest) r11 hr12) (cwV 1 hts (ws_v q856 q857 q858 q19 q859) rfl rfl rfl hdV_X1_countKind (by rw [hR]; exact ⟨Nat.le_of_ble_eq_true rfl, Nat.le_of_ble_eq_true rfl⟩)) hK hN hP hD [1] rfl (by decide) 0 1 rfl rfl rfl rfl hl.1 rfl (Nat.le_of_ble_eq_true rfl) dX8_account_90 (by rw [hR]; exact ⟨Nat.le_of_ble_eq_true rfl, Nat.le_of_ble_eq_true rfl⟩) ?_
          refine W.eq (g2 := F0 m 93 ls [.int r11]) rfl ?_
          cases h
          exact px_eTi (by decide) (by decide) hA0 hQ hP hD hS hx hb hr hlocks dX8_account_93
        · rw [if_neg c10] at h
          by_cases c13 : x1 = nI 4
          · rw [if_pos c13] at h
            refine lv_tableIn (off := 93) (tgt := 94) hx hb dX8_account_1 (by rw [c13]; decide) (by rw [c13]; decide) (by rw [c13]; rfl) (by decide) ?_
            refine lv_aload_n hx hb dX8_account_94 rfl (lv_at hl 0 rfl) ?_
            refine va_get (D := E.1) (ci := 8) (v := .ref (a_forest 0)) (C := RX8) (T := TX8) (N := 11) hx hb hts iX8 hown hK hP 0 rfl rfl 0 (by decide) (hts _ q214) (fun _ h9 => h9) rfl dX8_account_95 ?_
            refine lv_iconst (v := (nI 2)) hx hb dX8_account_98 (by decide) ?_
            obtain ⟨r14, hr15, h⟩ := ob h
            refine px_Vp (As := [.int (nI 2)]) (rest := []) (gs := ([gX8 E a (a_forest 0) r_this_before r_this_saved v_isSaved (a_hist 0) r_this_desk r_this_walk (a_inp 0) r_this_orders r_this_written v_wrongPosition, gX1 E a_forest φ_forest, gX2 E a_hist hist_rows hist_next hist_count, gX3 E a_inp inp_signs inp_length] : List va_W)) (gc := ([gX1 E a_forest φ_forest] : List va_W)) ⟨hx, hb, hml, hown, hts⟩ (c1_countKind l E a_forest  ((nI 2)) (φ_forest) r14 hr15) (cwV 1 hts (ws_v q856 q857 q858 q19 q859) rfl rfl rfl hdV_X1_countKind (by rw [hR]; exact ⟨Nat.le_of_ble_eq_true rfl, Nat.le_of_ble_eq_true rfl⟩)) hK hN hP hD [1] rfl (by decide) 0 1 rfl rfl rfl rfl hl.1 rfl (Nat.le_of_ble_eq_true rfl) dX8_account_99 (by rw [hR]; exact ⟨Nat.le_of_ble_eq_true rfl, Nat.le_of_ble_eq_true rfl⟩) ?_
            refine W.eq (g2 := F0 m 102 ls [.int r14]) rfl ?_
            cases h
            exact px_eTi (by decide) (by decide) hA0 hQ hP hD hS hx hb hr hlocks dX8_account_102
          · rw [if_neg c13] at h
            by_cases c16 : x1 = nI 5
            · rw [if_pos c16] at h
              refine lv_tableIn (off := 102) (tgt := 103) hx hb dX8_account_1 (by rw [c16]; decide) (by rw [c16]; decide) (by rw [c16]; rfl) (by decide) ?_
              refine lv_aload_n hx hb dX8_account_103 rfl (lv_at hl 0 rfl) ?_
              refine va_get (D := E.1) (ci := 8) (v := .ref (a_forest 0)) (C := RX8) (T := TX8) (N := 11) hx hb hts iX8 hown hK hP 0 rfl rfl 0 (by decide) (hts _ q214) (fun _ h9 => h9) rfl dX8_account_104 ?_
              obtain ⟨r17, hr18, h⟩ := ob h
              refine px_Vp (As := []) (rest := []) (gs := ([gX8 E a (a_forest 0) r_this_before r_this_saved v_isSaved (a_hist 0) r_this_desk r_this_walk (a_inp 0) r_this_orders r_this_written v_wrongPosition, gX1 E a_forest φ_forest, gX2 E a_hist hist_rows hist_next hist_count, gX3 E a_inp inp_signs inp_length] : List va_W)) (gc := ([gX1 E a_forest φ_forest] : List va_W)) ⟨hx, hb, hml, hown, hts⟩ (c1_countLost l E a_forest   (φ_forest) r17 hr18) (cwV 0 hts (ws_v q861 q862 q863 q19 q864) rfl rfl rfl hdV_X1_countLost (by rw [hR]; exact ⟨Nat.le_of_ble_eq_true rfl, Nat.le_of_ble_eq_true rfl⟩)) hK hN hP hD [1] rfl (by decide) 0 1 rfl rfl rfl rfl hl.1 rfl (Nat.le_of_ble_eq_true rfl) dX8_account_107 (by rw [hR]; exact ⟨Nat.le_of_ble_eq_true rfl, Nat.le_of_ble_eq_true rfl⟩) ?_
              refine W.eq (g2 := F0 m 110 ls [.int r17]) rfl ?_
              cases h
              exact px_eTi (by decide) (by decide) hA0 hQ hP hD hS hx hb hr hlocks dX8_account_110
            · rw [if_neg c16] at h
              by_cases c19 : x1 = nI 6
              · rw [if_pos c19] at h
                refine lv_tableIn (off := 110) (tgt := 111) hx hb dX8_account_1 (by rw [c19]; decide) (by rw [c19]; decide) (by rw [c19]; rfl) (by decide) ?_
                refine lv_aload_n hx hb dX8_account_111 rfl (lv_at hl 0 rfl) ?_
                refine va_get (D := E.1) (ci := 8) (v := .ref (a_forest 0)) (C := RX8) (T := TX8) (N := 11) hx hb hts iX8 hown hK hP 0 rfl rfl 0 (by decide) (hts _ q214) (fun _ h9 => h9) rfl dX8_account_112 ?_
                obtain ⟨r20, hr21, h⟩ := ob h
                refine px_Vp (As := []) (rest := []) (gs := ([gX8 E a (a_forest 0) r_this_before r_this_saved v_isSaved (a_hist 0) r_this_desk r_this_walk (a_inp 0) r_this_orders r_this_written v_wrongPosition, gX1 E a_forest φ_forest, gX2 E a_hist hist_rows hist_next hist_count, gX3 E a_inp inp_signs inp_length] : List va_W)) (gc := ([gX1 E a_forest φ_forest] : List va_W)) ⟨hx, hb, hml, hown, hts⟩ (c1_bundleKind l E a_forest   (φ_forest) r20 hr21) (cwV 0 hts (ws_v q867 q868 q869 q19 q870) rfl rfl rfl hdV_X1_bundleKind (by rw [hR]; exact ⟨Nat.le_of_ble_eq_true rfl, Nat.le_of_ble_eq_true rfl⟩)) hK hN hP hD [1] rfl (by decide) 0 1 rfl rfl rfl rfl hl.1 rfl (Nat.le_of_ble_eq_true rfl) dX8_account_115 (by rw [hR]; exact ⟨Nat.le_of_ble_eq_true rfl, Nat.le_of_ble_eq_true rfl⟩) ?_
                refine W.eq (g2 := F0 m 118 ls [.int r20]) rfl ?_
                cases h
                exact px_eTi (by decide) (by decide) hA0 hQ hP hD hS hx hb hr hlocks dX8_account_118
              · rw [if_neg c19] at h
                by_cases c22 : x1 = nI 7
                · rw [if_pos c22] at h
                  refine lv_tableIn (off := 118) (tgt := 119) hx hb dX8_account_1 (by rw [c22]; decide) (by rw [c22]; decide) (by rw [c22]; rfl) (by decide) ?_
                  refine lv_aload_n hx hb dX8_account_119 rfl (lv_at hl 0 rfl) ?_
                  refine va_get (D := E.1) (ci := 8) (v := .ref (a_forest 0)) (C := RX8) (T := TX8) (N := 11) hx hb hts iX8 hown hK hP 0 rfl rfl 0 (by decide) (hts _ q214) (fun _ h9 => h9) rfl dX8_account_120 ?_
                  obtain ⟨r23, hr24, h⟩ := ob h
                  refine px_Vp (As := []) (rest := []) (gs := ([gX8 E a (a_forest 0) r_this_before r_this_saved v_isSaved (a_hist 0) r_this_desk r_this_walk (a_inp 0) r_this_orders r_this_written v_wrongPosition, gX1 E a_forest φ_forest, gX2 E a_hist hist_rows hist_next hist_count, gX3 E a_inp inp_signs inp_length] : List va_W)) (gc := ([gX1 E a_forest φ_forest] : List va_W)) ⟨hx, hb, hml, hown, hts⟩ (c1_bundledCount l E a_forest   (φ_forest) r23 hr24) (cwV 0 hts (ws_v q871 q692 q693 q19 q694) rfl rfl rfl hdV_X1_bundledCount (by rw [hR]; exact ⟨Nat.le_of_ble_eq_true rfl, Nat.le_of_ble_eq_true rfl⟩)) hK hN hP hD [1] rfl (by decide) 0 1 rfl rfl rfl rfl hl.1 rfl (Nat.le_of_ble_eq_true rfl) dX8_account_123 (by rw [hR]; exact ⟨Nat.le_of_ble_eq_true rfl, Nat.le_of_ble_eq_true rfl⟩) ?_
                  refine W.eq (g2 := F0 m 126 ls [.int r23]) rfl ?_
                  cases h
                  exact px_eTi (by decide) (by decide) hA0 hQ hP hD hS hx hb hr hlocks dX8_account_126
                · rw [if_neg c22] at h
                  by_cases c25 : x1 = nI 8
                  · rw [if_pos c25] at h
                    refine lv_tableIn (off := 126) (tgt := 127) hx hb dX8_account_1 (by rw [c25]; decide) (by rw [c25]; decide) (by rw [c25]; rfl) (by decide) ?_
                    refine lv_aload_n hx hb dX8_account_127 rfl (lv_at hl 0 rfl) ?_
                    refine va_get (D := E.1) (ci := 8) (v := .ref (a_forest 0)) (C := RX8) (T := TX8) (N := 11) hx hb hts iX8 hown hK hP 0 rfl rfl 0 (by decide) (hts _ q214) (fun _ h9 => h9) rfl dX8_account_128 ?_
                    obtain ⟨r26, hr27, h⟩ := ob h
                    refine px_Vp (As := []) (rest := []) (gs := ([gX8 E a (a_forest 0) r_this_before r_this_saved v_isSaved (a_hist 0) r_this_desk r_this_walk (a_inp 0) r_this_orders r_this_written v_wrongPosition, gX1 E a_forest φ_forest, gX2 E a_hist hist_rows hist_next hist_count, gX3 E a_inp inp_signs inp_length] : List va_W)) (gc := ([gX1 E a_forest φ_forest] : List va_W)) ⟨hx, hb, hml, hown, hts⟩ (c1_sumOfTips l E a_forest   (φ_forest) r26 hr27) (cwV 0 hts (ws_v q872 q873 q874 q19 q875) rfl rfl rfl hdV_X1_sumOfTips (by rw [hR]; exact ⟨Nat.le_of_ble_eq_true rfl, Nat.le_of_ble_eq_true rfl⟩)) hK hN hP hD [1] rfl (by decide) 0 1 rfl rfl rfl rfl hl.1 rfl (Nat.le_of_ble_eq_true rfl) dX8_account_131 (by rw [hR]; exact ⟨Nat.le_of_ble_eq_true rfl, Nat.le_of_ble_eq_true rfl⟩) ?_
                    refine W.eq (g2 := F0 m 134 ls [.int r26]) rfl ?_
                    cases h
                    exact px_eTi (by decide) (by decide) hA0 hQ hP hD hS hx hb hr hlocks dX8_account_134
                  · rw [if_neg c25] at h
                    by_cases c28 : x1 = nI 9
                    · rw [if_pos c28] at h
                      refine lv_tableIn (off := 134) (tgt := 135) hx hb dX8_account_1 (by rw [c28]; decide) (by rw [c28]; decide) (by rw [c28]; rfl) (by decide) ?_
                      refine lv_aload_n hx hb dX8_account_135 rfl (lv_at hl 0 rfl) ?_
                      refine va_get (D := E.1) (ci := 8) (v := .ref (a_inp 0)) (C := RX8) (T := TX8) (N := 11) hx hb hts iX8 hown hK hP 0 rfl rfl 7 (by decide) (hts _ q221) (fun _ h9 => h9) rfl dX8_account_136 ?_
                      obtain ⟨r29, hr30, h⟩ := ob h
                      refine px_Vp (As := []) (rest := []) (gs := ([gX8 E a (a_forest 0) r_this_before r_this_saved v_isSaved (a_hist 0) r_this_desk r_this_walk (a_inp 0) r_this_orders r_this_written v_wrongPosition, gX1 E a_forest φ_forest, gX2 E a_hist hist_rows hist_next hist_count, gX3 E a_inp inp_signs inp_length] : List va_W)) (gc := ([gX3 E a_inp inp_signs inp_length] : List va_W)) ⟨hx, hb, hml, hown, hts⟩ (c3_size l E a_inp   (inp_signs) (inp_length) r29 hr30) (cwV 0 hts (ws_v q876 q877 q878 q24 q879) rfl rfl rfl hdV_X3_size (by rw [hR]; exact ⟨Nat.le_of_ble_eq_true rfl, Nat.le_of_ble_eq_true rfl⟩)) hK hN hP hD [3] rfl (by decide) 0 3 rfl rfl rfl rfl hl.1 rfl (Nat.le_of_ble_eq_true rfl) dX8_account_139 (by rw [hR]; exact ⟨Nat.le_of_ble_eq_true rfl, Nat.le_of_ble_eq_true rfl⟩) ?_
                      refine W.eq (g2 := F0 m 142 ls [.int r29]) rfl ?_
                      cases h
                      exact px_eTi (by decide) (by decide) hA0 hQ hP hD hS hx hb hr hlocks dX8_account_142
                    · rw [if_neg c28] at h
                      by_cases c31 : x1 = nI 10
                      · rw [if_pos c31] at h
                        refine lv_tableIn (off := 142) (tgt := 143) hx hb dX8_account_1 (by rw [c31]; decide) (by rw [c31]; decide) (by rw [c31]; rfl) (by decide) ?_
                        refine lv_aload_n hx hb dX8_account_143 rfl (lv_at hl 0 rfl) ?_
                        refine va_get (D := E.1) (ci := 8) (v := .ref (a_hist 0)) (C := RX8) (T := TX8) (N := 11) hx hb hts iX8 hown hK hP 0 rfl rfl 4 (by decide) (hts _ q218) (fun _ h9 => h9) rfl dX8_account_144 ?_
                        obtain ⟨r32, hr33, h⟩ := ob h
                        refine px_Vp (As := []) (rest := []) (gs := ([gX8 E a (a_forest 0) r_this_before r_this_saved v_isSaved (a_hist 0) r_this_desk r_this_walk (a_inp 0) r_this_orders r_this_written v_wrongPosition, gX1 E a_forest φ_forest, gX2 E a_hist hist_rows hist_next hist_count, gX3 E a_inp inp_signs inp_length] : List va_W)) (gc := ([gX2 E a_hist hist_rows hist_next hist_count] : List va_W)) ⟨hx, hb, hml, hown, hts⟩ (c2_size l E a_hist   (hist_rows) (hist_next) (hist_count) r32 hr33) (cwV 0 hts (ws_v q880 q881 q882 q20 q883) rfl rfl rfl hdV_X2_size (by rw [hR]; exact ⟨Nat.le_of_ble_eq_true rfl, Nat.le_of_ble_eq_true rfl⟩)) hK hN hP hD [2] rfl (by decide) 0 2 rfl rfl rfl rfl hl.1 rfl (Nat.le_of_ble_eq_true rfl) dX8_account_147 (by rw [hR]; exact ⟨Nat.le_of_ble_eq_true rfl, Nat.le_of_ble_eq_true rfl⟩) ?_
                        refine W.eq (g2 := F0 m 150 ls [.int r32]) rfl ?_
                        cases h
                        exact px_eTi (by decide) (by decide) hA0 hQ hP hD hS hx hb hr hlocks dX8_account_150
                      · rw [if_neg c31] at h
                        refine px_tdef hx hb dX8_account_1 (fun w1 w2 => ?_) (tgt := 151) (by decide) ?_
                        · obtain w | w | w | w | w | w | w | w | w | w | w : (x1).toInt = 0 ∨ (x1).toInt = 1 ∨ (x1).toInt = 2 ∨ (x1).toInt = 3 ∨ (x1).toInt = 4 ∨ (x1).toInt = 5 ∨ (x1).toInt = 6 ∨ (x1).toInt = 7 ∨ (x1).toInt = 8 ∨ (x1).toInt = 9 ∨ (x1).toInt = 10 := by omega
                          · exact absurd (Int32.toInt_inj.mp (w.trans (show (0 : Int) = (nI 0).toInt from by decide))) c1
                          · exact absurd (Int32.toInt_inj.mp (w.trans (show (1 : Int) = (nI 1).toInt from by decide))) c4
                          · exact absurd (Int32.toInt_inj.mp (w.trans (show (2 : Int) = (nI 2).toInt from by decide))) c7
                          · exact absurd (Int32.toInt_inj.mp (w.trans (show (3 : Int) = (nI 3).toInt from by decide))) c10
                          · exact absurd (Int32.toInt_inj.mp (w.trans (show (4 : Int) = (nI 4).toInt from by decide))) c13
                          · exact absurd (Int32.toInt_inj.mp (w.trans (show (5 : Int) = (nI 5).toInt from by decide))) c16
                          · exact absurd (Int32.toInt_inj.mp (w.trans (show (6 : Int) = (nI 6).toInt from by decide))) c19
                          · exact absurd (Int32.toInt_inj.mp (w.trans (show (7 : Int) = (nI 7).toInt from by decide))) c22
                          · exact absurd (Int32.toInt_inj.mp (w.trans (show (8 : Int) = (nI 8).toInt from by decide))) c25
                          · exact absurd (Int32.toInt_inj.mp (w.trans (show (9 : Int) = (nI 9).toInt from by decide))) c28
                          · exact absurd (Int32.toInt_inj.mp (w.trans (show (10 : Int) = (nI 10).toInt from by decide))) c31
                        · cases h
                          exact px_thrSW (k := 2) (i := 29) (tx := "there is no such account") hx hb hlt hown (hts _ q424) (hts _ q34) hX rfl (at_2_135 hts hX) ag_2_135 (by decide +kernel) hA0 hQ hP hD hS (hml.trans hl.1.symm) htb hlocks dX8_account_151 dX8_account_154 dX8_account_155 dX8_account_158 dX8_account_161 (by rw [hR]; exact Nat.le_of_ble_eq_true rfl) (by rw [hR]; exact Nat.le_of_ble_eq_true rfl) (by rw [hR]; exact Nat.le_of_ble_eq_true rfl) (by rw [hR]; exact Nat.le_of_ble_eq_true rfl) (by decide) (by decide) (by decide)
def f8_isWell_L2 (φ_forest : Fo) : Nat → Int32 → Option (Bool)
  | 0, _ => none
  | n + 1, x1 => ((f1_commitCount (φ_forest)).bind fun r1 => (if r1 ≤ x1 then (some true) else ((f1_isBornWell (x1) (φ_forest)).bind fun r4 => (if (b2i r4) = 0 then (some false) else ((f1_areBasesSame (x1) (φ_forest)).bind fun r7 => (if (b2i r7) = 0 then (some false) else (f8_isWell_L2 φ_forest n ((x1 + nI 1)))))))))
def f8_isWell  (φ_forest : Fo) : Option (Bool) := (f8_isWell_L2 φ_forest fuel ((nI 0)))
set_option maxHeartbeats 4000000 in
set_option maxRecDepth 100000 in
theorem c8_isWell (l : Launch) (E : PE) (a : Nat → Nat) (a_forest : Nat → Nat) (r_this_before : Nat) (r_this_saved : Nat) (r_this_history : Nat) (r_this_desk : Nat) (r_this_walk : Nat) (r_this_input : Nat) (r_this_orders : Nat) (r_this_written : Nat)  (v_isSaved : Int32) (v_wrongPosition : Int32) (φ_forest : Fo) (r : Bool) (h : f8_isWell φ_forest = some r) : MP l yX8_isWell cX8_isWell 2 (some .boolean) { frames := 3, cells := 0, slots := 0, locals := 72 } E [.ref (a 0)] ([gX8 E a (a_forest 0) r_this_before r_this_saved v_isSaved r_this_history r_this_desk r_this_walk r_this_input r_this_orders r_this_written v_wrongPosition, gX1 E a_forest φ_forest] : List va_W).flatten (some (.int (b2i r))) := by
  refine px_startP (by decide +kernel) (Nat.le_of_ble_eq_true rfl) ?_
  intro p e s m args below meth c R Q A ls hC hQ
  obtain ⟨hx, hb, hr, hml, hts, hown, hlocks, hR, hK, hN, hP, hD, hA, hl, hin⟩ := hC
  have hl : lv_has ls 2 [(0, .ref (a 0))] := hl
  unfold f8_isWell at h
  have L2 : ∀ (n : Nat) (x1 : Int32) (ls : Array Slot), lv_has ls 2 [(0, .ref (a 0)), (1, .int x1)] → f8_isWell_L2 φ_forest n x1 = some r → W p l e R s m args below meth c s.heap [] 0 0 Q (F0 m 2 ls []) := by
    intro n
    induction n with
    | zero =>
      intro x1 ls hl h
      unfold f8_isWell_L2 at h; cases h
    | succ n ih =>
      intro x1 ls hl h
      unfold f8_isWell_L2 at h
      refine lv_iload_n hx hb dX8_isWell_2 rfl (lv_at hl 1 rfl) ?_
      refine lv_aload_n hx hb dX8_isWell_3 rfl (lv_at hl 0 rfl) ?_
      refine va_get (D := E.1) (ci := 8) (v := .ref (a_forest 0)) (C := RX8) (T := TX8) (N := 11) hx hb hts iX8 hown hK hP 0 rfl rfl 0 (by decide) (hts _ q214) (fun _ h9 => h9) rfl dX8_isWell_4 ?_
      obtain ⟨r1, hr2, h⟩ := ob h
      refine px_Vp (As := []) (rest := [.int x1]) (gs := ([gX8 E a (a_forest 0) r_this_before r_this_saved v_isSaved r_this_history r_this_desk r_this_walk r_this_input r_this_orders r_this_written v_wrongPosition, gX1 E a_forest φ_forest] : List va_W)) (gc := ([gX1 E a_forest φ_forest] : List va_W)) ⟨hx, hb, hml, hown, hts⟩ (c1_commitCount l E a_forest   (φ_forest) r1 hr2) (cwV 0 hts (ws_v q263 q264 q265 q19 q266) rfl rfl rfl hdV_X1_commitCount (by rw [hR]; exact ⟨Nat.le_of_ble_eq_true rfl, Nat.le_of_ble_eq_true rfl⟩)) hK hN hP hD [1] rfl (by decide) 0 1 rfl rfl rfl rfl hl.1 rfl (Nat.le_of_ble_eq_true rfl) dX8_isWell_7 (by rw [hR]; exact ⟨Nat.le_of_ble_eq_true rfl, Nat.le_of_ble_eq_true rfl⟩) ?_
      refine W.eq (g2 := F0 m 10 ls [.int r1, .int x1]) rfl ?_
      refine lv_icmp_ge (tgt := 43) hx hb dX8_isWell_10 (by decide) (fun c3 => ?_) (fun c3 => ?_)
      · rw [if_pos c3] at h
        refine lv_iconst (v := (nI 1)) hx hb dX8_isWell_43 (by decide) ?_
        cases h
        refine W.eq (g2 := F0 m 44 ls [.int (b2i true)]) rfl ?_
        exact px_ePz (b2i_n _) hQ hx hb hr hlocks dX8_isWell_44
      · rw [if_neg c3] at h
        refine lv_aload_n hx hb dX8_isWell_13 rfl (lv_at hl 0 rfl) ?_
        refine va_get (D := E.1) (ci := 8) (v := .ref (a_forest 0)) (C := RX8) (T := TX8) (N := 11) hx hb hts iX8 hown hK hP 0 rfl rfl 0 (by decide) (hts _ q214) (fun _ h9 => h9) rfl dX8_isWell_14 ?_
        refine lv_iload_n hx hb dX8_isWell_17 rfl (lv_at hl 1 rfl) ?_
        obtain ⟨r4, hr5, h⟩ := ob h
        refine px_Vp (As := [.int x1]) (rest := []) (gs := ([gX8 E a (a_forest 0) r_this_before r_this_saved v_isSaved r_this_history r_this_desk r_this_walk r_this_input r_this_orders r_this_written v_wrongPosition, gX1 E a_forest φ_forest] : List va_W)) (gc := ([gX1 E a_forest φ_forest] : List va_W)) ⟨hx, hb, hml, hown, hts⟩ (c1_isBornWell l E a_forest  (x1) (φ_forest) r4 hr5) (cwV 1 hts (ws_v q983 q984 q985 q19 q986) rfl rfl rfl hdV_X1_isBornWell (by rw [hR]; exact ⟨Nat.le_of_ble_eq_true rfl, Nat.le_of_ble_eq_true rfl⟩)) hK hN hP hD [1] rfl (by decide) 0 1 rfl rfl rfl rfl hl.1 rfl (Nat.le_of_ble_eq_true rfl) dX8_isWell_18 (by rw [hR]; exact ⟨Nat.le_of_ble_eq_true rfl, Nat.le_of_ble_eq_true rfl⟩) ?_
        refine W.eq (g2 := F0 m 21 ls [.int (b2i r4)]) rfl ?_
        refine lv_if_eq (tgt := 35) hx hb dX8_isWell_21 (by decide) (fun c6 => ?_) (fun c6 => ?_)
        · rw [if_pos c6] at h
          refine lv_iconst (v := (nI 0)) hx hb dX8_isWell_35 (by decide) ?_
          cases h
          refine W.eq (g2 := F0 m 36 ls [.int (b2i false)]) rfl ?_
          exact px_ePz (b2i_n _) hQ hx hb hr hlocks dX8_isWell_36
        · rw [if_neg c6] at h
          refine lv_aload_n hx hb dX8_isWell_24 rfl (lv_at hl 0 rfl) ?_
          refine va_get (D := E.1) (ci := 8) (v := .ref (a_forest 0)) (C := RX8) (T := TX8) (N := 11) hx hb hts iX8 hown hK hP 0 rfl rfl 0 (by decide) (hts _ q214) (fun _ h9 => h9) rfl dX8_isWell_25 ?_
          refine lv_iload_n hx hb dX8_isWell_28 rfl (lv_at hl 1 rfl) ?_
          obtain ⟨r7, hr8, h⟩ := ob h
          refine px_Vp (As := [.int x1]) (rest := []) (gs := ([gX8 E a (a_forest 0) r_this_before r_this_saved v_isSaved r_this_history r_this_desk r_this_walk r_this_input r_this_orders r_this_written v_wrongPosition, gX1 E a_forest φ_forest] : List va_W)) (gc := ([gX1 E a_forest φ_forest] : List va_W)) ⟨hx, hb, hml, hown, hts⟩ (c1_areBasesSame l E a_forest  (x1) (φ_forest) r7 hr8) (cwV 1 hts (ws_v q989 q990 q991 q19 q992) rfl rfl rfl hdV_X1_areBasesSame (by rw [hR]; exact ⟨Nat.le_of_ble_eq_true rfl, Nat.le_of_ble_eq_true rfl⟩)) hK hN hP hD [1] rfl (by decide) 0 1 rfl rfl rfl rfl hl.1 rfl (Nat.le_of_ble_eq_true rfl) dX8_isWell_29 (by rw [hR]; exact ⟨Nat.le_of_ble_eq_true rfl, Nat.le_of_ble_eq_true rfl⟩) ?_
          refine W.eq (g2 := F0 m 32 ls [.int (b2i r7)]) rfl ?_
          refine lv_if_ne (tgt := 37) hx hb dX8_isWell_32 (by decide) (fun c9 => ?_) (fun c9 => ?_)
          · rw [if_neg c9] at h
            refine lv_iinc (v := (x1 + nI 1)) (lv' := [(1, .int (x1 + nI 1)), (0, .ref (a 0))]) hx hb dX8_isWell_37 hl (k := 1) rfl rfl (by decide) rfl (fun ls hl => ?_)
            refine lv_goto (tgt := 2) hx hb dX8_isWell_40 (by decide) ?_
            exact ih ((x1 + nI 1)) ls (lv_sub hl [1, 0] rfl) h
          · rw [if_pos c9] at h
            refine lv_iconst (v := (nI 0)) hx hb dX8_isWell_35 (by decide) ?_
            cases h
            refine W.eq (g2 := F0 m 36 ls [.int (b2i false)]) rfl ?_
            exact px_ePz (b2i_n _) hQ hx hb hr hlocks dX8_isWell_36
  refine lv_iconst (v := (nI 0)) hx hb dX8_isWell_0 (by decide) ?_
  refine lv_istore_n (lv' := [(1, .int (nI 0)), (0, .ref (a 0))]) hx hb dX8_isWell_1 rfl hl (by decide) rfl (fun ls hl => ?_)
  exact L2 fuel ((nI 0)) ls (lv_sub hl [1, 0] rfl) h
def f8_meanTaste_L20 (φ_forest : Fo) : Nat → Int32 → UInt64 → Int32 → Option (UInt64)
  | 0, _, _, _ => none
  | n + 1, x1, x2, x4 => (if x1 ≤ x4 then (if nn64 (FP.ddiv x2 (FP.i2d x1)) = true then (some (FP.ddiv x2 (FP.i2d x1))) else none) else ((f1_tipOf (x4) (φ_forest)).bind fun r6 => ((f1_tasteOf (r6) (φ_forest)).bind fun r8 => (if nn64 (FP.f2d r8) = true then (if nn64 (FP.dadd x2 (FP.f2d r8)) = true then (f8_meanTaste_L20 φ_forest n (x1) ((FP.dadd x2 (FP.f2d r8))) ((x4 + nI 1))) else none) else none))))
def f8_meanTaste  (φ_forest : Fo) : Option (UInt64) := ((f1_branchCount (φ_forest)).bind fun r1 => (if (nI 1) ≤ r1 then (f8_meanTaste_L20 φ_forest fuel (r1) (FP.dconst0) ((nI 0))) else (some FP.dconst0)))
set_option maxHeartbeats 4000000 in
set_option maxRecDepth 100000 in
theorem c8_meanTaste (l : Launch) (E : PE) (a : Nat → Nat) (a_forest : Nat → Nat) (r_this_before : Nat) (r_this_saved : Nat) (r_this_history : Nat) (r_this_desk : Nat) (r_this_walk : Nat) (r_this_input : Nat) (r_this_orders : Nat) (r_this_written : Nat)  (v_isSaved : Int32) (v_wrongPosition : Int32) (φ_forest : Fo) (r : UInt64) (h : f8_meanTaste φ_forest = some r) : MP l yX8_meanTaste cX8_meanTaste 5 (some .double) { frames := 2, cells := 0, slots := 0, locals := 47 } E [.ref (a 0)] ([gX8 E a (a_forest 0) r_this_before r_this_saved v_isSaved r_this_history r_this_desk r_this_walk r_this_input r_this_orders r_this_written v_wrongPosition, gX1 E a_forest φ_forest] : List va_W).flatten (some (.double r)) := by
  refine px_startP (by decide +kernel) (Nat.le_of_ble_eq_true rfl) ?_
  intro p e s m args below meth c R Q A ls hC hQ
  obtain ⟨hx, hb, hr, hml, hts, hown, hlocks, hR, hK, hN, hP, hD, hA, hl, hin⟩ := hC
  have hl : lv_has ls 5 [(0, .ref (a 0))] := hl
  unfold f8_meanTaste at h
  have L20 : ∀ (n : Nat) (x1 : Int32) (x2 : UInt64) (x4 : Int32) (ls : Array Slot), lv_has ls 5 [(0, .ref (a 0)), (1, .int x1), (2, .double x2), (4, .int x4)] → f8_meanTaste_L20 φ_forest n x1 x2 x4 = some r → W p l e R s m args below meth c s.heap [] 0 0 Q (F0 m 20 ls []) := by
    intro n
    induction n with
    | zero =>
      intro x1 x2 x4 ls hl h
      unfold f8_meanTaste_L20 at h; cases h
    | succ n ih =>
      intro x1 x2 x4 ls hl h
      unfold f8_meanTaste_L20 at h
      refine lv_iload hx hb dX8_meanTaste_20 (lv_at hl 3 rfl) ?_
      refine lv_iload_n hx hb dX8_meanTaste_22 rfl (lv_at hl 1 rfl) ?_
      refine lv_icmp_ge (tgt := 52) hx hb dX8_meanTaste_23 (by decide) (fun c4 => ?_) (fun c4 => ?_)
      · rw [if_pos c4] at h
        refine lv_dload_n hx hb dX8_meanTaste_52 rfl (lv_at hl 2 rfl) ?_
        refine lv_iload_n hx hb dX8_meanTaste_53 rfl (lv_at hl 1 rfl) ?_
        refine lv_i2d hx hb dX8_meanTaste_54 ?_
        obtain ⟨i5, h⟩ := o_t h
        refine lv_ddiv hx hb dX8_meanTaste_55 (nn64_ok i5) ?_
        cases h
        exact px_ePd hQ hx hb hr hlocks dX8_meanTaste_56
      · rw [if_neg c4] at h
        refine lv_dload_n hx hb dX8_meanTaste_26 rfl (lv_at hl 2 rfl) ?_
        refine lv_aload_n hx hb dX8_meanTaste_27 rfl (lv_at hl 0 rfl) ?_
        refine va_get (D := E.1) (ci := 8) (v := .ref (a_forest 0)) (C := RX8) (T := TX8) (N := 11) hx hb hts iX8 hown hK hP 0 rfl rfl 0 (by decide) (hts _ q214) (fun _ h9 => h9) rfl dX8_meanTaste_28 ?_
        refine lv_aload_n hx hb dX8_meanTaste_31 rfl (lv_at hl 0 rfl) ?_
        refine va_get (D := E.1) (ci := 8) (v := .ref (a_forest 0)) (C := RX8) (T := TX8) (N := 11) hx hb hts iX8 hown hK hP 0 rfl rfl 0 (by decide) (hts _ q214) (fun _ h9 => h9) rfl dX8_meanTaste_32 ?_
        refine lv_iload hx hb dX8_meanTaste_35 (lv_at hl 3 rfl) ?_
        obtain ⟨r6, hr7, h⟩ := ob h
        refine px_Vp (As := [.int x4]) (rest := [.ref (a_forest 0), .double x2]) (gs := ([gX8 E a (a_forest 0) r_this_before r_this_saved v_isSaved r_this_history r_this_desk r_this_walk r_this_input r_this_orders r_this_written v_wrongPosition, gX1 E a_forest φ_forest] : List va_W)) (gc := ([gX1 E a_forest φ_forest] : List va_W)) ⟨hx, hb, hml, hown, hts⟩ (c1_tipOf l E a_forest  (x4) (φ_forest) r6 hr7) (cwV 1 hts (ws_v q507 q295 q296 q19 q297) rfl rfl rfl hdV_X1_tipOf (by rw [hR]; exact ⟨Nat.le_of_ble_eq_true rfl, Nat.le_of_ble_eq_true rfl⟩)) hK hN hP hD [1] rfl (by decide) 0 1 rfl rfl rfl rfl hl.1 rfl (Nat.le_of_ble_eq_true rfl) dX8_meanTaste_37 (by rw [hR]; exact ⟨Nat.le_of_ble_eq_true rfl, Nat.le_of_ble_eq_true rfl⟩) ?_
        refine W.eq (g2 := F0 m 40 ls [.int r6, .ref (a_forest 0), .double x2]) rfl ?_
        obtain ⟨r8, hr9, h⟩ := ob h
        refine px_Vp (As := [.int r6]) (rest := [.double x2]) (gs := ([gX8 E a (a_forest 0) r_this_before r_this_saved v_isSaved r_this_history r_this_desk r_this_walk r_this_input r_this_orders r_this_written v_wrongPosition, gX1 E a_forest φ_forest] : List va_W)) (gc := ([gX1 E a_forest φ_forest] : List va_W)) ⟨hx, hb, hml, hown, hts⟩ (c1_tasteOf l E a_forest  (r6) (φ_forest) r8 hr9) (cwV 1 hts (ws_v q950 q951 q952 q19 q953) rfl rfl rfl hdV_X1_tasteOf (by rw [hR]; exact ⟨Nat.le_of_ble_eq_true rfl, Nat.le_of_ble_eq_true rfl⟩)) hK hN hP hD [1] rfl (by decide) 0 1 rfl rfl rfl rfl hl.1 rfl (Nat.le_of_ble_eq_true rfl) dX8_meanTaste_40 (by rw [hR]; exact ⟨Nat.le_of_ble_eq_true rfl, Nat.le_of_ble_eq_true rfl⟩) ?_
        refine W.eq (g2 := F0 m 43 ls [.float r8, .double x2]) rfl ?_
        obtain ⟨i10, h⟩ := o_t h
        refine lv_f2d hx hb dX8_meanTaste_43 (nn64_ok i10) ?_
        obtain ⟨i11, h⟩ := o_t h
        refine lv_dadd hx hb dX8_meanTaste_44 (nn64_ok i11) ?_
        refine lv_dstore_n (lv' := [(2, .double (FP.dadd x2 (FP.f2d r8))), (0, .ref (a 0)), (1, .int x1), (4, .int x4)]) hx hb dX8_meanTaste_45 rfl hl (by decide) rfl (fun ls hl => ?_)
        refine lv_iinc (v := (x4 + nI 1)) (lv' := [(4, .int (x4 + nI 1)), (2, .double (FP.dadd x2 (FP.f2d r8))), (0, .ref (a 0)), (1, .int x1)]) hx hb dX8_meanTaste_46 hl (k := 3) rfl rfl (by decide) rfl (fun ls hl => ?_)
        refine lv_goto (tgt := 20) hx hb dX8_meanTaste_49 (by decide) ?_
        exact ih (x1) ((FP.dadd x2 (FP.f2d r8))) ((x4 + nI 1)) ls (lv_sub hl [2, 3, 1, 0] rfl) h
  refine lv_aload_n hx hb dX8_meanTaste_0 rfl (lv_at hl 0 rfl) ?_
  refine va_get (D := E.1) (ci := 8) (v := .ref (a_forest 0)) (C := RX8) (T := TX8) (N := 11) hx hb hts iX8 hown hK hP 0 rfl rfl 0 (by decide) (hts _ q214) (fun _ h9 => h9) rfl dX8_meanTaste_1 ?_
  obtain ⟨r1, hr2, h⟩ := ob h
  refine px_Vp (As := []) (rest := []) (gs := ([gX8 E a (a_forest 0) r_this_before r_this_saved v_isSaved r_this_history r_this_desk r_this_walk r_this_input r_this_orders r_this_written v_wrongPosition, gX1 E a_forest φ_forest] : List va_W)) (gc := ([gX1 E a_forest φ_forest] : List va_W)) ⟨hx, hb, hml, hown, hts⟩ (c1_branchCount l E a_forest   (φ_forest) r1 hr2) (cwV 0 hts (ws_v q855 q468 q469 q19 q470) rfl rfl rfl hdV_X1_branchCount (by rw [hR]; exact ⟨Nat.le_of_ble_eq_true rfl, Nat.le_of_ble_eq_true rfl⟩)) hK hN hP hD [1] rfl (by decide) 0 1 rfl rfl rfl rfl hl.1 rfl (Nat.le_of_ble_eq_true rfl) dX8_meanTaste_4 (by rw [hR]; exact ⟨Nat.le_of_ble_eq_true rfl, Nat.le_of_ble_eq_true rfl⟩) ?_
  refine W.eq (g2 := F0 m 7 ls [.int r1]) rfl ?_
  refine lv_istore_n (lv' := [(1, .int r1), (0, .ref (a 0))]) hx hb dX8_meanTaste_7 rfl hl (by decide) rfl (fun ls hl => ?_)
  refine lv_iload_n hx hb dX8_meanTaste_8 rfl (lv_at hl 0 rfl) ?_
  refine lv_iconst (v := (nI 1)) hx hb dX8_meanTaste_9 (by decide) ?_
  refine lv_icmp_ge (tgt := 15) hx hb dX8_meanTaste_10 (by decide) (fun c3 => ?_) (fun c3 => ?_)
  · rw [if_pos c3] at h
    refine lv_dconst0 hx hb dX8_meanTaste_15 ?_
    refine lv_dstore_n (lv' := [(2, .double FP.dconst0), (1, .int r1), (0, .ref (a 0))]) hx hb dX8_meanTaste_16 rfl hl (by decide) rfl (fun ls hl => ?_)
    refine lv_iconst (v := (nI 0)) hx hb dX8_meanTaste_17 (by decide) ?_
    refine lv_istore (lv' := [(4, .int (nI 0)), (2, .double FP.dconst0), (1, .int r1), (0, .ref (a 0))]) hx hb dX8_meanTaste_18 hl (by decide) rfl (fun ls hl => ?_)
    exact L20 fuel (r1) (FP.dconst0) ((nI 0)) ls (lv_sub hl [3, 2, 1, 0] rfl) h
  · rw [if_neg c3] at h
    refine lv_dconst0 hx hb dX8_meanTaste_13 ?_
    cases h
    exact px_ePd hQ hx hb hr hlocks dX8_meanTaste_14
def f8_editShare  (φ_forest : Fo) : Option (UInt32) := ((f1_commitCount (φ_forest)).bind fun r1 => (if (nI 1) ≤ r1 then ((f1_countKind ((nI 0)) (φ_forest)).bind fun r4 => (if nn32 (FP.fdiv (FP.i2f r4) (FP.i2f r1)) = true then (some (FP.fdiv (FP.i2f r4) (FP.i2f r1))) else none)) else (some FP.fconst0)))
set_option maxHeartbeats 4000000 in
set_option maxRecDepth 100000 in
theorem c8_editShare (l : Launch) (E : PE) (a : Nat → Nat) (a_forest : Nat → Nat) (r_this_before : Nat) (r_this_saved : Nat) (r_this_history : Nat) (r_this_desk : Nat) (r_this_walk : Nat) (r_this_input : Nat) (r_this_orders : Nat) (r_this_written : Nat)  (v_isSaved : Int32) (v_wrongPosition : Int32) (φ_forest : Fo) (r : UInt32) (h : f8_editShare φ_forest = some r) : MP l yX8_editShare cX8_editShare 2 (some .float) { frames := 2, cells := 0, slots := 0, locals := 44 } E [.ref (a 0)] ([gX8 E a (a_forest 0) r_this_before r_this_saved v_isSaved r_this_history r_this_desk r_this_walk r_this_input r_this_orders r_this_written v_wrongPosition, gX1 E a_forest φ_forest] : List va_W).flatten (some (.float r)) := by
  refine px_startP (by decide +kernel) (Nat.le_of_ble_eq_true rfl) ?_
  intro p e s m args below meth c R Q A ls hC hQ
  obtain ⟨hx, hb, hr, hml, hts, hown, hlocks, hR, hK, hN, hP, hD, hA, hl, hin⟩ := hC
  have hl : lv_has ls 2 [(0, .ref (a 0))] := hl
  unfold f8_editShare at h
  refine lv_aload_n hx hb dX8_editShare_0 rfl (lv_at hl 0 rfl) ?_
  refine va_get (D := E.1) (ci := 8) (v := .ref (a_forest 0)) (C := RX8) (T := TX8) (N := 11) hx hb hts iX8 hown hK hP 0 rfl rfl 0 (by decide) (hts _ q214) (fun _ h9 => h9) rfl dX8_editShare_1 ?_
  obtain ⟨r1, hr2, h⟩ := ob h
  refine px_Vp (As := []) (rest := []) (gs := ([gX8 E a (a_forest 0) r_this_before r_this_saved v_isSaved r_this_history r_this_desk r_this_walk r_this_input r_this_orders r_this_written v_wrongPosition, gX1 E a_forest φ_forest] : List va_W)) (gc := ([gX1 E a_forest φ_forest] : List va_W)) ⟨hx, hb, hml, hown, hts⟩ (c1_commitCount l E a_forest   (φ_forest) r1 hr2) (cwV 0 hts (ws_v q263 q264 q265 q19 q266) rfl rfl rfl hdV_X1_commitCount (by rw [hR]; exact ⟨Nat.le_of_ble_eq_true rfl, Nat.le_of_ble_eq_true rfl⟩)) hK hN hP hD [1] rfl (by decide) 0 1 rfl rfl rfl rfl hl.1 rfl (Nat.le_of_ble_eq_true rfl) dX8_editShare_4 (by rw [hR]; exact ⟨Nat.le_of_ble_eq_true rfl, Nat.le_of_ble_eq_true rfl⟩) ?_
  refine W.eq (g2 := F0 m 7 ls [.int r1]) rfl ?_
  refine lv_istore_n (lv' := [(1, .int r1), (0, .ref (a 0))]) hx hb dX8_editShare_7 rfl hl (by decide) rfl (fun ls hl => ?_)
  refine lv_iload_n hx hb dX8_editShare_8 rfl (lv_at hl 0 rfl) ?_
  refine lv_iconst (v := (nI 1)) hx hb dX8_editShare_9 (by decide) ?_
  refine lv_icmp_ge (tgt := 15) hx hb dX8_editShare_10 (by decide) (fun c3 => ?_) (fun c3 => ?_)
  · rw [if_pos c3] at h
    refine lv_aload_n hx hb dX8_editShare_15 rfl (lv_at hl 1 rfl) ?_
    refine va_get (D := E.1) (ci := 8) (v := .ref (a_forest 0)) (C := RX8) (T := TX8) (N := 11) hx hb hts iX8 hown hK hP 0 rfl rfl 0 (by decide) (hts _ q214) (fun _ h9 => h9) rfl dX8_editShare_16 ?_
    refine lv_iconst (v := (nI 0)) hx hb dX8_editShare_19 (by decide) ?_
    obtain ⟨r4, hr5, h⟩ := ob h
    refine px_Vp (As := [.int (nI 0)]) (rest := []) (gs := ([gX8 E a (a_forest 0) r_this_before r_this_saved v_isSaved r_this_history r_this_desk r_this_walk r_this_input r_this_orders r_this_written v_wrongPosition, gX1 E a_forest φ_forest] : List va_W)) (gc := ([gX1 E a_forest φ_forest] : List va_W)) ⟨hx, hb, hml, hown, hts⟩ (c1_countKind l E a_forest  ((nI 0)) (φ_forest) r4 hr5) (cwV 1 hts (ws_v q856 q857 q858 q19 q859) rfl rfl rfl hdV_X1_countKind (by rw [hR]; exact ⟨Nat.le_of_ble_eq_true rfl, Nat.le_of_ble_eq_true rfl⟩)) hK hN hP hD [1] rfl (by decide) 0 1 rfl rfl rfl rfl hl.1 rfl (Nat.le_of_ble_eq_true rfl) dX8_editShare_20 (by rw [hR]; exact ⟨Nat.le_of_ble_eq_true rfl, Nat.le_of_ble_eq_true rfl⟩) ?_
    refine W.eq (g2 := F0 m 23 ls [.int r4]) rfl ?_
    refine lv_i2f hx hb dX8_editShare_23 ?_
    refine lv_iload_n hx hb dX8_editShare_24 rfl (lv_at hl 0 rfl) ?_
    refine lv_i2f hx hb dX8_editShare_25 ?_
    obtain ⟨i6, h⟩ := o_t h
    refine lv_fdiv hx hb dX8_editShare_26 (nn32_ok i6) ?_
    cases h
    exact px_ePf hQ hx hb hr hlocks dX8_editShare_27
  · rw [if_neg c3] at h
    refine lv_fconst0 hx hb dX8_editShare_13 ?_
    cases h
    exact px_ePf hQ hx hb hr hlocks dX8_editShare_14
def f8_undo  (φ_forest : Fo) (hist_rows : (Nat → Fo)) (hist_next : Int32) (hist_count : Int32) : Option (Nat × Int32 × Fo × Int32 × Int32) := ((f2_size (hist_count)).bind fun r1 => (if (nI 1) ≤ r1 then ((f2_takeBack (hist_rows) (hist_next) (hist_count) (φ_forest)).bind fun (r4, w5, w6, w7) => (some (0, r4, w7, w5, w6))) else (some (5, (nI 0), φ_forest, hist_next, hist_count))))
set_option maxHeartbeats 4000000 in
set_option maxRecDepth 100000 in
theorem c8_undo (l : Launch) (hlt : l.stackTraces = false) (E : PE) (X : PX) (a : Nat → Nat) (a_forest : Nat → Nat) (a_hist : Nat → Nat) (r_this_before : Nat) (r_this_saved : Nat) (r_this_desk : Nat) (r_this_walk : Nat) (r_this_input : Nat) (r_this_orders : Nat) (r_this_written : Nat)  (v_isSaved : Int32) (v_wrongPosition : Int32) (φ_forest : Fo) (hist_rows : (Nat → Fo)) (hist_next : Int32) (hist_count : Int32) (k : Nat) (r : Int32) (z_forest_φ : Fo) (z_hist_next : Int32) (z_hist_count : Int32) (h : f8_undo φ_forest hist_rows hist_next hist_count = some (k, r, z_forest_φ, z_hist_next, z_hist_count)) : MT l yX8_undo cX8_undo 1 (some .int) { frames := 6, cells := 1, slots := 6, locals := 90 } E X [.ref (a 0)] ([gX8 E a (a_forest 0) r_this_before r_this_saved v_isSaved (a_hist 0) r_this_desk r_this_walk r_this_input r_this_orders r_this_written v_wrongPosition, gX1 E a_forest φ_forest, gX2 E a_hist hist_rows hist_next hist_count] : List va_W).flatten 1 6 k (some (.int r)) ([gX8 E a (a_forest 0) r_this_before r_this_saved v_isSaved (a_hist 0) r_this_desk r_this_walk r_this_input r_this_orders r_this_written v_wrongPosition, gX1 E a_forest z_forest_φ, gX2 E a_hist hist_rows z_hist_next z_hist_count] : List va_W).flatten := by
  refine px_startT (by decide +kernel) (Nat.le_of_ble_eq_true rfl) ?_
  intro p e s m args below meth c R Q A ls hC hX hA0 hQ htb
  obtain ⟨hx, hb, hr, hml, hts, hown, hlocks, hR, hK, hN, hP, hD, hA, hl, hin⟩ := hC
  have hl : lv_has ls 1 [(0, .ref (a 0))] := hl
  suffices key : ∀ (H : Heap) (locs : List Loc), va_P E.1 vwCl ([gX8 E a (a_forest 0) r_this_before r_this_saved v_isSaved (a_hist 0) r_this_desk r_this_walk r_this_input r_this_orders r_this_written v_wrongPosition, gX1 E a_forest φ_forest, gX2 E a_hist hist_rows hist_next hist_count] : List va_W).flatten H → va_S A s.heap H locs → W p l e R s m args below meth c H locs 0 0 Q (F0 m 0 ls []) from key s.heap [] hP va_S.rf
  unfold f8_undo at h
  intro H locs hP hS
  refine lv_aload_n hx hb dX8_undo_0 rfl (lv_at hl 0 rfl) ?_
  refine va_get (D := E.1) (ci := 8) (v := .ref (a_hist 0)) (C := RX8) (T := TX8) (N := 11) hx hb hts iX8 hown hK hP 0 rfl rfl 4 (by decide) (hts _ q218) (fun _ h9 => h9) rfl dX8_undo_1 ?_
  obtain ⟨r1, hr2, h⟩ := ob h
  refine px_Vp (As := []) (rest := []) (gs := ([gX8 E a (a_forest 0) r_this_before r_this_saved v_isSaved (a_hist 0) r_this_desk r_this_walk r_this_input r_this_orders r_this_written v_wrongPosition, gX1 E a_forest φ_forest, gX2 E a_hist hist_rows hist_next hist_count] : List va_W)) (gc := ([gX2 E a_hist hist_rows hist_next hist_count] : List va_W)) ⟨hx, hb, hml, hown, hts⟩ (c2_size l E a_hist   (hist_rows) (hist_next) (hist_count) r1 hr2) (cwV 0 hts (ws_v q880 q881 q882 q20 q883) rfl rfl rfl hdV_X2_size (by rw [hR]; exact ⟨Nat.le_of_ble_eq_true rfl, Nat.le_of_ble_eq_true rfl⟩)) hK hN hP hD [2] rfl (by decide) 0 2 rfl rfl rfl rfl hl.1 rfl (Nat.le_of_ble_eq_true rfl) dX8_undo_4 (by rw [hR]; exact ⟨Nat.le_of_ble_eq_true rfl, Nat.le_of_ble_eq_true rfl⟩) ?_
  refine W.eq (g2 := F0 m 7 ls [.int r1]) rfl ?_
  refine lv_iconst (v := (nI 1)) hx hb dX8_undo_7 (by decide) ?_
  refine lv_icmp_ge (tgt := 22) hx hb dX8_undo_8 (by decide) (fun c3 => ?_) (fun c3 => ?_)
  · rw [if_pos c3] at h
    refine lv_aload_n hx hb dX8_undo_22 rfl (lv_at hl 0 rfl) ?_
    refine va_get (D := E.1) (ci := 8) (v := .ref (a_hist 0)) (C := RX8) (T := TX8) (N := 11) hx hb hts iX8 hown hK hP 0 rfl rfl 4 (by decide) (hts _ q218) (fun _ h9 => h9) rfl dX8_undo_23 ?_
    refine lv_aload_n hx hb dX8_undo_26 rfl (lv_at hl 0 rfl) ?_
    refine va_get (D := E.1) (ci := 8) (v := .ref (a_forest 0)) (C := RX8) (T := TX8) (N := 11) hx hb hts iX8 hown hK hP 0 rfl rfl 0 (by decide) (hts _ q214) (fun _ h9 => h9) rfl dX8_undo_27 ?_
    obtain ⟨⟨r4, w5, w6, w7⟩, hr8, h⟩ := ob h
    dsimp only at h
    refine px_V (As := [.ref (a_forest 0)]) (rest := []) (gs := ([gX8 E a (a_forest 0) r_this_before r_this_saved v_isSaved (a_hist 0) r_this_desk r_this_walk r_this_input r_this_orders r_this_written v_wrongPosition, gX1 E a_forest φ_forest, gX2 E a_hist hist_rows hist_next hist_count] : List va_W)) (gr := ([gX8 E a (a_forest 0) r_this_before r_this_saved v_isSaved (a_hist 0) r_this_desk r_this_walk r_this_input r_this_orders r_this_written v_wrongPosition] : List va_W)) (gc := ([gX2 E a_hist hist_rows hist_next hist_count, gX1 E a_forest φ_forest] : List va_W)) (g1 := ([gX2 E a_hist hist_rows w5 w6, gX1 E a_forest w7] : List va_W)) (g2 := ([gX8 E a (a_forest 0) r_this_before r_this_saved v_isSaved (a_hist 0) r_this_desk r_this_walk r_this_input r_this_orders r_this_written v_wrongPosition, gX1 E a_forest w7, gX2 E a_hist hist_rows w5 w6] : List va_W)) ⟨hx, hb, hml, hown, hts⟩ (c2_takeBack l E a_hist a_forest   (hist_rows) (hist_next) (hist_count) (φ_forest) r4 w5 w6 w7 hr8) (cwV 1 hts (ws_v q893 q894 q895 q20 q896) rfl rfl rfl hdV_X2_takeBack (by rw [hR]; exact ⟨Nat.le_of_ble_eq_true rfl, Nat.le_of_ble_eq_true rfl⟩)) hK hN hP hD hS hA [0] [2, 1] [0, 2, 1] rfl rfl (by decide) (by decide) rfl (by decide) 0 2 rfl rfl rfl rfl hl.1 rfl (Nat.le_of_ble_eq_true rfl) dX8_undo_30 (by rw [hR]; exact ⟨Nat.le_of_ble_eq_true rfl, Nat.le_of_ble_eq_true rfl⟩) (fun H locs hP hD hS => ?_)
    refine W.eq (g2 := F0 m 33 ls [.int r4]) rfl ?_
    cases h
    exact px_eTi (by decide) (by decide) hA0 hQ hP hD hS hx hb hr hlocks dX8_undo_33
  · rw [if_neg c3] at h
    cases h
    exact px_thrSW (k := 5) (i := 30) (tx := "no change can be undone") hx hb hlt hown (hts _ q711) (hts _ q30) hX rfl (at_5_252 hts hX) ag_5_252 (by decide +kernel) hA0 hQ hP hD hS (hml.trans hl.1.symm) htb hlocks dX8_undo_11 dX8_undo_14 dX8_undo_15 dX8_undo_18 dX8_undo_21 (by rw [hR]; exact Nat.le_of_ble_eq_true rfl) (by rw [hR]; exact Nat.le_of_ble_eq_true rfl) (by rw [hR]; exact Nat.le_of_ble_eq_true rfl) (by rw [hR]; exact Nat.le_of_ble_eq_true rfl) (by decide) (by decide) (by decide)
def f8_save  (v_isSaved : Int32) (φ_forest : Fo) (φ_saved : Fo) : Option (Int32 × Int32 × Fo) := ((f1_become (φ_saved) (φ_forest)).bind fun w1 => ((f1_commitCount (φ_forest)).bind fun r3 => (some (r3, (nI 1), w1))))
set_option maxHeartbeats 4000000 in
set_option maxRecDepth 100000 in
theorem c8_save (l : Launch) (E : PE) (a : Nat → Nat) (a_forest : Nat → Nat) (a_saved : Nat → Nat) (r_this_before : Nat) (r_this_history : Nat) (r_this_desk : Nat) (r_this_walk : Nat) (r_this_input : Nat) (r_this_orders : Nat) (r_this_written : Nat)  (v_isSaved : Int32) (v_wrongPosition : Int32) (φ_forest : Fo) (φ_saved : Fo) (r : Int32) (z_this_isSaved : Int32) (z_saved_φ : Fo) (h : f8_save v_isSaved φ_forest φ_saved = some (r, z_this_isSaved, z_saved_φ)) : MW l yX8_save cX8_save 1 (some .int) { frames := 2, cells := 0, slots := 0, locals := 45 } E [.ref (a 0)] ([gX8 E a (a_forest 0) r_this_before (a_saved 0) v_isSaved r_this_history r_this_desk r_this_walk r_this_input r_this_orders r_this_written v_wrongPosition, gX1 E a_forest φ_forest, gX1 E a_saved φ_saved] : List va_W).flatten 0 0 (some (.int r)) ([gX8 E a (a_forest 0) r_this_before (a_saved 0) z_this_isSaved r_this_history r_this_desk r_this_walk r_this_input r_this_orders r_this_written v_wrongPosition, gX1 E a_forest φ_forest, gX1 E a_saved z_saved_φ] : List va_W).flatten := by
  refine px_startW (by decide +kernel) (Nat.le_of_ble_eq_true rfl) ?_
  intro p e s m args below meth c R Q A ls hC hA0 hQ
  obtain ⟨hx, hb, hr, hml, hts, hown, hlocks, hR, hK, hN, hP, hD, hA, hl, hin⟩ := hC
  have hl : lv_has ls 1 [(0, .ref (a 0))] := hl
  suffices key : ∀ (H : Heap) (locs : List Loc), va_P E.1 vwCl ([gX8 E a (a_forest 0) r_this_before (a_saved 0) v_isSaved r_this_history r_this_desk r_this_walk r_this_input r_this_orders r_this_written v_wrongPosition, gX1 E a_forest φ_forest, gX1 E a_saved φ_saved] : List va_W).flatten H → va_S A s.heap H locs → W p l e R s m args below meth c H locs 0 0 Q (F0 m 0 ls []) from key s.heap [] hP va_S.rf
  unfold f8_save at h
  intro H locs hP hS
  refine lv_aload_n hx hb dX8_save_0 rfl (lv_at hl 0 rfl) ?_
  refine va_get (D := E.1) (ci := 8) (v := .ref (a_saved 0)) (C := RX8) (T := TX8) (N := 11) hx hb hts iX8 hown hK hP 0 rfl rfl 2 (by decide) (hts _ q216) (fun _ h9 => h9) rfl dX8_save_1 ?_
  refine lv_aload_n hx hb dX8_save_4 rfl (lv_at hl 0 rfl) ?_
  refine va_get (D := E.1) (ci := 8) (v := .ref (a_forest 0)) (C := RX8) (T := TX8) (N := 11) hx hb hts iX8 hown hK hP 0 rfl rfl 0 (by decide) (hts _ q214) (fun _ h9 => h9) rfl dX8_save_5 ?_
  obtain ⟨w1, hr2, h⟩ := ob h
  refine px_V (As := [.ref (a_forest 0)]) (rest := []) (gs := ([gX8 E a (a_forest 0) r_this_before (a_saved 0) v_isSaved r_this_history r_this_desk r_this_walk r_this_input r_this_orders r_this_written v_wrongPosition, gX1 E a_forest φ_forest, gX1 E a_saved φ_saved] : List va_W)) (gr := ([gX8 E a (a_forest 0) r_this_before (a_saved 0) v_isSaved r_this_history r_this_desk r_this_walk r_this_input r_this_orders r_this_written v_wrongPosition] : List va_W)) (gc := ([gX1 E a_saved φ_saved, gX1 E a_forest φ_forest] : List va_W)) (g1 := ([gX1 E a_saved w1, gX1 E a_forest φ_forest] : List va_W)) (g2 := ([gX8 E a (a_forest 0) r_this_before (a_saved 0) v_isSaved r_this_history r_this_desk r_this_walk r_this_input r_this_orders r_this_written v_wrongPosition, gX1 E a_forest φ_forest, gX1 E a_saved w1] : List va_W)) ⟨hx, hb, hml, hown, hts⟩ (c1_become l E a_saved a_forest   (φ_saved) (φ_forest) w1 hr2) (cwV 1 hts (ws_v q256 q257 q258 q19 q259) rfl rfl rfl hdV_X1_become (by rw [hR]; exact ⟨Nat.le_of_ble_eq_true rfl, Nat.le_of_ble_eq_true rfl⟩)) hK hN hP hD hS hA [0] [2, 1] [0, 2, 1] rfl rfl (by decide) (by decide) rfl (by decide) 0 1 rfl rfl rfl rfl hl.1 rfl (Nat.le_of_ble_eq_true rfl) dX8_save_8 (by rw [hR]; exact ⟨Nat.le_of_ble_eq_true rfl, Nat.le_of_ble_eq_true rfl⟩) (fun H locs hP hD hS => ?_)
  refine W.eq (g2 := F0 m 11 ls []) rfl ?_
  refine lv_aload_n hx hb dX8_save_11 rfl (lv_at hl 0 rfl) ?_
  refine lv_iconst (v := (nI 1)) hx hb dX8_save_12 (by decide) ?_
  refine va_put (D := E.1) (ci := 8) (v := .int (nI 1)) (ty := .boolean) (C := RX8) (T := TX8) (N := 11) hx hb hts iX8 tyX8 tyX8_ok nmX8 hown hK hP hD hS 0 rfl rfl 3 (by decide) (hts _ q217) (fun _ h9 => h9) rfl (tyX8_ok 3 (by decide)) (by decide +kernel) (by decide +kernel) (Nat.le_of_ble_eq_true rfl) dX8_save_13 (fun H locs hP hD hS => ?_)
  have hP : va_P E.1 vwCl ([gX8 E a (a_forest 0) r_this_before (a_saved 0) (nI 1) r_this_history r_this_desk r_this_walk r_this_input r_this_orders r_this_written v_wrongPosition, gX1 E a_forest φ_forest, gX1 E a_saved w1] : List va_W).flatten H := hP
  have hD : va_D A ([gX8 E a (a_forest 0) r_this_before (a_saved 0) (nI 1) r_this_history r_this_desk r_this_walk r_this_input r_this_orders r_this_written v_wrongPosition, gX1 E a_forest φ_forest, gX1 E a_saved w1] : List va_W).flatten := hD
  refine lv_aload_n hx hb dX8_save_16 rfl (lv_at hl 0 rfl) ?_
  refine va_get (D := E.1) (ci := 8) (v := .ref (a_forest 0)) (C := RX8) (T := TX8) (N := 11) hx hb hts iX8 hown hK hP 0 rfl rfl 0 (by decide) (hts _ q214) (fun _ h9 => h9) rfl dX8_save_17 ?_
  obtain ⟨r3, hr4, h⟩ := ob h
  refine px_Vp (As := []) (rest := []) (gs := ([gX8 E a (a_forest 0) r_this_before (a_saved 0) (nI 1) r_this_history r_this_desk r_this_walk r_this_input r_this_orders r_this_written v_wrongPosition, gX1 E a_forest φ_forest, gX1 E a_saved w1] : List va_W)) (gc := ([gX1 E a_forest φ_forest] : List va_W)) ⟨hx, hb, hml, hown, hts⟩ (c1_commitCount l E a_forest   (φ_forest) r3 hr4) (cwV 0 hts (ws_v q263 q264 q265 q19 q266) rfl rfl rfl hdV_X1_commitCount (by rw [hR]; exact ⟨Nat.le_of_ble_eq_true rfl, Nat.le_of_ble_eq_true rfl⟩)) hK hN hP hD [1] rfl (by decide) 0 1 rfl rfl rfl rfl hl.1 rfl (Nat.le_of_ble_eq_true rfl) dX8_save_20 (by rw [hR]; exact ⟨Nat.le_of_ble_eq_true rfl, Nat.le_of_ble_eq_true rfl⟩) ?_
  refine W.eq (g2 := F0 m 23 ls [.int r3]) rfl ?_
  cases h
  exact px_eWi hA0 hQ hP hD hS hx hb hr hlocks dX8_save_23
def f8_restore  (v_isSaved : Int32) (φ_forest : Fo) (φ_saved : Fo) (hist_count : Int32) : Option (Nat × Int32 × Fo × Int32) := (if v_isSaved = 0 then (some (5, (nI 0), φ_forest, hist_count)) else ((f1_become (φ_forest) (φ_saved)).bind fun w2 => ((f2_forgetAll (hist_count)).bind fun w4 => ((f1_commitCount (w2)).bind fun r6 => (some (0, r6, w2, w4))))))
set_option maxHeartbeats 4000000 in
set_option maxRecDepth 100000 in
theorem c8_restore (l : Launch) (hlt : l.stackTraces = false) (E : PE) (X : PX) (a : Nat → Nat) (a_forest : Nat → Nat) (a_saved : Nat → Nat) (a_hist : Nat → Nat) (r_this_before : Nat) (r_this_desk : Nat) (r_this_walk : Nat) (r_this_input : Nat) (r_this_orders : Nat) (r_this_written : Nat)  (v_isSaved : Int32) (v_wrongPosition : Int32) (φ_forest : Fo) (φ_saved : Fo) (hist_rows : (Nat → Fo)) (hist_next : Int32) (hist_count : Int32) (k : Nat) (r : Int32) (z_forest_φ : Fo) (z_hist_count : Int32) (h : f8_restore v_isSaved φ_forest φ_saved hist_count = some (k, r, z_forest_φ, z_hist_count)) : MT l yX8_restore cX8_restore 1 (some .int) { frames := 6, cells := 1, slots := 6, locals := 90 } E X [.ref (a 0)] ([gX8 E a (a_forest 0) r_this_before (a_saved 0) v_isSaved (a_hist 0) r_this_desk r_this_walk r_this_input r_this_orders r_this_written v_wrongPosition, gX1 E a_forest φ_forest, gX1 E a_saved φ_saved, gX2 E a_hist hist_rows hist_next hist_count] : List va_W).flatten 1 6 k (some (.int r)) ([gX8 E a (a_forest 0) r_this_before (a_saved 0) v_isSaved (a_hist 0) r_this_desk r_this_walk r_this_input r_this_orders r_this_written v_wrongPosition, gX1 E a_forest z_forest_φ, gX1 E a_saved φ_saved, gX2 E a_hist hist_rows hist_next z_hist_count] : List va_W).flatten := by
  refine px_startT (by decide +kernel) (Nat.le_of_ble_eq_true rfl) ?_
  intro p e s m args below meth c R Q A ls hC hX hA0 hQ htb
  obtain ⟨hx, hb, hr, hml, hts, hown, hlocks, hR, hK, hN, hP, hD, hA, hl, hin⟩ := hC
  have hl : lv_has ls 1 [(0, .ref (a 0))] := hl
  suffices key : ∀ (H : Heap) (locs : List Loc), va_P E.1 vwCl ([gX8 E a (a_forest 0) r_this_before (a_saved 0) v_isSaved (a_hist 0) r_this_desk r_this_walk r_this_input r_this_orders r_this_written v_wrongPosition, gX1 E a_forest φ_forest, gX1 E a_saved φ_saved, gX2 E a_hist hist_rows hist_next hist_count] : List va_W).flatten H → va_S A s.heap H locs → W p l e R s m args below meth c H locs 0 0 Q (F0 m 0 ls []) from key s.heap [] hP va_S.rf
  unfold f8_restore at h
  intro H locs hP hS
  refine lv_aload_n hx hb dX8_restore_0 rfl (lv_at hl 0 rfl) ?_
  refine va_get (D := E.1) (ci := 8) (v := .int v_isSaved) (C := RX8) (T := TX8) (N := 11) hx hb hts iX8 hown hK hP 0 rfl rfl 3 (by decide) (hts _ q217) (fun _ h9 => h9) rfl dX8_restore_1 ?_
  refine lv_if_ne (tgt := 18) hx hb dX8_restore_4 (by decide) (fun c1 => ?_) (fun c1 => ?_)
  · rw [if_neg c1] at h
    refine lv_aload_n hx hb dX8_restore_18 rfl (lv_at hl 0 rfl) ?_
    refine va_get (D := E.1) (ci := 8) (v := .ref (a_forest 0)) (C := RX8) (T := TX8) (N := 11) hx hb hts iX8 hown hK hP 0 rfl rfl 0 (by decide) (hts _ q214) (fun _ h9 => h9) rfl dX8_restore_19 ?_
    refine lv_aload_n hx hb dX8_restore_22 rfl (lv_at hl 0 rfl) ?_
    refine va_get (D := E.1) (ci := 8) (v := .ref (a_saved 0)) (C := RX8) (T := TX8) (N := 11) hx hb hts iX8 hown hK hP 0 rfl rfl 2 (by decide) (hts _ q216) (fun _ h9 => h9) rfl dX8_restore_23 ?_
    obtain ⟨w2, hr3, h⟩ := ob h
    refine px_V (As := [.ref (a_saved 0)]) (rest := []) (gs := ([gX8 E a (a_forest 0) r_this_before (a_saved 0) v_isSaved (a_hist 0) r_this_desk r_this_walk r_this_input r_this_orders r_this_written v_wrongPosition, gX1 E a_forest φ_forest, gX1 E a_saved φ_saved, gX2 E a_hist hist_rows hist_next hist_count] : List va_W)) (gr := ([gX8 E a (a_forest 0) r_this_before (a_saved 0) v_isSaved (a_hist 0) r_this_desk r_this_walk r_this_input r_this_orders r_this_written v_wrongPosition, gX2 E a_hist hist_rows hist_next hist_count] : List va_W)) (gc := ([gX1 E a_forest φ_forest, gX1 E a_saved φ_saved] : List va_W)) (g1 := ([gX1 E a_forest w2, gX1 E a_saved φ_saved] : List va_W)) (g2 := ([gX8 E a (a_forest 0) r_this_before (a_saved 0) v_isSaved (a_hist 0) r_this_desk r_this_walk r_this_input r_this_orders r_this_written v_wrongPosition, gX1 E a_forest w2, gX1 E a_saved φ_saved, gX2 E a_hist hist_rows hist_next hist_count] : List va_W)) ⟨hx, hb, hml, hown, hts⟩ (c1_become l E a_forest a_saved   (φ_forest) (φ_saved) w2 hr3) (cwV 1 hts (ws_v q256 q257 q258 q19 q259) rfl rfl rfl hdV_X1_become (by rw [hR]; exact ⟨Nat.le_of_ble_eq_true rfl, Nat.le_of_ble_eq_true rfl⟩)) hK hN hP hD hS hA [0, 3] [1, 2] [0, 2, 3, 1] rfl rfl (by decide) (by decide) rfl (by decide) 0 1 rfl rfl rfl rfl hl.1 rfl (Nat.le_of_ble_eq_true rfl) dX8_restore_26 (by rw [hR]; exact ⟨Nat.le_of_ble_eq_true rfl, Nat.le_of_ble_eq_true rfl⟩) (fun H locs hP hD hS => ?_)
    refine W.eq (g2 := F0 m 29 ls []) rfl ?_
    refine lv_aload_n hx hb dX8_restore_29 rfl (lv_at hl 0 rfl) ?_
    refine va_get (D := E.1) (ci := 8) (v := .ref (a_hist 0)) (C := RX8) (T := TX8) (N := 11) hx hb hts iX8 hown hK hP 0 rfl rfl 4 (by decide) (hts _ q218) (fun _ h9 => h9) rfl dX8_restore_30 ?_
    obtain ⟨w4, hr5, h⟩ := ob h
    refine px_V (As := []) (rest := []) (gs := ([gX8 E a (a_forest 0) r_this_before (a_saved 0) v_isSaved (a_hist 0) r_this_desk r_this_walk r_this_input r_this_orders r_this_written v_wrongPosition, gX1 E a_forest w2, gX1 E a_saved φ_saved, gX2 E a_hist hist_rows hist_next hist_count] : List va_W)) (gr := ([gX8 E a (a_forest 0) r_this_before (a_saved 0) v_isSaved (a_hist 0) r_this_desk r_this_walk r_this_input r_this_orders r_this_written v_wrongPosition, gX1 E a_forest w2, gX1 E a_saved φ_saved] : List va_W)) (gc := ([gX2 E a_hist hist_rows hist_next hist_count] : List va_W)) (g1 := ([gX2 E a_hist hist_rows hist_next w4] : List va_W)) (g2 := ([gX8 E a (a_forest 0) r_this_before (a_saved 0) v_isSaved (a_hist 0) r_this_desk r_this_walk r_this_input r_this_orders r_this_written v_wrongPosition, gX1 E a_forest w2, gX1 E a_saved φ_saved, gX2 E a_hist hist_rows hist_next w4] : List va_W)) ⟨hx, hb, hml, hown, hts⟩ (c2_forgetAll l E a_hist   (hist_rows) (hist_next) (hist_count) w4 hr5) (cwV 0 hts (ws_v q905 q906 q907 q20 q908) rfl rfl rfl hdV_X2_forgetAll (by rw [hR]; exact ⟨Nat.le_of_ble_eq_true rfl, Nat.le_of_ble_eq_true rfl⟩)) hK hN hP hD hS hA [0, 1, 2] [3] [0, 1, 2, 3] rfl rfl (by decide) (by decide) rfl (by decide) 0 2 rfl rfl rfl rfl hl.1 rfl (Nat.le_of_ble_eq_true rfl) dX8_restore_33 (by rw [hR]; exact ⟨Nat.le_of_ble_eq_true rfl, Nat.le_of_ble_eq_true rfl⟩) (fun H locs hP hD hS => ?_)
    refine W.eq (g2 := F0 m 36 ls []) rfl ?_
    refine lv_aload_n hx hb dX8_restore_36 rfl (lv_at hl 0 rfl) ?_
    refine va_get (D := E.1) (ci := 8) (v := .ref (a_forest 0)) (C := RX8) (T := TX8) (N := 11) hx hb hts iX8 hown hK hP 0 rfl rfl 0 (by decide) (hts _ q214) (fun _ h9 => h9) rfl dX8_restore_37 ?_
    obtain ⟨r6, hr7, h⟩ := ob h
    refine px_Vp (As := []) (rest := []) (gs := ([gX8 E a (a_forest 0) r_this_before (a_saved 0) v_isSaved (a_hist 0) r_this_desk r_this_walk r_this_input r_this_orders r_this_written v_wrongPosition, gX1 E a_forest w2, gX1 E a_saved φ_saved, gX2 E a_hist hist_rows hist_next w4] : List va_W)) (gc := ([gX1 E a_forest w2] : List va_W)) ⟨hx, hb, hml, hown, hts⟩ (c1_commitCount l E a_forest   (w2) r6 hr7) (cwV 0 hts (ws_v q263 q264 q265 q19 q266) rfl rfl rfl hdV_X1_commitCount (by rw [hR]; exact ⟨Nat.le_of_ble_eq_true rfl, Nat.le_of_ble_eq_true rfl⟩)) hK hN hP hD [1] rfl (by decide) 0 1 rfl rfl rfl rfl hl.1 rfl (Nat.le_of_ble_eq_true rfl) dX8_restore_40 (by rw [hR]; exact ⟨Nat.le_of_ble_eq_true rfl, Nat.le_of_ble_eq_true rfl⟩) ?_
    refine W.eq (g2 := F0 m 43 ls [.int r6]) rfl ?_
    cases h
    exact px_eTi (by decide) (by decide) hA0 hQ hP hD hS hx hb hr hlocks dX8_restore_43
  · rw [if_pos c1] at h
    cases h
    exact px_thrSW (k := 5) (i := 31) (tx := "there is no snapshot") hx hb hlt hown (hts _ q711) (hts _ q30) hX rfl (at_5_252 hts hX) ag_5_252 (by decide +kernel) hA0 hQ hP hD hS (hml.trans hl.1.symm) htb hlocks dX8_restore_7 dX8_restore_10 dX8_restore_11 dX8_restore_14 dX8_restore_17 (by rw [hR]; exact Nat.le_of_ble_eq_true rfl) (by rw [hR]; exact Nat.le_of_ble_eq_true rfl) (by rw [hR]; exact Nat.le_of_ble_eq_true rfl) (by rw [hR]; exact Nat.le_of_ble_eq_true rfl) (by decide) (by decide) (by decide)
