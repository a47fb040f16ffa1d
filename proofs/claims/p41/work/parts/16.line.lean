def f4_has (x1 : Int32) (v_length : Int32) : Option (Bool) := (if x1 < 0 then (some false) else (if v_length ≤ x1 then (some false) else (if (nI 24) ≤ x1 then (some false) else (some true))))
set_option maxHeartbeats 4000000 in
set_option maxRecDepth 100000 in
theorem c4_has (l : Launch) (E : PE) (a : Nat → Nat)  (x1 : Int32) (v_signs : AI) (v_length : Int32) (r : Bool) (h : f4_has x1 v_length = some r) : MP l yX4_has cX4_has 2 (some .boolean) { frames := 0, cells := 0, slots := 0, locals := 0 } E [.ref (a 0), .int x1] ([gX4 E a v_signs v_length] : List va_W).flatten (some (.int (b2i r))) := by
  refine px_startP (by decide +kernel) (Nat.le_of_ble_eq_true rfl) ?_
  intro p e s m args below meth c R Q A ls hC hQ
  obtain ⟨hx, hb, hr, hml, hts, hown, hlocks, hR, hK, hN, hP, hD, hA, hl, hin⟩ := hC
  have hl : lv_has ls 2 [(0, .ref (a 0)), (1, .int x1)] := hl
  unfold f4_has at h
  refine lv_iload_n hx hb dX4_has_0 rfl (lv_at hl 1 rfl) ?_
  refine lv_if_lt (tgt := 22) hx hb dX4_has_1 (by decide) (fun c1 => ?_) (fun c1 => ?_)
  · rw [if_pos c1] at h
    refine lv_iconst (v := (nI 0)) hx hb dX4_has_22 (by decide) ?_
    cases h
    refine W.eq (g2 := F0 m 23 ls [.int (b2i false)]) rfl ?_
    exact px_ePz (b2i_n _) hQ hx hb hr hlocks dX4_has_23
  · rw [if_neg c1] at h
    refine lv_iload_n hx hb dX4_has_4 rfl (lv_at hl 1 rfl) ?_
    refine lv_aload_n hx hb dX4_has_5 rfl (lv_at hl 0 rfl) ?_
    refine va_get (D := E.1) (ci := 4) (v := .int v_length) (C := RX4) (T := TX4) (N := 2) hx hb hts iX4 hown hK hP 0 rfl rfl 1 (by decide) (hts _ q208) (fun _ h9 => h9) rfl dX4_has_6 ?_
    refine lv_icmp_ge (tgt := 22) hx hb dX4_has_9 (by decide) (fun c2 => ?_) (fun c2 => ?_)
    · rw [if_pos c2] at h
      refine lv_iconst (v := (nI 0)) hx hb dX4_has_22 (by decide) ?_
      cases h
      refine W.eq (g2 := F0 m 23 ls [.int (b2i false)]) rfl ?_
      exact px_ePz (b2i_n _) hQ hx hb hr hlocks dX4_has_23
    · rw [if_neg c2] at h
      refine lv_iload_n hx hb dX4_has_12 rfl (lv_at hl 1 rfl) ?_
      refine lv_bipush (v := (nI 24)) hx hb dX4_has_13 (by decide) ?_
      refine lv_icmp_ge (tgt := 22) hx hb dX4_has_15 (by decide) (fun c3 => ?_) (fun c3 => ?_)
      · rw [if_pos c3] at h
        refine lv_iconst (v := (nI 0)) hx hb dX4_has_22 (by decide) ?_
        cases h
        refine W.eq (g2 := F0 m 23 ls [.int (b2i false)]) rfl ?_
        exact px_ePz (b2i_n _) hQ hx hb hr hlocks dX4_has_23
      · rw [if_neg c3] at h
        refine lv_iconst (v := (nI 1)) hx hb dX4_has_18 (by decide) ?_
        refine lv_goto (tgt := 23) hx hb dX4_has_19 (by decide) ?_
        cases h
        refine W.eq (g2 := F0 m 23 ls [.int (b2i true)]) rfl ?_
        exact px_ePz (b2i_n _) hQ hx hb hr hlocks dX4_has_23
def f4_signAt (x1 : Int32) (v_signs : AI) (v_length : Int32) : Option (Int32) := ((f4_has (x1) (v_length)).bind fun r1 => (if (b2i r1) = 0 then (some (nI 32)) else (if inb x1 24 = true then (some (v_signs (x1).toNatClampNeg)) else none)))
set_option maxHeartbeats 4000000 in
set_option maxRecDepth 100000 in
theorem c4_signAt (l : Launch) (E : PE) (a : Nat → Nat)  (x1 : Int32) (v_signs : AI) (v_length : Int32) (r : Int32) (h : f4_signAt x1 v_signs v_length = some r) : MP l yX4_signAt cX4_signAt 2 (some .char) { frames := 1, cells := 0, slots := 0, locals := 21 } E [.ref (a 0), .int x1] ([gX4 E a v_signs v_length] : List va_W).flatten (some (.int (ch r))) := by
  refine px_startP (by decide +kernel) (Nat.le_of_ble_eq_true rfl) ?_
  intro p e s m args below meth c R Q A ls hC hQ
  obtain ⟨hx, hb, hr, hml, hts, hown, hlocks, hR, hK, hN, hP, hD, hA, hl, hin⟩ := hC
  have hl : lv_has ls 2 [(0, .ref (a 0)), (1, .int x1)] := hl
  unfold f4_signAt at h
  refine lv_aload_n hx hb dX4_signAt_0 rfl (lv_at hl 0 rfl) ?_
  refine lv_iload_n hx hb dX4_signAt_1 rfl (lv_at hl 1 rfl) ?_
  obtain ⟨r1, hr2, h⟩ := ob h
  refine px_Vp (As := [.int x1]) (rest := []) (gs := ([gX4 E a v_signs v_length] : List va_W)) (gc := ([gX4 E a v_signs v_length] : List va_W)) ⟨hx, hb, hml, hown, hts⟩ (c4_has l E a  (x1) (v_signs) (v_length) r1 hr2) (cwV 1 hts (ws_v q1098 q1090 q1091 q26 q1092) rfl rfl rfl hdV_X4_has (by rw [hR]; exact ⟨Nat.le_of_ble_eq_true rfl, Nat.le_of_ble_eq_true rfl⟩)) hK hN hP hD [0] rfl (by decide) 0 4 rfl rfl rfl rfl hl.1 rfl (Nat.le_of_ble_eq_true rfl) dX4_signAt_2 (by rw [hR]; exact ⟨Nat.le_of_ble_eq_true rfl, Nat.le_of_ble_eq_true rfl⟩) ?_
  refine W.eq (g2 := F0 m 5 ls [.int (b2i r1)]) rfl ?_
  refine lv_if_eq (tgt := 17) hx hb dX4_signAt_5 (by decide) (fun c3 => ?_) (fun c3 => ?_)
  · rw [if_pos c3] at h
    refine lv_bipush (v := (nI 32)) hx hb dX4_signAt_17 (by decide) ?_
    cases h
    refine W.eq (g2 := F0 m 19 ls [.int (ch (nI 32))]) rfl ?_
    exact px_ePz (ch_n _) hQ hx hb hr hlocks dX4_signAt_19
  · rw [if_neg c3] at h
    refine lv_aload_n hx hb dX4_signAt_8 rfl (lv_at hl 0 rfl) ?_
    refine va_get (D := E.1) (ci := 4) (v := .ref (a 1)) (C := RX4) (T := TX4) (N := 2) hx hb hts iX4 hown hK hP 0 rfl rfl 0 (by decide) (hts _ q207) (fun _ h9 => h9) rfl dX4_signAt_9 ?_
    refine lv_iload_n hx hb dX4_signAt_12 rfl (lv_at hl 1 rfl) ?_
    obtain ⟨i4, h⟩ := o_t h
    refine va_cald (f := fun j => ch (v_signs j)) hx hb hK hP 1 1 rfl rfl (inb_in i4) dX4_signAt_13 ?_
    refine W.eq (g2 := F0 m 14 ls [.int (ch (v_signs (x1).toNatClampNeg))]) rfl ?_
    refine lv_goto (tgt := 19) hx hb dX4_signAt_14 (by decide) ?_
    cases h
    exact px_ePz (ch_n _) hQ hx hb hr hlocks dX4_signAt_19
def f4_letterOf (x0 : Int32)  : Option (Int32) := (if x0 = (nI 1) then (some (nI 109)) else (if x0 = (nI 2) then (some (nI 112)) else (some (nI 101))))
set_option maxHeartbeats 4000000 in
set_option maxRecDepth 100000 in
theorem c4_letterOf (l : Launch) (E : PE)   (x0 : Int32)  (r : Int32) (h : f4_letterOf x0 = some r) : MP l yX4_letterOf cX4_letterOf 1 (some .char) { frames := 0, cells := 0, slots := 0, locals := 0 } E [.int x0] ([] : List va_W).flatten (some (.int (ch r))) := by
  refine px_startP (by decide +kernel) (Nat.le_of_ble_eq_true rfl) ?_
  intro p e s m args below meth c R Q A ls hC hQ
  obtain ⟨hx, hb, hr, hml, hts, hown, hlocks, hR, hK, hN, hP, hD, hA, hl, hin⟩ := hC
  have hl : lv_has ls 1 [(0, .int x0)] := hl
  unfold f4_letterOf at h
  refine lv_iload_n hx hb dX4_letterOf_0 rfl (lv_at hl 0 rfl) ?_
  refine lv_iconst (v := (nI 1)) hx hb dX4_letterOf_1 (by decide) ?_
  refine lv_icmp_ne (tgt := 8) hx hb dX4_letterOf_2 (by decide) (fun c1 => ?_) (fun c1 => ?_)
  · rw [if_neg c1] at h
    refine lv_iload_n hx hb dX4_letterOf_8 rfl (lv_at hl 0 rfl) ?_
    refine lv_iconst (v := (nI 2)) hx hb dX4_letterOf_9 (by decide) ?_
    refine lv_icmp_ne (tgt := 18) hx hb dX4_letterOf_10 (by decide) (fun c2 => ?_) (fun c2 => ?_)
    · rw [if_neg c2] at h
      refine lv_bipush (v := (nI 101)) hx hb dX4_letterOf_18 (by decide) ?_
      cases h
      refine W.eq (g2 := F0 m 20 ls [.int (ch (nI 101))]) rfl ?_
      exact px_ePz (ch_n _) hQ hx hb hr hlocks dX4_letterOf_20
    · rw [if_pos c2] at h
      refine lv_bipush (v := (nI 112)) hx hb dX4_letterOf_13 (by decide) ?_
      refine lv_goto (tgt := 20) hx hb dX4_letterOf_15 (by decide) ?_
      cases h
      refine W.eq (g2 := F0 m 20 ls [.int (ch (nI 112))]) rfl ?_
      exact px_ePz (ch_n _) hQ hx hb hr hlocks dX4_letterOf_20
  · rw [if_pos c1] at h
    refine lv_bipush (v := (nI 109)) hx hb dX4_letterOf_5 (by decide) ?_
    cases h
    refine W.eq (g2 := F0 m 7 ls [.int (ch (nI 109))]) rfl ?_
    exact px_ePz (ch_n _) hQ hx hb hr hlocks dX4_letterOf_7
def f4_addSign (x1 : Int32) (v_signs : AI) (v_length : Int32) : Option (AI × Int32) := (if v_length < 0 then (some (v_signs, v_length)) else (if (nI 24) ≤ v_length then (some (v_signs, v_length)) else (if inb v_length 24 = true then (lt (upd v_signs (v_length).toNatClampNeg (ch x1)) fun u4 => (lt (v_length + (nI 1)) fun u6 => (some (u4, u6)))) else none)))
set_option maxHeartbeats 4000000 in
set_option maxRecDepth 100000 in
theorem c4_addSign (l : Launch) (E : PE) (a : Nat → Nat)  (x1 : Int32) (v_signs : AI) (v_length : Int32) (z_this_signs : AI) (z_this_length : Int32) (h : f4_addSign x1 v_signs v_length = some (z_this_signs, z_this_length)) : MW l yX4_addSign cX4_addSign 2 none { frames := 0, cells := 0, slots := 0, locals := 0 } E [.ref (a 0), .int (ch x1)] ([gX4 E a v_signs v_length] : List va_W).flatten 0 0 none ([gX4 E a z_this_signs z_this_length] : List va_W).flatten := by
  refine px_startW (by decide +kernel) (Nat.le_of_ble_eq_true rfl) ?_
  intro p e s m args below meth c R Q A ls hC hA0 hQ
  obtain ⟨hx, hb, hr, hml, hts, hown, hlocks, hR, hK, hN, hP, hD, hA, hl, hin⟩ := hC
  have hl : lv_has ls 2 [(0, .ref (a 0)), (1, .int (ch x1))] := hl
  suffices key : ∀ (H : Heap) (locs : List Loc), va_P E.1 vwCl ([gX4 E a v_signs v_length] : List va_W).flatten H → va_S A s.heap H locs → W p l e R s m args below meth c H locs 0 0 Q (F0 m 0 ls []) from key s.heap [] hP va_S.rf
  unfold f4_addSign at h
  intro H locs hP hS
  refine lv_aload_n hx hb dX4_addSign_0 rfl (lv_at hl 0 rfl) ?_
  refine va_get (D := E.1) (ci := 4) (v := .int v_length) (C := RX4) (T := TX4) (N := 2) hx hb hts iX4 hown hK hP 0 rfl rfl 1 (by decide) (hts _ q208) (fun _ h9 => h9) rfl dX4_addSign_1 ?_
  refine lv_if_lt (tgt := 36) hx hb dX4_addSign_4 (by decide) (fun c1 => ?_) (fun c1 => ?_)
  · rw [if_pos c1] at h
    cases h
    exact px_eWv hA0 hQ hP hD hS hx hb hr hlocks dX4_addSign_36
  · rw [if_neg c1] at h
    refine lv_aload_n hx hb dX4_addSign_7 rfl (lv_at hl 0 rfl) ?_
    refine va_get (D := E.1) (ci := 4) (v := .int v_length) (C := RX4) (T := TX4) (N := 2) hx hb hts iX4 hown hK hP 0 rfl rfl 1 (by decide) (hts _ q208) (fun _ h9 => h9) rfl dX4_addSign_8 ?_
    refine lv_bipush (v := (nI 24)) hx hb dX4_addSign_11 (by decide) ?_
    refine lv_icmp_ge (tgt := 36) hx hb dX4_addSign_13 (by decide) (fun c2 => ?_) (fun c2 => ?_)
    · rw [if_pos c2] at h
      cases h
      exact px_eWv hA0 hQ hP hD hS hx hb hr hlocks dX4_addSign_36
    · rw [if_neg c2] at h
      refine lv_aload_n hx hb dX4_addSign_16 rfl (lv_at hl 0 rfl) ?_
      refine va_get (D := E.1) (ci := 4) (v := .ref (a 1)) (C := RX4) (T := TX4) (N := 2) hx hb hts iX4 hown hK hP 0 rfl rfl 0 (by decide) (hts _ q207) (fun _ h9 => h9) rfl dX4_addSign_17 ?_
      refine lv_aload_n hx hb dX4_addSign_20 rfl (lv_at hl 0 rfl) ?_
      refine va_get (D := E.1) (ci := 4) (v := .int v_length) (C := RX4) (T := TX4) (N := 2) hx hb hts iX4 hown hK hP 0 rfl rfl 1 (by decide) (hts _ q208) (fun _ h9 => h9) rfl dX4_addSign_21 ?_
      refine lv_iload_n hx hb dX4_addSign_24 rfl (lv_at hl 1 rfl) ?_
      obtain ⟨i3, h⟩ := o_t h
      refine va_cast (f := fun j => ch (v_signs j)) hx hb hK hP hD hS 1 1 rfl rfl (inb_in i3) dX4_addSign_25 (fun H locs hP hD hS => ?_)
      rw [ch_u] at hP hD
      have hP : va_P E.1 vwCl ([gX4 E a (upd v_signs (v_length).toNatClampNeg (ch x1)) v_length] : List va_W).flatten H := hP
      have hD : va_D A ([gX4 E a (upd v_signs (v_length).toNatClampNeg (ch x1)) v_length] : List va_W).flatten := hD
      obtain ⟨u4, e5, h⟩ := lt_e h
      rw [← e5] at hP hD
      refine lv_aload_n hx hb dX4_addSign_26 rfl (lv_at hl 0 rfl) ?_
      refine lv_dup hx hb dX4_addSign_27 rfl ?_
      refine va_get (D := E.1) (ci := 4) (v := .int v_length) (C := RX4) (T := TX4) (N := 2) hx hb hts iX4 hown hK hP 0 rfl rfl 1 (by decide) (hts _ q208) (fun _ h9 => h9) rfl dX4_addSign_28 ?_
      refine lv_iconst (v := (nI 1)) hx hb dX4_addSign_31 (by decide) ?_
      refine lv_iadd hx hb dX4_addSign_32 ?_
      refine va_put (D := E.1) (ci := 4) (v := .int (v_length + (nI 1))) (ty := .int) (C := RX4) (T := TX4) (N := 2) hx hb hts iX4 tyX4 tyX4_ok nmX4 hown hK hP hD hS 0 rfl rfl 1 (by decide) (hts _ q208) (fun _ h9 => h9) rfl (tyX4_ok 1 (by decide)) rfl rfl (Nat.le_of_ble_eq_true rfl) dX4_addSign_33 (fun H locs hP hD hS => ?_)
      have hP : va_P E.1 vwCl ([gX4 E a u4 (v_length + (nI 1))] : List va_W).flatten H := hP
      have hD : va_D A ([gX4 E a u4 (v_length + (nI 1))] : List va_W).flatten := hD
      obtain ⟨u6, e7, h⟩ := lt_e h
      rw [← e7] at hP hD
      cases h
      exact px_eWv hA0 hQ hP hD hS hx hb hr hlocks dX4_addSign_36
def f4_addNumber (x1 : Int32) (v_signs : AI) (v_length : Int32) : Option (AI × Int32) := (if x1 < (nI 10) then ((f4_addSign (((nI 48) + (x1 - x1 / (nI 10) * (nI 10)))) (v_signs) (v_length)).bind fun (w2, w3) => (some (w2, w3))) else ((f4_addSign (((nI 48) + ((x1 / (nI 10)) - (x1 / (nI 10)) / (nI 10) * (nI 10)))) (v_signs) (v_length)).bind fun (w5, w6) => ((f4_addSign (((nI 48) + (x1 - x1 / (nI 10) * (nI 10)))) (w5) (w6)).bind fun (w8, w9) => (some (w8, w9)))))
set_option maxHeartbeats 4000000 in
set_option maxRecDepth 100000 in
theorem c4_addNumber (l : Launch) (E : PE) (a : Nat → Nat)  (x1 : Int32) (v_signs : AI) (v_length : Int32) (z_this_signs : AI) (z_this_length : Int32) (h : f4_addNumber x1 v_signs v_length = some (z_this_signs, z_this_length)) : MW l yX4_addNumber cX4_addNumber 2 none { frames := 1, cells := 0, slots := 0, locals := 21 } E [.ref (a 0), .int x1] ([gX4 E a v_signs v_length] : List va_W).flatten 0 0 none ([gX4 E a z_this_signs z_this_length] : List va_W).flatten := by
  refine px_startW (by decide +kernel) (Nat.le_of_ble_eq_true rfl) ?_
  intro p e s m args below meth c R Q A ls hC hA0 hQ
  obtain ⟨hx, hb, hr, hml, hts, hown, hlocks, hR, hK, hN, hP, hD, hA, hl, hin⟩ := hC
  have hl : lv_has ls 2 [(0, .ref (a 0)), (1, .int x1)] := hl
  suffices key : ∀ (H : Heap) (locs : List Loc), va_P E.1 vwCl ([gX4 E a v_signs v_length] : List va_W).flatten H → va_S A s.heap H locs → W p l e R s m args below meth c H locs 0 0 Q (F0 m 0 ls []) from key s.heap [] hP va_S.rf
  unfold f4_addNumber at h
  intro H locs hP hS
  refine lv_iload_n hx hb dX4_addNumber_0 rfl (lv_at hl 1 rfl) ?_
  refine lv_bipush (v := (nI 10)) hx hb dX4_addNumber_1 (by decide) ?_
  refine lv_icmp_lt (tgt := 21) hx hb dX4_addNumber_3 (by decide) (fun c1 => ?_) (fun c1 => ?_)
  · rw [if_pos c1] at h
    refine lv_aload_n hx hb dX4_addNumber_21 rfl (lv_at hl 0 rfl) ?_
    refine lv_bipush (v := (nI 48)) hx hb dX4_addNumber_22 (by decide) ?_
    refine lv_iload_n hx hb dX4_addNumber_24 rfl (lv_at hl 1 rfl) ?_
    refine lv_bipush (v := (nI 10)) hx hb dX4_addNumber_25 (by decide) ?_
    refine lv_irem hx hb dX4_addNumber_27 (by decide) ?_
    refine lv_iadd hx hb dX4_addNumber_28 ?_
    refine lv_i2c (v := (ch ((nI 48) + (x1 - x1 / (nI 10) * (nI 10))))) hx hb dX4_addNumber_29 rfl ?_
    obtain ⟨⟨w2, w3⟩, hr4, h⟩ := ob h
    dsimp only at h
    refine px_V (As := [.int (ch ((nI 48) + (x1 - x1 / (nI 10) * (nI 10))))]) (rest := []) (gs := ([gX4 E a v_signs v_length] : List va_W)) (gr := ([] : List va_W)) (gc := ([gX4 E a v_signs v_length] : List va_W)) (g1 := ([gX4 E a w2 w3] : List va_W)) (g2 := ([gX4 E a w2 w3] : List va_W)) ⟨hx, hb, hml, hown, hts⟩ (c4_addSign l E a  (((nI 48) + (x1 - x1 / (nI 10) * (nI 10)))) (v_signs) (v_length) w2 w3 hr4) (cwV 1 hts (ws_v q1073 q1075 q16 q26 q1076) rfl rfl rfl hdV_X4_addSign (by rw [hR]; exact ⟨Nat.le_of_ble_eq_true rfl, Nat.le_of_ble_eq_true rfl⟩)) hK hN hP hD hS hA [] [0] [0] rfl rfl (by decide) (by decide) rfl (by decide) 0 4 rfl rfl rfl rfl hl.1 rfl (Nat.le_of_ble_eq_true rfl) dX4_addNumber_30 (by rw [hR]; exact ⟨Nat.le_of_ble_eq_true rfl, Nat.le_of_ble_eq_true rfl⟩) (fun H locs hP hD hS => ?_)
    refine W.eq (g2 := F0 m 33 ls []) rfl ?_
    cases h
    exact px_eWv hA0 hQ hP hD hS hx hb hr hlocks dX4_addNumber_33
  · rw [if_neg c1] at h
    refine lv_aload_n hx hb dX4_addNumber_6 rfl (lv_at hl 0 rfl) ?_
    refine lv_bipush (v := (nI 48)) hx hb dX4_addNumber_7 (by decide) ?_
    refine lv_iload_n hx hb dX4_addNumber_9 rfl (lv_at hl 1 rfl) ?_
    refine lv_bipush (v := (nI 10)) hx hb dX4_addNumber_10 (by decide) ?_
    refine lv_idiv hx hb dX4_addNumber_12 (by decide) ?_
    refine lv_bipush (v := (nI 10)) hx hb dX4_addNumber_13 (by decide) ?_
    refine lv_irem hx hb dX4_addNumber_15 (by decide) ?_
    refine lv_iadd hx hb dX4_addNumber_16 ?_
    refine lv_i2c (v := (ch ((nI 48) + ((x1 / (nI 10)) - (x1 / (nI 10)) / (nI 10) * (nI 10))))) hx hb dX4_addNumber_17 rfl ?_
    obtain ⟨⟨w5, w6⟩, hr7, h⟩ := ob h
    dsimp only at h
    refine px_V (As := [.int (ch ((nI 48) + ((x1 / (nI 10)) - (x1 / (nI 10)) / (nI 10) * (nI 10))))]) (rest := []) (gs := ([gX4 E a v_signs v_length] : List va_W)) (gr := ([] : List va_W)) (gc := ([gX4 E a v_signs v_length] : List va_W)) (g1 := ([gX4 E a w5 w6] : List va_W)) (g2 := ([gX4 E a w5 w6] : List va_W)) ⟨hx, hb, hml, hown, hts⟩ (c4_addSign l E a  (((nI 48) + ((x1 / (nI 10)) - (x1 / (nI 10)) / (nI 10) * (nI 10)))) (v_signs) (v_length) w5 w6 hr7) (cwV 1 hts (ws_v q1073 q1075 q16 q26 q1076) rfl rfl rfl hdV_X4_addSign (by rw [hR]; exact ⟨Nat.le_of_ble_eq_true rfl, Nat.le_of_ble_eq_true rfl⟩)) hK hN hP hD hS hA [] [0] [0] rfl rfl (by decide) (by decide) rfl (by decide) 0 4 rfl rfl rfl rfl hl.1 rfl (Nat.le_of_ble_eq_true rfl) dX4_addNumber_18 (by rw [hR]; exact ⟨Nat.le_of_ble_eq_true rfl, Nat.le_of_ble_eq_true rfl⟩) (fun H locs hP hD hS => ?_)
    refine W.eq (g2 := F0 m 21 ls []) rfl ?_
    refine lv_aload_n hx hb dX4_addNumber_21 rfl (lv_at hl 0 rfl) ?_
    refine lv_bipush (v := (nI 48)) hx hb dX4_addNumber_22 (by decide) ?_
    refine lv_iload_n hx hb dX4_addNumber_24 rfl (lv_at hl 1 rfl) ?_
    refine lv_bipush (v := (nI 10)) hx hb dX4_addNumber_25 (by decide) ?_
    refine lv_irem hx hb dX4_addNumber_27 (by decide) ?_
    refine lv_iadd hx hb dX4_addNumber_28 ?_
    refine lv_i2c (v := (ch ((nI 48) + (x1 - x1 / (nI 10) * (nI 10))))) hx hb dX4_addNumber_29 rfl ?_
    obtain ⟨⟨w8, w9⟩, hr10, h⟩ := ob h
    dsimp only at h
    refine px_V (As := [.int (ch ((nI 48) + (x1 - x1 / (nI 10) * (nI 10))))]) (rest := []) (gs := ([gX4 E a w5 w6] : List va_W)) (gr := ([] : List va_W)) (gc := ([gX4 E a w5 w6] : List va_W)) (g1 := ([gX4 E a w8 w9] : List va_W)) (g2 := ([gX4 E a w8 w9] : List va_W)) ⟨hx, hb, hml, hown, hts⟩ (c4_addSign l E a  (((nI 48) + (x1 - x1 / (nI 10) * (nI 10)))) (w5) (w6) w8 w9 hr10) (cwV 1 hts (ws_v q1073 q1075 q16 q26 q1076) rfl rfl rfl hdV_X4_addSign (by rw [hR]; exact ⟨Nat.le_of_ble_eq_true rfl, Nat.le_of_ble_eq_true rfl⟩)) hK hN hP hD hS hA [] [0] [0] rfl rfl (by decide) (by decide) rfl (by decide) 0 4 rfl rfl rfl rfl hl.1 rfl (Nat.le_of_ble_eq_true rfl) dX4_addNumber_30 (by rw [hR]; exact ⟨Nat.le_of_ble_eq_true rfl, Nat.le_of_ble_eq_true rfl⟩) (fun H locs hP hD hS => ?_)
    refine W.eq (g2 := F0 m 33 ls []) rfl ?_
    cases h
    exact px_eWv hA0 hQ hP hD hS hx hb hr hlocks dX4_addNumber_33
def f4_write_L36 (x2 : Int32) (φ_forest : Fo) : Nat → Int32 → AI → Int32 → Option (Int32 × AI × Int32)
  | 0, _, _, _ => none
  | n + 1, x3, v_signs, v_length => (if (nI 6) ≤ x3 then (some (v_length, v_signs, v_length)) else ((f4_addSign ((nI 32)) (v_signs) (v_length)).bind fun (w18, w19) => ((f1_amountIn (x2) (x3) (φ_forest)).bind fun r21 => ((f4_addNumber (r21) (w18) (w19)).bind fun (w23, w24) => (f4_write_L36 x2 φ_forest n ((x3 + nI 1)) (w23) (w24))))))
def f4_write (x2 : Int32) (v_signs : AI) (v_length : Int32) (φ_forest : Fo) : Option (Int32 × AI × Int32) := ((f4_addNumber (x2) (v_signs) ((nI 0))).bind fun (w1, w2) => ((f4_addSign ((nI 32)) (w1) (w2)).bind fun (w4, w5) => ((f1_kindOf (x2) (φ_forest)).bind fun r7 => ((f4_letterOf (r7)).bind fun r9 => ((f4_addSign (r9) (w4) (w5)).bind fun (w11, w12) => ((f4_addSign ((nI 58)) (w11) (w12)).bind fun (w14, w15) => (f4_write_L36 x2 φ_forest fuel ((nI 0)) (w14) (w15))))))))
set_option maxHeartbeats 4000000 in
set_option maxRecDepth 100000 in
theorem c4_write (l : Launch) (E : PE) (a : Nat → Nat) (a_forest : Nat → Nat)  (x2 : Int32) (v_signs : AI) (v_length : Int32) (φ_forest : Fo) (r : Int32) (z_this_signs : AI) (z_this_length : Int32) (h : f4_write x2 v_signs v_length φ_forest = some (r, z_this_signs, z_this_length)) : MW l yX4_write cX4_write 4 (some .int) { frames := 2, cells := 0, slots := 0, locals := 42 } E [.ref (a 0), .ref (a_forest 0), .int x2] ([gX4 E a v_signs v_length, gX1 E a_forest φ_forest] : List va_W).flatten 0 0 (some (.int r)) ([gX4 E a z_this_signs z_this_length, gX1 E a_forest φ_forest] : List va_W).flatten := by
  refine px_startW (by decide +kernel) (Nat.le_of_ble_eq_true rfl) ?_
  intro p e s m args below meth c R Q A ls hC hA0 hQ
  obtain ⟨hx, hb, hr, hml, hts, hown, hlocks, hR, hK, hN, hP, hD, hA, hl, hin⟩ := hC
  have hl : lv_has ls 4 [(0, .ref (a 0)), (1, .ref (a_forest 0)), (2, .int x2)] := hl
  suffices key : ∀ (H : Heap) (locs : List Loc), va_P E.1 vwCl ([gX4 E a v_signs v_length, gX1 E a_forest φ_forest] : List va_W).flatten H → va_S A s.heap H locs → W p l e R s m args below meth c H locs 0 0 Q (F0 m 0 ls []) from key s.heap [] hP va_S.rf
  unfold f4_write at h
  have L36 : ∀ (n : Nat) (x3 : Int32) (v_signs : AI) (v_length : Int32) (H : Heap) (locs : List Loc) (ls : Array Slot), va_P E.1 vwCl ([gX4 E a v_signs v_length, gX1 E a_forest φ_forest] : List va_W).flatten H → va_D A ([gX4 E a v_signs v_length, gX1 E a_forest φ_forest] : List va_W).flatten → va_S A s.heap H locs → lv_has ls 4 [(0, .ref (a 0)), (1, .ref (a_forest 0)), (2, .int x2), (3, .int x3)] → f4_write_L36 x2 φ_forest n x3 v_signs v_length = some (r, z_this_signs, z_this_length) → W p l e R s m args below meth c H locs 0 0 Q (F0 m 36 ls []) := by
    intro n
    induction n with
    | zero =>
      intro x3 v_signs v_length H locs ls hP hD hS hl h
      unfold f4_write_L36 at h; cases h
    | succ n ih =>
      intro x3 v_signs v_length H locs ls hP hD hS hl h
      unfold f4_write_L36 at h
      refine lv_iload_n hx hb dX4_write_36 rfl (lv_at hl 3 rfl) ?_
      refine lv_bipush (v := (nI 6)) hx hb dX4_write_37 (by decide) ?_
      refine lv_icmp_ge (tgt := 64) hx hb dX4_write_39 (by decide) (fun c17 => ?_) (fun c17 => ?_)
      · rw [if_pos c17] at h
        refine lv_aload_n hx hb dX4_write_64 rfl (lv_at hl 0 rfl) ?_
        refine va_get (D := E.1) (ci := 4) (v := .int v_length) (C := RX4) (T := TX4) (N := 2) hx hb hts iX4 hown hK hP 0 rfl rfl 1 (by decide) (hts _ q208) (fun _ h9 => h9) rfl dX4_write_65 ?_
        cases h
        exact px_eWi hA0 hQ hP hD hS hx hb hr hlocks dX4_write_68
      · rw [if_neg c17] at h
        refine lv_aload_n hx hb dX4_write_42 rfl (lv_at hl 0 rfl) ?_
        refine lv_bipush (v := (nI 32)) hx hb dX4_write_43 (by decide) ?_
        obtain ⟨⟨w18, w19⟩, hr20, h⟩ := ob h
        dsimp only at h
        refine px_V (As := [.int (ch (nI 32))]) (rest := []) (gs := ([gX4 E a v_signs v_length, gX1 E a_forest φ_forest] : List va_W)) (gr := ([gX1 E a_forest φ_forest] : List va_W)) (gc := ([gX4 E a v_signs v_length] : List va_W)) (g1 := ([gX4 E a w18 w19] : List va_W)) (g2 := ([gX4 E a w18 w19, gX1 E a_forest φ_forest] : List va_W)) ⟨hx, hb, hml, hown, hts⟩ (c4_addSign l E a  ((nI 32)) (v_signs) (v_length) w18 w19 hr20) (cwV 1 hts (ws_v q1073 q1075 q16 q26 q1076) rfl rfl rfl hdV_X4_addSign (by rw [hR]; exact ⟨Nat.le_of_ble_eq_true rfl, Nat.le_of_ble_eq_true rfl⟩)) hK hN hP hD hS hA [1] [0] [1, 0] rfl rfl (by decide) (by decide) rfl (by decide) 0 4 rfl rfl rfl rfl hl.1 rfl (Nat.le_of_ble_eq_true rfl) dX4_write_45 (by rw [hR]; exact ⟨Nat.le_of_ble_eq_true rfl, Nat.le_of_ble_eq_true rfl⟩) (fun H locs hP hD hS => ?_)
        refine W.eq (g2 := F0 m 48 ls []) rfl ?_
        refine lv_aload_n hx hb dX4_write_48 rfl (lv_at hl 0 rfl) ?_
        refine lv_aload_n hx hb dX4_write_49 rfl (lv_at hl 1 rfl) ?_
        refine lv_iload_n hx hb dX4_write_50 rfl (lv_at hl 2 rfl) ?_
        refine lv_iload_n hx hb dX4_write_51 rfl (lv_at hl 3 rfl) ?_
        obtain ⟨r21, hr22, h⟩ := ob h
        refine px_Vp (As := [.int x2, .int x3]) (rest := [.ref (a 0)]) (gs := ([gX4 E a w18 w19, gX1 E a_forest φ_forest] : List va_W)) (gc := ([gX1 E a_forest φ_forest] : List va_W)) ⟨hx, hb, hml, hown, hts⟩ (c1_amountIn l E a_forest  (x2) (x3) (φ_forest) r21 hr22) (cwV 2 hts (ws_v q1081 q299 q300 q19 q301) rfl rfl rfl hdV_X1_amountIn (by rw [hR]; exact ⟨Nat.le_of_ble_eq_true rfl, Nat.le_of_ble_eq_true rfl⟩)) hK hN hP hD [1] rfl (by decide) 0 1 rfl rfl rfl rfl hl.1 rfl (Nat.le_of_ble_eq_true rfl) dX4_write_52 (by rw [hR]; exact ⟨Nat.le_of_ble_eq_true rfl, Nat.le_of_ble_eq_true rfl⟩) ?_
        refine W.eq (g2 := F0 m 55 ls [.int r21, .ref (a 0)]) rfl ?_
        obtain ⟨⟨w23, w24⟩, hr25, h⟩ := ob h
        dsimp only at h
        refine px_V (As := [.int r21]) (rest := []) (gs := ([gX4 E a w18 w19, gX1 E a_forest φ_forest] : List va_W)) (gr := ([gX1 E a_forest φ_forest] : List va_W)) (gc := ([gX4 E a w18 w19] : List va_W)) (g1 := ([gX4 E a w23 w24] : List va_W)) (g2 := ([gX4 E a w23 w24, gX1 E a_forest φ_forest] : List va_W)) ⟨hx, hb, hml, hown, hts⟩ (c4_addNumber l E a  (r21) (w18) (w19) w23 w24 hr25) (cwV 1 hts (ws_v q1069 q1071 q15 q26 q1072) rfl rfl rfl hdV_X4_addNumber (by rw [hR]; exact ⟨Nat.le_of_ble_eq_true rfl, Nat.le_of_ble_eq_true rfl⟩)) hK hN hP hD hS hA [1] [0] [1, 0] rfl rfl (by decide) (by decide) rfl (by decide) 0 4 rfl rfl rfl rfl hl.1 rfl (Nat.le_of_ble_eq_true rfl) dX4_write_55 (by rw [hR]; exact ⟨Nat.le_of_ble_eq_true rfl, Nat.le_of_ble_eq_true rfl⟩) (fun H locs hP hD hS => ?_)
        refine W.eq (g2 := F0 m 58 ls []) rfl ?_
        refine lv_iinc (v := (x3 + nI 1)) (lv' := [(3, .int (x3 + nI 1)), (0, .ref (a 0)), (1, .ref (a_forest 0)), (2, .int x2)]) hx hb dX4_write_58 hl (k := 3) rfl rfl (by decide) rfl (fun ls hl => ?_)
        refine lv_goto (tgt := 36) hx hb dX4_write_61 (by decide) ?_
        exact ih ((x3 + nI 1)) (w23) (w24) H locs ls hP hD hS (lv_sub hl [1, 2, 3, 0] rfl) h
  intro H locs hP hS
  refine lv_aload_n hx hb dX4_write_0 rfl (lv_at hl 0 rfl) ?_
  refine lv_iconst (v := (nI 0)) hx hb dX4_write_1 (by decide) ?_
  refine va_put (D := E.1) (ci := 4) (v := .int (nI 0)) (ty := .int) (C := RX4) (T := TX4) (N := 2) hx hb hts iX4 tyX4 tyX4_ok nmX4 hown hK hP hD hS 0 rfl rfl 1 (by decide) (hts _ q208) (fun _ h9 => h9) rfl (tyX4_ok 1 (by decide)) rfl rfl (Nat.le_of_ble_eq_true rfl) dX4_write_2 (fun H locs hP hD hS => ?_)
  have hP : va_P E.1 vwCl ([gX4 E a v_signs (nI 0), gX1 E a_forest φ_forest] : List va_W).flatten H := hP
  have hD : va_D A ([gX4 E a v_signs (nI 0), gX1 E a_forest φ_forest] : List va_W).flatten := hD
  refine lv_aload_n hx hb dX4_write_5 rfl (lv_at hl 0 rfl) ?_
  refine lv_iload_n hx hb dX4_write_6 rfl (lv_at hl 2 rfl) ?_
  obtain ⟨⟨w1, w2⟩, hr3, h⟩ := ob h
  dsimp only at h
  refine px_V (As := [.int x2]) (rest := []) (gs := ([gX4 E a v_signs (nI 0), gX1 E a_forest φ_forest] : List va_W)) (gr := ([gX1 E a_forest φ_forest] : List va_W)) (gc := ([gX4 E a v_signs (nI 0)] : List va_W)) (g1 := ([gX4 E a w1 w2] : List va_W)) (g2 := ([gX4 E a w1 w2, gX1 E a_forest φ_forest] : List va_W)) ⟨hx, hb, hml, hown, hts⟩ (c4_addNumber l E a  (x2) (v_signs) ((nI 0)) w1 w2 hr3) (cwV 1 hts (ws_v q1069 q1071 q15 q26 q1072) rfl rfl rfl hdV_X4_addNumber (by rw [hR]; exact ⟨Nat.le_of_ble_eq_true rfl, Nat.le_of_ble_eq_true rfl⟩)) hK hN hP hD hS hA [1] [0] [1, 0] rfl rfl (by decide) (by decide) rfl (by decide) 0 4 rfl rfl rfl rfl hl.1 rfl (Nat.le_of_ble_eq_true rfl) dX4_write_7 (by rw [hR]; exact ⟨Nat.le_of_ble_eq_true rfl, Nat.le_of_ble_eq_true rfl⟩) (fun H locs hP hD hS => ?_)
  refine W.eq (g2 := F0 m 10 ls []) rfl ?_
  refine lv_aload_n hx hb dX4_write_10 rfl (lv_at hl 0 rfl) ?_
  refine lv_bipush (v := (nI 32)) hx hb dX4_write_11 (by decide) ?_
  obtain ⟨⟨w4, w5⟩, hr6, h⟩ := ob h
  dsimp only at h
  refine px_V (As := [.int (ch (nI 32))]) (rest := []) (gs := ([gX4 E a w1 w2, gX1 E a_forest φ_forest] : List va_W)) (gr := ([gX1 E a_forest φ_forest] : List va_W)) (gc := ([gX4 E a w1 w2] : List va_W)) (g1 := ([gX4 E a w4 w5] : List va_W)) (g2 := ([gX4 E a w4 w5, gX1 E a_forest φ_forest] : List va_W)) ⟨hx, hb, hml, hown, hts⟩ (c4_addSign l E a  ((nI 32)) (w1) (w2) w4 w5 hr6) (cwV 1 hts (ws_v q1073 q1075 q16 q26 q1076) rfl rfl rfl hdV_X4_addSign (by rw [hR]; exact ⟨Nat.le_of_ble_eq_true rfl, Nat.le_of_ble_eq_true rfl⟩)) hK hN hP hD hS hA [1] [0] [1, 0] rfl rfl (by decide) (by decide) rfl (by decide) 0 4 rfl rfl rfl rfl hl.1 rfl (Nat.le_of_ble_eq_true rfl) dX4_write_13 (by rw [hR]; exact ⟨Nat.le_of_ble_eq_true rfl, Nat.le_of_ble_eq_true rfl⟩) (fun H locs hP hD hS => ?_)
  refine W.eq (g2 := F0 m 16 ls []) rfl ?_
  refine lv_aload_n hx hb dX4_write_16 rfl (lv_at hl 0 rfl) ?_
  refine lv_aload_n hx hb dX4_write_17 rfl (lv_at hl 1 rfl) ?_
  refine lv_iload_n hx hb dX4_write_18 rfl (lv_at hl 2 rfl) ?_
  obtain ⟨r7, hr8, h⟩ := ob h
  refine px_Vp (As := [.int x2]) (rest := [.ref (a 0)]) (gs := ([gX4 E a w4 w5, gX1 E a_forest φ_forest] : List va_W)) (gc := ([gX1 E a_forest φ_forest] : List va_W)) ⟨hx, hb, hml, hown, hts⟩ (c1_kindOf l E a_forest  (x2) (φ_forest) r7 hr8) (cwV 1 hts (ws_v q1077 q522 q523 q19 q524) rfl rfl rfl hdV_X1_kindOf (by rw [hR]; exact ⟨Nat.le_of_ble_eq_true rfl, Nat.le_of_ble_eq_true rfl⟩)) hK hN hP hD [1] rfl (by decide) 0 1 rfl rfl rfl rfl hl.1 rfl (Nat.le_of_ble_eq_true rfl) dX4_write_19 (by rw [hR]; exact ⟨Nat.le_of_ble_eq_true rfl, Nat.le_of_ble_eq_true rfl⟩) ?_
  refine W.eq (g2 := F0 m 22 ls [.int r7, .ref (a 0)]) rfl ?_
  obtain ⟨r9, hr10, h⟩ := ob h
  refine px_Sp (As := [.int r7]) (rest := [.ref (a 0)]) (gs := ([gX4 E a w4 w5, gX1 E a_forest φ_forest] : List va_W)) (gc := ([] : List va_W)) ⟨hx, hb, hml, hown, hts⟩ (c4_letterOf l E   (r7)  r9 hr10) (va_cwS 1 hts (ws_s q1078 q1079 q26 q1080) rfl rfl rfl hdS_X4_letterOf (by rw [hR]; exact ⟨Nat.le_of_ble_eq_true rfl, Nat.le_of_ble_eq_true rfl⟩)) hK hN hP hD [] rfl (by decide) rfl hl.1 rfl (Nat.le_of_ble_eq_true rfl) dX4_write_22 (by rw [hR]; exact ⟨Nat.le_of_ble_eq_true rfl, Nat.le_of_ble_eq_true rfl⟩) ?_
  refine W.eq (g2 := F0 m 25 ls [.int (ch r9), .ref (a 0)]) rfl ?_
  obtain ⟨⟨w11, w12⟩, hr13, h⟩ := ob h
  dsimp only at h
  refine px_V (As := [.int (ch r9)]) (rest := []) (gs := ([gX4 E a w4 w5, gX1 E a_forest φ_forest] : List va_W)) (gr := ([gX1 E a_forest φ_forest] : List va_W)) (gc := ([gX4 E a w4 w5] : List va_W)) (g1 := ([gX4 E a w11 w12] : List va_W)) (g2 := ([gX4 E a w11 w12, gX1 E a_forest φ_forest] : List va_W)) ⟨hx, hb, hml, hown, hts⟩ (c4_addSign l E a  (r9) (w4) (w5) w11 w12 hr13) (cwV 1 hts (ws_v q1073 q1075 q16 q26 q1076) rfl rfl rfl hdV_X4_addSign (by rw [hR]; exact ⟨Nat.le_of_ble_eq_true rfl, Nat.le_of_ble_eq_true rfl⟩)) hK hN hP hD hS hA [1] [0] [1, 0] rfl rfl (by decide) (by decide) rfl (by decide) 0 4 rfl rfl rfl rfl hl.1 rfl (Nat.le_of_ble_eq_true rfl) dX4_write_25 (by rw [hR]; exact ⟨Nat.le_of_ble_eq_true rfl, Nat.le_of_ble_eq_true rfl⟩) (fun H locs hP hD hS => ?_)
  refine W.eq (g2 := F0 m 28 ls []) rfl ?_
  refine lv_aload_n hx hb dX4_write_28 rfl (lv_at hl 0 rfl) ?_
  refine lv_bipush (v := (nI 58)) hx hb dX4_write_29 (by decide) ?_
  obtain ⟨⟨w14, w15⟩, hr16, h⟩ := ob h
  dsimp only at h
  refine px_V (As := [.int (ch (nI 58))]) (rest := []) (gs := ([gX4 E a w11 w12, gX1 E a_forest φ_forest] : List va_W)) (gr := ([gX1 E a_forest φ_forest] : List va_W)) (gc := ([gX4 E a w11 w12] : List va_W)) (g1 := ([gX4 E a w14 w15] : List va_W)) (g2 := ([gX4 E a w14 w15, gX1 E a_forest φ_forest] : List va_W)) ⟨hx, hb, hml, hown, hts⟩ (c4_addSign l E a  ((nI 58)) (w11) (w12) w14 w15 hr16) (cwV 1 hts (ws_v q1073 q1075 q16 q26 q1076) rfl rfl rfl hdV_X4_addSign (by rw [hR]; exact ⟨Nat.le_of_ble_eq_true rfl, Nat.le_of_ble_eq_true rfl⟩)) hK hN hP hD hS hA [1] [0] [1, 0] rfl rfl (by decide) (by decide) rfl (by decide) 0 4 rfl rfl rfl rfl hl.1 rfl (Nat.le_of_ble_eq_true rfl) dX4_write_31 (by rw [hR]; exact ⟨Nat.le_of_ble_eq_true rfl, Nat.le_of_ble_eq_true rfl⟩) (fun H locs hP hD hS => ?_)
  refine W.eq (g2 := F0 m 34 ls []) rfl ?_
  refine lv_iconst (v := (nI 0)) hx hb dX4_write_34 (by decide) ?_
  refine lv_istore_n (lv' := [(3, .int (nI 0)), (0, .ref (a 0)), (1, .ref (a_forest 0)), (2, .int x2)]) hx hb dX4_write_35 rfl hl (by decide) rfl (fun ls hl => ?_)
  exact L36 fuel ((nI 0)) (w14) (w15) H locs ls hP hD hS (lv_sub hl [1, 2, 3, 0] rfl) h
