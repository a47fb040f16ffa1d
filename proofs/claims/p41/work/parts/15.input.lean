def f3_size  (v_length : Int32) : Option (Int32) := (some v_length)
set_option maxHeartbeats 4000000 in
set_option maxRecDepth 100000 in
theorem c3_size (l : Launch) (E : PE) (a : Nat → Nat)   (v_signs : AI) (v_length : Int32) (r : Int32) (h : f3_size v_length = some r) : MP l yX3_size cX3_size 1 (some .int) { frames := 0, cells := 0, slots := 0, locals := 0 } E [.ref (a 0)] ([gX3 E a v_signs v_length] : List va_W).flatten (some (.int r)) := by
  refine px_startP (by decide +kernel) (Nat.le_of_ble_eq_true rfl) ?_
  intro p e s m args below meth c R Q A ls hC hQ
  obtain ⟨hx, hb, hr, hml, hts, hown, hlocks, hR, hK, hN, hP, hD, hA, hl, hin⟩ := hC
  have hl : lv_has ls 1 [(0, .ref (a 0))] := hl
  unfold f3_size at h
  refine lv_aload_n hx hb dX3_size_0 rfl (lv_at hl 0 rfl) ?_
  refine va_get (D := E.1) (ci := 3) (v := .int v_length) (C := RX3) (T := TX3) (N := 2) hx hb hts iX3 hown hK hP 0 rfl rfl 1 (by decide) (hts _ q175) (fun _ h9 => h9) rfl dX3_size_1 ?_
  cases h
  exact px_ePi hQ hx hb hr hlocks dX3_size_4
def f3_isFull  (v_length : Int32) : Option (Bool) := (if v_length < (nI 60) then (some false) else (some true))
set_option maxHeartbeats 4000000 in
set_option maxRecDepth 100000 in
theorem c3_isFull (l : Launch) (E : PE) (a : Nat → Nat)   (v_signs : AI) (v_length : Int32) (r : Bool) (h : f3_isFull v_length = some r) : MP l yX3_isFull cX3_isFull 1 (some .boolean) { frames := 0, cells := 0, slots := 0, locals := 0 } E [.ref (a 0)] ([gX3 E a v_signs v_length] : List va_W).flatten (some (.int (b2i r))) := by
  refine px_startP (by decide +kernel) (Nat.le_of_ble_eq_true rfl) ?_
  intro p e s m args below meth c R Q A ls hC hQ
  obtain ⟨hx, hb, hr, hml, hts, hown, hlocks, hR, hK, hN, hP, hD, hA, hl, hin⟩ := hC
  have hl : lv_has ls 1 [(0, .ref (a 0))] := hl
  unfold f3_isFull at h
  refine lv_aload_n hx hb dX3_isFull_0 rfl (lv_at hl 0 rfl) ?_
  refine va_get (D := E.1) (ci := 3) (v := .int v_length) (C := RX3) (T := TX3) (N := 2) hx hb hts iX3 hown hK hP 0 rfl rfl 1 (by decide) (hts _ q175) (fun _ h9 => h9) rfl dX3_isFull_1 ?_
  refine lv_bipush (v := (nI 60)) hx hb dX3_isFull_4 (by decide) ?_
  refine lv_icmp_lt (tgt := 13) hx hb dX3_isFull_6 (by decide) (fun c1 => ?_) (fun c1 => ?_)
  · rw [if_pos c1] at h
    refine lv_iconst (v := (nI 0)) hx hb dX3_isFull_13 (by decide) ?_
    cases h
    refine W.eq (g2 := F0 m 14 ls [.int (b2i false)]) rfl ?_
    exact px_ePz (b2i_n _) hQ hx hb hr hlocks dX3_isFull_14
  · rw [if_neg c1] at h
    refine lv_iconst (v := (nI 1)) hx hb dX3_isFull_9 (by decide) ?_
    refine lv_goto (tgt := 14) hx hb dX3_isFull_10 (by decide) ?_
    cases h
    refine W.eq (g2 := F0 m 14 ls [.int (b2i true)]) rfl ?_
    exact px_ePz (b2i_n _) hQ hx hb hr hlocks dX3_isFull_14
def f3_add (x1 : Int32) (v_signs : AI) (v_length : Int32) : Option (Int32 × AI × Int32) := (if v_length < 0 then (some (v_length, v_signs, v_length)) else (if (nI 60) ≤ v_length then (some (v_length, v_signs, v_length)) else (if inb v_length 60 = true then (lt (upd v_signs (v_length).toNatClampNeg (ch x1)) fun u4 => (lt (v_length + (nI 1)) fun u6 => (some (u6, u4, u6)))) else none)))
set_option maxHeartbeats 4000000 in
set_option maxRecDepth 100000 in
theorem c3_add (l : Launch) (E : PE) (a : Nat → Nat)  (x1 : Int32) (v_signs : AI) (v_length : Int32) (r : Int32) (z_this_signs : AI) (z_this_length : Int32) (h : f3_add x1 v_signs v_length = some (r, z_this_signs, z_this_length)) : MW l yX3_add cX3_add 2 (some .int) { frames := 0, cells := 0, slots := 0, locals := 0 } E [.ref (a 0), .int (ch x1)] ([gX3 E a v_signs v_length] : List va_W).flatten 0 0 (some (.int r)) ([gX3 E a z_this_signs z_this_length] : List va_W).flatten := by
  refine px_startW (by decide +kernel) (Nat.le_of_ble_eq_true rfl) ?_
  intro p e s m args below meth c R Q A ls hC hA0 hQ
  obtain ⟨hx, hb, hr, hml, hts, hown, hlocks, hR, hK, hN, hP, hD, hA, hl, hin⟩ := hC
  have hl : lv_has ls 2 [(0, .ref (a 0)), (1, .int (ch x1))] := hl
  suffices key : ∀ (H : Heap) (locs : List Loc), va_P E.1 vwCl ([gX3 E a v_signs v_length] : List va_W).flatten H → va_S A s.heap H locs → W p l e R s m args below meth c H locs 0 0 Q (F0 m 0 ls []) from key s.heap [] hP va_S.rf
  unfold f3_add at h
  intro H locs hP hS
  refine lv_aload_n hx hb dX3_add_0 rfl (lv_at hl 0 rfl) ?_
  refine va_get (D := E.1) (ci := 3) (v := .int v_length) (C := RX3) (T := TX3) (N := 2) hx hb hts iX3 hown hK hP 0 rfl rfl 1 (by decide) (hts _ q175) (fun _ h9 => h9) rfl dX3_add_1 ?_
  refine lv_if_lt (tgt := 36) hx hb dX3_add_4 (by decide) (fun c1 => ?_) (fun c1 => ?_)
  · rw [if_pos c1] at h
    refine lv_aload_n hx hb dX3_add_36 rfl (lv_at hl 0 rfl) ?_
    refine va_get (D := E.1) (ci := 3) (v := .int v_length) (C := RX3) (T := TX3) (N := 2) hx hb hts iX3 hown hK hP 0 rfl rfl 1 (by decide) (hts _ q175) (fun _ h9 => h9) rfl dX3_add_37 ?_
    cases h
    exact px_eWi hA0 hQ hP hD hS hx hb hr hlocks dX3_add_40
  · rw [if_neg c1] at h
    refine lv_aload_n hx hb dX3_add_7 rfl (lv_at hl 0 rfl) ?_
    refine va_get (D := E.1) (ci := 3) (v := .int v_length) (C := RX3) (T := TX3) (N := 2) hx hb hts iX3 hown hK hP 0 rfl rfl 1 (by decide) (hts _ q175) (fun _ h9 => h9) rfl dX3_add_8 ?_
    refine lv_bipush (v := (nI 60)) hx hb dX3_add_11 (by decide) ?_
    refine lv_icmp_ge (tgt := 36) hx hb dX3_add_13 (by decide) (fun c2 => ?_) (fun c2 => ?_)
    · rw [if_pos c2] at h
      refine lv_aload_n hx hb dX3_add_36 rfl (lv_at hl 0 rfl) ?_
      refine va_get (D := E.1) (ci := 3) (v := .int v_length) (C := RX3) (T := TX3) (N := 2) hx hb hts iX3 hown hK hP 0 rfl rfl 1 (by decide) (hts _ q175) (fun _ h9 => h9) rfl dX3_add_37 ?_
      cases h
      exact px_eWi hA0 hQ hP hD hS hx hb hr hlocks dX3_add_40
    · rw [if_neg c2] at h
      refine lv_aload_n hx hb dX3_add_16 rfl (lv_at hl 0 rfl) ?_
      refine va_get (D := E.1) (ci := 3) (v := .ref (a 1)) (C := RX3) (T := TX3) (N := 2) hx hb hts iX3 hown hK hP 0 rfl rfl 0 (by decide) (hts _ q174) (fun _ h9 => h9) rfl dX3_add_17 ?_
      refine lv_aload_n hx hb dX3_add_20 rfl (lv_at hl 0 rfl) ?_
      refine va_get (D := E.1) (ci := 3) (v := .int v_length) (C := RX3) (T := TX3) (N := 2) hx hb hts iX3 hown hK hP 0 rfl rfl 1 (by decide) (hts _ q175) (fun _ h9 => h9) rfl dX3_add_21 ?_
      refine lv_iload_n hx hb dX3_add_24 rfl (lv_at hl 1 rfl) ?_
      obtain ⟨i3, h⟩ := o_t h
      refine va_cast (f := fun j => ch (v_signs j)) hx hb hK hP hD hS 1 1 rfl rfl (inb_in i3) dX3_add_25 (fun H locs hP hD hS => ?_)
      rw [ch_u] at hP hD
      have hP : va_P E.1 vwCl ([gX3 E a (upd v_signs (v_length).toNatClampNeg (ch x1)) v_length] : List va_W).flatten H := hP
      have hD : va_D A ([gX3 E a (upd v_signs (v_length).toNatClampNeg (ch x1)) v_length] : List va_W).flatten := hD
      obtain ⟨u4, e5, h⟩ := lt_e h
      rw [← e5] at hP hD
      refine lv_aload_n hx hb dX3_add_26 rfl (lv_at hl 0 rfl) ?_
      refine lv_dup hx hb dX3_add_27 rfl ?_
      refine va_get (D := E.1) (ci := 3) (v := .int v_length) (C := RX3) (T := TX3) (N := 2) hx hb hts iX3 hown hK hP 0 rfl rfl 1 (by decide) (hts _ q175) (fun _ h9 => h9) rfl dX3_add_28 ?_
      refine lv_iconst (v := (nI 1)) hx hb dX3_add_31 (by decide) ?_
      refine lv_iadd hx hb dX3_add_32 ?_
      refine va_put (D := E.1) (ci := 3) (v := .int (v_length + (nI 1))) (ty := .int) (C := RX3) (T := TX3) (N := 2) hx hb hts iX3 tyX3 tyX3_ok nmX3 hown hK hP hD hS 0 rfl rfl 1 (by decide) (hts _ q175) (fun _ h9 => h9) rfl (tyX3_ok 1 (by decide)) rfl rfl (Nat.le_of_ble_eq_true rfl) dX3_add_33 (fun H locs hP hD hS => ?_)
      have hP : va_P E.1 vwCl ([gX3 E a u4 (v_length + (nI 1))] : List va_W).flatten H := hP
      have hD : va_D A ([gX3 E a u4 (v_length + (nI 1))] : List va_W).flatten := hD
      obtain ⟨u6, e7, h⟩ := lt_e h
      rw [← e7] at hP hD
      refine lv_aload_n hx hb dX3_add_36 rfl (lv_at hl 0 rfl) ?_
      refine va_get (D := E.1) (ci := 3) (v := .int u6) (C := RX3) (T := TX3) (N := 2) hx hb hts iX3 hown hK hP 0 rfl rfl 1 (by decide) (hts _ q175) (fun _ h9 => h9) rfl dX3_add_37 ?_
      cases h
      exact px_eWi hA0 hQ hP hD hS hx hb hr hlocks dX3_add_40
def f3_clear  (v_length : Int32) : Option (Int32) := (some (nI 0))
set_option maxHeartbeats 4000000 in
set_option maxRecDepth 100000 in
theorem c3_clear (l : Launch) (E : PE) (a : Nat → Nat)   (v_signs : AI) (v_length : Int32) (z_this_length : Int32) (h : f3_clear v_length = some z_this_length) : MW l yX3_clear cX3_clear 1 none { frames := 0, cells := 0, slots := 0, locals := 0 } E [.ref (a 0)] ([gX3 E a v_signs v_length] : List va_W).flatten 0 0 none ([gX3 E a v_signs z_this_length] : List va_W).flatten := by
  refine px_startW (by decide +kernel) (Nat.le_of_ble_eq_true rfl) ?_
  intro p e s m args below meth c R Q A ls hC hA0 hQ
  obtain ⟨hx, hb, hr, hml, hts, hown, hlocks, hR, hK, hN, hP, hD, hA, hl, hin⟩ := hC
  have hl : lv_has ls 1 [(0, .ref (a 0))] := hl
  suffices key : ∀ (H : Heap) (locs : List Loc), va_P E.1 vwCl ([gX3 E a v_signs v_length] : List va_W).flatten H → va_S A s.heap H locs → W p l e R s m args below meth c H locs 0 0 Q (F0 m 0 ls []) from key s.heap [] hP va_S.rf
  unfold f3_clear at h
  intro H locs hP hS
  refine lv_aload_n hx hb dX3_clear_0 rfl (lv_at hl 0 rfl) ?_
  refine lv_iconst (v := (nI 0)) hx hb dX3_clear_1 (by decide) ?_
  refine va_put (D := E.1) (ci := 3) (v := .int (nI 0)) (ty := .int) (C := RX3) (T := TX3) (N := 2) hx hb hts iX3 tyX3 tyX3_ok nmX3 hown hK hP hD hS 0 rfl rfl 1 (by decide) (hts _ q175) (fun _ h9 => h9) rfl (tyX3_ok 1 (by decide)) rfl rfl (Nat.le_of_ble_eq_true rfl) dX3_clear_2 (fun H locs hP hD hS => ?_)
  have hP : va_P E.1 vwCl ([gX3 E a v_signs (nI 0)] : List va_W).flatten H := hP
  have hD : va_D A ([gX3 E a v_signs (nI 0)] : List va_W).flatten := hD
  cases h
  exact px_eWv hA0 hQ hP hD hS hx hb hr hlocks dX3_clear_5
def f3_signAt (x1 : Int32) (v_signs : AI) (v_length : Int32) : Option (Int32) := (if x1 < 0 then (some (-1 : Int32)) else (if v_length ≤ x1 then (some (-1 : Int32)) else (if (nI 60) ≤ x1 then (some (-1 : Int32)) else (if inb x1 60 = true then (some (ch (v_signs (x1).toNatClampNeg))) else none))))
set_option maxHeartbeats 4000000 in
set_option maxRecDepth 100000 in
theorem c3_signAt (l : Launch) (E : PE) (a : Nat → Nat)  (x1 : Int32) (v_signs : AI) (v_length : Int32) (r : Int32) (h : f3_signAt x1 v_signs v_length = some r) : MP l yX3_signAt cX3_signAt 2 (some .int) { frames := 0, cells := 0, slots := 0, locals := 0 } E [.ref (a 0), .int x1] ([gX3 E a v_signs v_length] : List va_W).flatten (some (.int r)) := by
  refine px_startP (by decide +kernel) (Nat.le_of_ble_eq_true rfl) ?_
  intro p e s m args below meth c R Q A ls hC hQ
  obtain ⟨hx, hb, hr, hml, hts, hown, hlocks, hR, hK, hN, hP, hD, hA, hl, hin⟩ := hC
  have hl : lv_has ls 2 [(0, .ref (a 0)), (1, .int x1)] := hl
  unfold f3_signAt at h
  refine lv_iload_n hx hb dX3_signAt_0 rfl (lv_at hl 1 rfl) ?_
  refine lv_if_lt (tgt := 27) hx hb dX3_signAt_1 (by decide) (fun c1 => ?_) (fun c1 => ?_)
  · rw [if_pos c1] at h
    refine lv_iconst (v := (-1 : Int32)) hx hb dX3_signAt_27 (by decide) ?_
    cases h
    exact px_ePi hQ hx hb hr hlocks dX3_signAt_28
  · rw [if_neg c1] at h
    refine lv_iload_n hx hb dX3_signAt_4 rfl (lv_at hl 1 rfl) ?_
    refine lv_aload_n hx hb dX3_signAt_5 rfl (lv_at hl 0 rfl) ?_
    refine va_get (D := E.1) (ci := 3) (v := .int v_length) (C := RX3) (T := TX3) (N := 2) hx hb hts iX3 hown hK hP 0 rfl rfl 1 (by decide) (hts _ q175) (fun _ h9 => h9) rfl dX3_signAt_6 ?_
    refine lv_icmp_ge (tgt := 27) hx hb dX3_signAt_9 (by decide) (fun c2 => ?_) (fun c2 => ?_)
    · rw [if_pos c2] at h
      refine lv_iconst (v := (-1 : Int32)) hx hb dX3_signAt_27 (by decide) ?_
      cases h
      exact px_ePi hQ hx hb hr hlocks dX3_signAt_28
    · rw [if_neg c2] at h
      refine lv_iload_n hx hb dX3_signAt_12 rfl (lv_at hl 1 rfl) ?_
      refine lv_bipush (v := (nI 60)) hx hb dX3_signAt_13 (by decide) ?_
      refine lv_icmp_ge (tgt := 27) hx hb dX3_signAt_15 (by decide) (fun c3 => ?_) (fun c3 => ?_)
      · rw [if_pos c3] at h
        refine lv_iconst (v := (-1 : Int32)) hx hb dX3_signAt_27 (by decide) ?_
        cases h
        exact px_ePi hQ hx hb hr hlocks dX3_signAt_28
      · rw [if_neg c3] at h
        refine lv_aload_n hx hb dX3_signAt_18 rfl (lv_at hl 0 rfl) ?_
        refine va_get (D := E.1) (ci := 3) (v := .ref (a 1)) (C := RX3) (T := TX3) (N := 2) hx hb hts iX3 hown hK hP 0 rfl rfl 0 (by decide) (hts _ q174) (fun _ h9 => h9) rfl dX3_signAt_19 ?_
        refine lv_iload_n hx hb dX3_signAt_22 rfl (lv_at hl 1 rfl) ?_
        obtain ⟨i4, h⟩ := o_t h
        refine va_cald (f := fun j => ch (v_signs j)) hx hb hK hP 1 1 rfl rfl (inb_in i4) dX3_signAt_23 ?_
        refine W.eq (g2 := F0 m 24 ls [.int (ch (v_signs (x1).toNatClampNeg))]) rfl ?_
        refine lv_goto (tgt := 28) hx hb dX3_signAt_24 (by decide) ?_
        cases h
        exact px_ePi hQ hx hb hr hlocks dX3_signAt_28
