def f2_size  (v_count : Int32) : Option (Int32) := (some v_count)
set_option maxHeartbeats 4000000 in
set_option maxRecDepth 100000 in
theorem c2_size (l : Launch) (E : PE) (a : Nat → Nat)   (v_rows : (Nat → Fo)) (v_next : Int32) (v_count : Int32) (r : Int32) (h : f2_size v_count = some r) : MP l yX2_size cX2_size 1 (some .int) { frames := 0, cells := 0, slots := 0, locals := 0 } E [.ref (a 0)] ([gX2 E a v_rows v_next v_count] : List va_W).flatten (some (.int r)) := by
  refine px_startP (by decide +kernel) (Nat.le_of_ble_eq_true rfl) ?_
  intro p e s m args below meth c R Q A ls hC hQ
  obtain ⟨hx, hb, hr, hml, hts, hown, hlocks, hR, hK, hN, hP, hD, hA, hl, hin⟩ := hC
  have hl : lv_has ls 1 [(0, .ref (a 0))] := hl
  unfold f2_size at h
  refine lv_aload_n hx hb dX2_size_0 rfl (lv_at hl 0 rfl) ?_
  refine va_get (D := E.1) (ci := 2) (v := .int v_count) (C := RX2) (T := TX2) (N := 3) hx hb hts iX2 hown hK hP 0 rfl rfl 2 (by decide) (hts _ q109) (fun _ h9 => h9) rfl dX2_size_1 ?_
  cases h
  exact px_ePi hQ hx hb hr hlocks dX2_size_4
def f2_forgetAll  (v_count : Int32) : Option (Int32) := (some (nI 0))
set_option maxHeartbeats 4000000 in
set_option maxRecDepth 100000 in
theorem c2_forgetAll (l : Launch) (E : PE) (a : Nat → Nat)   (v_rows : (Nat → Fo)) (v_next : Int32) (v_count : Int32) (z_this_count : Int32) (h : f2_forgetAll v_count = some z_this_count) : MW l yX2_forgetAll cX2_forgetAll 1 none { frames := 0, cells := 0, slots := 0, locals := 0 } E [.ref (a 0)] ([gX2 E a v_rows v_next v_count] : List va_W).flatten 0 0 none ([gX2 E a v_rows v_next z_this_count] : List va_W).flatten := by
  refine px_startW (by decide +kernel) (Nat.le_of_ble_eq_true rfl) ?_
  intro p e s m args below meth c R Q A ls hC hA0 hQ
  obtain ⟨hx, hb, hr, hml, hts, hown, hlocks, hR, hK, hN, hP, hD, hA, hl, hin⟩ := hC
  have hl : lv_has ls 1 [(0, .ref (a 0))] := hl
  suffices key : ∀ (H : Heap) (locs : List Loc), va_P E.1 vwCl ([gX2 E a v_rows v_next v_count] : List va_W).flatten H → va_S A s.heap H locs → W p l e R s m args below meth c H locs 0 0 Q (F0 m 0 ls []) from key s.heap [] hP va_S.rf
  unfold f2_forgetAll at h
  intro H locs hP hS
  refine lv_aload_n hx hb dX2_forgetAll_0 rfl (lv_at hl 0 rfl) ?_
  refine lv_iconst (v := (nI 0)) hx hb dX2_forgetAll_1 (by decide) ?_
  refine va_put (D := E.1) (ci := 2) (v := .int (nI 0)) (ty := .int) (C := RX2) (T := TX2) (N := 3) hx hb hts iX2 tyX2 tyX2_ok nmX2 hown hK hP hD hS 0 rfl rfl 2 (by decide) (hts _ q109) (fun _ h9 => h9) rfl (tyX2_ok 2 (by decide)) rfl rfl (Nat.le_of_ble_eq_true rfl) dX2_forgetAll_2 (fun H locs hP hD hS => ?_)
  have hP : va_P E.1 vwCl ([gX2 E a v_rows v_next (nI 0)] : List va_W).flatten H := hP
  have hD : va_D A ([gX2 E a v_rows v_next (nI 0)] : List va_W).flatten := hD
  cases h
  exact px_eWv hA0 hQ hP hD hS hx hb hr hlocks dX2_forgetAll_5
