def fJxe99ae_isNaN_b9ae7 (x0 : UInt64)  : Option (Bool) := (if (Op.cmpValue (FP.dcmp x0 x0) CmpOp.l) = 0 then (some false) else (some true))
set_option maxHeartbeats 4000000 in
set_option maxRecDepth 100000 in
theorem kJxe99ae_isNaN_b9ae7 (l : Launch) (E : PE)   (x0 : UInt64)  (r : Bool) (h : fJxe99ae_isNaN_b9ae7 x0 = some r) : MP l yJxe99ae_isNaN_b9ae7 cJxe99ae_isNaN_b9ae7 2 (some .boolean) { frames := 0, cells := 0, slots := 0, locals := 0 } E [.double x0] ([] : List va_W).flatten (some (.int (b2i r))) := by
  refine px_startPF (by decide +kernel) (Nat.le_of_ble_eq_true rfl) ?_
  intro p e s m args below meth c R Q A ls hC hQ
  obtain ⟨hx, hb, hr, hml, hts, hown, hlocks, hR, hK, hN, hP, hD, hA, hl, hin⟩ := hC
  have hl : lv_has ls 2 [(0, .double x0)] := hl
  unfold fJxe99ae_isNaN_b9ae7 at h
  refine lv_dload_n hx hb dJxe99ae_isNaN_b9ae7_0 rfl (lv_at hl 0 rfl) ?_
  refine lv_dload_n hx hb dJxe99ae_isNaN_b9ae7_1 rfl (lv_at hl 0 rfl) ?_
  refine lv_dcmp hx hb dJxe99ae_isNaN_b9ae7_2 ?_
  refine lv_if_eq (tgt := 10) hx hb dJxe99ae_isNaN_b9ae7_3 (by decide) (fun c1 => ?_) (fun c1 => ?_)
  · rw [if_pos c1] at h
    refine lv_iconst (v := (nI 0)) hx hb dJxe99ae_isNaN_b9ae7_10 (by decide) ?_
    cases h
    refine W.eq (g2 := F0 m 11 ls [.int (b2i false)]) rfl ?_
    exact px_ePz (b2i_n _) hQ hx hb hr hlocks dJxe99ae_isNaN_b9ae7_11
  · rw [if_neg c1] at h
    refine lv_iconst (v := (nI 1)) hx hb dJxe99ae_isNaN_b9ae7_6 (by decide) ?_
    refine lv_goto (tgt := 11) hx hb dJxe99ae_isNaN_b9ae7_7 (by decide) ?_
    cases h
    refine W.eq (g2 := F0 m 11 ls [.int (b2i true)]) rfl ?_
    exact px_ePz (b2i_n _) hQ hx hb hr hlocks dJxe99ae_isNaN_b9ae7_11
def fJxe99ae_doubleToLongBits_ccdee (x0 : UInt64)  : Option (Int64) := ((fJxe99ae_isNaN_b9ae7 (x0)).bind fun r1 => (if (b2i r1) = 0 then (some ((x0).toInt64)) else (some (9221120237041090560 : Int64))))
set_option maxHeartbeats 4000000 in
set_option maxRecDepth 100000 in
theorem kJxe99ae_doubleToLongBits_ccdee (l : Launch) (E : PE)   (x0 : UInt64)  (r : Int64) (h : fJxe99ae_doubleToLongBits_ccdee x0 = some r) : MP l yJxe99ae_doubleToLongBits_ccdee cJxe99ae_doubleToLongBits_ccdee 2 (some .long) { frames := 1, cells := 0, slots := 0, locals := 23 } E [.double x0] ([] : List va_W).flatten (some (.long r)) := by
  refine px_startPF (by decide +kernel) (Nat.le_of_ble_eq_true rfl) ?_
  intro p e s m args below meth c R Q A ls hC hQ
  obtain ⟨hx, hb, hr, hml, hts, hown, hlocks, hR, hK, hN, hP, hD, hA, hl, hin⟩ := hC
  have hl : lv_has ls 2 [(0, .double x0)] := hl
  unfold fJxe99ae_doubleToLongBits_ccdee at h
  refine lv_dload_n hx hb dJxe99ae_doubleToLongBits_ccdee_0 rfl (lv_at hl 0 rfl) ?_
  obtain ⟨r1, hr2, h⟩ := ob h
  refine px_Sp (As := [.double x0]) (rest := []) (gs := ([] : List va_W)) (gc := ([] : List va_W)) ⟨hx, hb, hml, hown, hts⟩ (kJxe99ae_isNaN_b9ae7 l E   (x0)  r1 hr2) (va_cwS 1 hts (ws_s q958 q959 q43 q960) rfl rfl rfl hdS_Jxe99ae_isNaN_b9ae7 (by rw [hR]; exact ⟨Nat.le_of_ble_eq_true rfl, Nat.le_of_ble_eq_true rfl⟩)) hK hN hP hD [] rfl (by decide) rfl hl.1 rfl (Nat.le_of_ble_eq_true rfl) dJxe99ae_doubleToLongBits_ccdee_1 (by rw [hR]; exact ⟨Nat.le_of_ble_eq_true rfl, Nat.le_of_ble_eq_true rfl⟩) ?_
  refine W.eq (g2 := F0 m 4 ls [.int (b2i r1)]) rfl ?_
  refine lv_if_ne (tgt := 12) hx hb dJxe99ae_doubleToLongBits_ccdee_4 (by decide) (fun c3 => ?_) (fun c3 => ?_)
  · rw [if_neg c3] at h
    refine lv_ldc2 (v := 9221120237041090560) hx hb hown (hts _ q964) dJxe99ae_doubleToLongBits_ccdee_12 ?_
    cases h
    exact px_ePl hQ hx hb hr hlocks dJxe99ae_doubleToLongBits_ccdee_15
  · rw [if_pos c3] at h
    refine lv_dload_n hx hb dJxe99ae_doubleToLongBits_ccdee_7 rfl (lv_at hl 0 rfl) ?_
    refine vn_d2l hx hb (hml.trans hl.1.symm) hown (hts _ q961) (hts _ q963) (hts _ q962) (hts _ q43) (by rw [hR]; exact Nat.le_of_ble_eq_true rfl) (by rw [hR]; exact Nat.le_of_ble_eq_true rfl) dJxe99ae_doubleToLongBits_ccdee_8 ?_
    cases h
    exact px_ePl hQ hx hb hr hlocks dJxe99ae_doubleToLongBits_ccdee_11
def fL_some (x0 : Int32) (x1 : Int32)  : Option (Int32) := (if x1 = 0 then none else (if 0 ≤ (x0 - x0 / x1 * x1) then (some (x0 - x0 / x1 * x1)) else (some ((x0 - x0 / x1 * x1) + x1))))
set_option maxHeartbeats 4000000 in
set_option maxRecDepth 100000 in
theorem mL_some (l : Launch) (E : PE)   (x0 : Int32) (x1 : Int32)  (r : Int32) (h : fL_some x0 x1 = some r) : MP l yL_some cL_some 3 (some .int) { frames := 0, cells := 0, slots := 0, locals := 0 } E [.int x0, .int x1] ([] : List va_W).flatten (some (.int r)) := by
  refine px_startP (by decide +kernel) (Nat.le_of_ble_eq_true rfl) ?_
  intro p e s m args below meth c R Q A ls hC hQ
  obtain ⟨hx, hb, hr, hml, hts, hown, hlocks, hR, hK, hN, hP, hD, hA, hl, hin⟩ := hC
  have hl : lv_has ls 3 [(0, .int x0), (1, .int x1)] := hl
  unfold fL_some at h
  refine lv_iload_n hx hb dL_some_0 rfl (lv_at hl 0 rfl) ?_
  refine lv_iload_n hx hb dL_some_1 rfl (lv_at hl 1 rfl) ?_
  by_cases c1 : x1 = 0
  · rw [if_pos c1] at h; cases h
  rw [if_neg c1] at h
  refine lv_irem hx hb dL_some_2 c1 ?_
  refine lv_istore_n (lv' := [(2, .int (x0 - x0 / x1 * x1)), (0, .int x0), (1, .int x1)]) hx hb dL_some_3 rfl hl (by decide) rfl (fun ls hl => ?_)
  refine lv_iload_n hx hb dL_some_4 rfl (lv_at hl 0 rfl) ?_
  refine lv_if_ge (tgt := 14) hx hb dL_some_5 (by decide) (fun c2 => ?_) (fun c2 => ?_)
  · rw [if_pos c2] at h
    refine lv_iload_n hx hb dL_some_14 rfl (lv_at hl 0 rfl) ?_
    cases h
    exact px_ePi hQ hx hb hr hlocks dL_some_15
  · rw [if_neg c2] at h
    refine lv_iload_n hx hb dL_some_8 rfl (lv_at hl 0 rfl) ?_
    refine lv_iload_n hx hb dL_some_9 rfl (lv_at hl 2 rfl) ?_
    refine lv_iadd hx hb dL_some_10 ?_
    refine lv_goto (tgt := 15) hx hb dL_some_11 (by decide) ?_
    cases h
    exact px_ePi hQ hx hb hr hlocks dL_some_15
def fL_at (L : LX) (x1 : Int32)  : Option (Int32) := (if (nI L.1.2.1) ≤ x1 then (some (nI 0)) else (if inb x1 L.1.2.1 = true then (some (L.1.2.2 (x1).toNatClampNeg)) else none))
set_option maxHeartbeats 4000000 in
set_option maxRecDepth 100000 in
theorem mL_at (l : Launch) (hlt : l.stackTraces = false) (E : PE) (X : PX) (L : LX)   (x1 : Int32)  (r : Int32) (h : fL_at L x1 = some r) : MZ l yL_at cL_at 2 (some .int) { frames := 0, cells := 0, slots := 0, locals := 0 } E X L [.ref L.1.1, .int x1] ([] : List va_W).flatten 0 0 (some (.int r)) ([] : List va_W).flatten := by
  refine px_startZ (by decide +kernel) (Nat.le_of_ble_eq_true rfl) ?_
  intro p e s m args below meth c R Q A ls hC hX hL hA0 hQ
  obtain ⟨hx, hb, hr, hml, hts, hown, hlocks, hR, hK, hN, hP, hD, hA, hl, hin⟩ := hC
  have hl : lv_has ls 2 [(0, .ref L.1.1), (1, .int x1)] := hl
  suffices key : ∀ (H : Heap) (locs : List Loc), va_P E.1 vwCl ([] : List va_W).flatten H → va_S A s.heap H locs → W p l e R s m args below meth c H locs 0 0 Q (F0 m 0 ls []) from key s.heap [] hP va_S.rf
  unfold fL_at at h
  intro H locs hP hS
  refine lv_iload_n hx hb dL_at_0 rfl (lv_at hl 1 rfl) ?_
  refine lv_aload_n hx hb dL_at_1 rfl (lv_at hl 0 rfl) ?_
  refine va_tlen (v := nI L.1.2.1) hx hb hL.1.1 hS rfl dL_at_2 ?_
  refine lv_icmp_ge (tgt := 12) hx hb dL_at_3 (by decide) (fun c1 => ?_) (fun c1 => ?_)
  · rw [if_pos c1] at h
    refine lv_iconst (v := (nI 0)) hx hb dL_at_12 (by decide) ?_
    cases h
    refine W.widen (k := 0) (n := 0) (by omega) (by omega) ?_
    exact px_eWi hA0 hQ hP hD hS hx hb hr hlocks dL_at_13
  · rw [if_neg c1] at h
    refine lv_aload_n hx hb dL_at_6 rfl (lv_at hl 0 rfl) ?_
    refine lv_iload_n hx hb dL_at_7 rfl (lv_at hl 1 rfl) ?_
    obtain ⟨i2, h⟩ := o_t h
    refine va_ti hx hb hL.1.1 hS (inb_in i2) (v := .int (L.1.2.2 (x1).toNatClampNeg)) rfl dL_at_8 ?_
    refine lv_goto (tgt := 13) hx hb dL_at_9 (by decide) ?_
    cases h
    refine W.widen (k := 0) (n := 0) (by omega) (by omega) ?_
    exact px_eWi hA0 hQ hP hD hS hx hb hr hlocks dL_at_13
def fL_reads_L2 (x1n : Nat) (x1f : AI) : Nat → Int32 → TO → Option (Int32 × TO)
  | 0, _, _ => none
  | n + 1, x2, τ_o => (if (nI x1n) ≤ x2 then ((t_read (τ_o)).bind fun (r2, w3) => (some (r2, w3))) else (if inb x2 x1n = true then ((t_append ((x1f (x2).toNatClampNeg &&& 255)) (τ_o)).bind fun (r6, w7) => (if r6 = (x2 + (nI 1)) then (fL_reads_L2 x1n x1f n ((x2 + nI 1)) (w7)) else (some ((-9999 : Int32), w7)))) else none))
def fL_reads (x1n : Nat) (x1f : AI) (τ_o : TO) : Option (Int32 × TO) := (fL_reads_L2 x1n x1f 62 ((nI 0)) (τ_o))
set_option maxHeartbeats 4000000 in
set_option maxRecDepth 100000 in
theorem mL_reads (l : Launch) (hlt : l.stackTraces = false) (E : PE) (X : PX) (L : LX) (b_o : Nat → Nat → Nat)  (x1n : Nat) (x1f : AI) (q1 v1 : Nat) (hd1 : px_In X (q1, v1, x1n, x1f)) (hn1 : x1n < 2 ^ 31) (τ_o : TO) (r : Int32) (z_o_τ : TO) (h : fL_reads x1n x1f τ_o = some (r, z_o_τ)) : MZ l yL_reads cL_reads 3 (some .int) { frames := 9, cells := 63, slots := 378, locals := 189 } E X L [.ref (b_o 0 0), .ref q1] ([gO E b_o τ_o] : List va_W).flatten 63 378 (some (.int r)) ([gO E b_o z_o_τ] : List va_W).flatten := by
  refine px_startZ (by decide +kernel) (Nat.le_of_ble_eq_true rfl) ?_
  intro p e s m args below meth c R Q A ls hC hX hL hA0 hQ
  obtain ⟨hx, hb, hr, hml, hts, hown, hlocks, hR, hK, hN, hP, hD, hA, hl, hin⟩ := hC
  have hl : lv_has ls 3 [(0, .ref (b_o 0 0)), (1, .ref q1)] := hl
  suffices key : ∀ (H : Heap) (locs : List Loc), va_P E.1 vwCl ([gO E b_o τ_o] : List va_W).flatten H → va_S A s.heap H locs → W p l e R s m args below meth c H locs 0 0 Q (F0 m 0 ls []) from key s.heap [] hP va_S.rf
  unfold fL_reads at h
  have L2 : ∀ (n : Nat) (x2 : Int32) (τ_o : TO) (cc ss : Nat), cc + n * 1 + 1 ≤ 63 → ss + n * 6 + 6 ≤ 378 → ∀ (H : Heap) (locs : List Loc) (ls : Array Slot), va_P E.1 vwCl ([gO E b_o τ_o] : List va_W).flatten H → va_D A ([gO E b_o τ_o] : List va_W).flatten → va_S A s.heap H locs → lv_has ls 3 [(0, .ref (b_o 0 0)), (1, .ref q1), (2, .int x2)] → fL_reads_L2 x1n x1f n x2 τ_o = some (r, z_o_τ) → W p l e R s m args below meth c H locs cc ss Q (F0 m 2 ls []) := by
    intro n
    induction n with
    | zero =>
      intro x2 τ_o cc ss hcc hss H locs ls hP hD hS hl h
      unfold fL_reads_L2 at h; cases h
    | succ n ih =>
      intro x2 τ_o cc ss hcc hss H locs ls hP hD hS hl h
      unfold fL_reads_L2 at h
      refine lv_iload_n hx hb dL_reads_2 rfl (lv_at hl 2 rfl) ?_
      refine lv_aload_n hx hb dL_reads_3 rfl (lv_at hl 1 rfl) ?_
      refine px_VpX (As := []) (rest := [.int x2]) (gs := ([gO E b_o τ_o] : List va_W)) (gc := []) ⟨hx, hb, hml, hown, hts⟩ (cJ0_lengthD l E X (q1, v1, x1n, x1f) hd1 hn1) (cwV 0 hts (ws_v q1420 q768 q769 q38 q770) rfl rfl rfl hdV_J0_length_8abf5 (by rw [hR]; first | exact ⟨Nat.le_of_ble_eq_true rfl, Nat.le_of_ble_eq_true rfl⟩ | exact ⟨by show _ ≤ (63 : Nat); omega, by show _ ≤ (378 : Nat); omega⟩)) hK hN hX hP hD hS hA [] rfl (by decide) (px_strRecv hX hS hd1) rfl hl.1 rfl (Nat.le_of_ble_eq_true rfl) dL_reads_4 (by rw [hR]; first | exact ⟨Nat.le_of_ble_eq_true rfl, Nat.le_of_ble_eq_true rfl⟩ | exact ⟨by show _ ≤ (63 : Nat); omega, by show _ ≤ (378 : Nat); omega⟩) ?_
      refine W.eq (g2 := F0 m 7 ls [.int (nI x1n), .int x2]) rfl ?_
      refine lv_icmp_ge (tgt := 35) hx hb dL_reads_7 (by decide) (fun c1 => ?_) (fun c1 => ?_)
      · rw [if_pos c1] at h
        refine lv_aload_n hx hb dL_reads_35 rfl (lv_at hl 0 rfl) ?_
        obtain ⟨⟨r2, w3⟩, hr4, h⟩ := ob h
        dsimp only at h
        refine px_SL (As := [.ref (b_o 0 0)]) (rest := []) (gs := ([gO E b_o τ_o] : List va_W)) (gr := ([] : List va_W)) (gc := ([gO E b_o τ_o] : List va_W)) (g1 := ([gO E b_o w3] : List va_W)) (g2 := ([gO E b_o w3] : List va_W)) ⟨hx, hb, hml, hown, hts⟩ (mT_read l hlt E X L b_o   (τ_o) r2 w3 hr4) (vx_cwSW 1 hts (wsw_s q731 q732 q17 q733) rfl rfl rfl hdS_L_read (by rw [hR]; first | exact ⟨Nat.le_of_ble_eq_true rfl, Nat.le_of_ble_eq_true rfl⟩ | exact ⟨by show _ ≤ (63 : Nat); omega, by show _ ≤ (378 : Nat); omega⟩)) hK hN hX hL hP hD hS hA [] [0] [0] rfl rfl (by decide) (by decide) rfl (by decide) rfl hl.1 rfl (Nat.le_of_ble_eq_true rfl) dL_reads_36 (by rw [hR]; first | exact ⟨Nat.le_of_ble_eq_true rfl, Nat.le_of_ble_eq_true rfl⟩ | exact ⟨by show _ ≤ (63 : Nat); omega, by show _ ≤ (378 : Nat); omega⟩) (fun H locs hP hD hS => ?_)
        refine W.eq (g2 := F0 m 39 ls [.int r2]) rfl ?_
        cases h
        refine W.widen (k := 63) (n := 378) (by omega) (by omega) ?_
        exact px_eWi hA0 hQ hP hD hS hx hb hr hlocks dL_reads_39
      · rw [if_neg c1] at h
        refine lv_aload_n hx hb dL_reads_10 rfl (lv_at hl 0 rfl) ?_
        refine lv_aload_n hx hb dL_reads_11 rfl (lv_at hl 1 rfl) ?_
        refine lv_iload_n hx hb dL_reads_12 rfl (lv_at hl 2 rfl) ?_
        obtain ⟨i5, h⟩ := o_t h
        refine px_VpX (As := [.int x2]) (rest := [.ref (b_o 0 0)]) (gs := ([gO E b_o τ_o] : List va_W)) (gc := []) ⟨hx, hb, hml, hown, hts⟩ (cJ0_charAtE l E X (q1, v1, x1n, x1f) x2 hd1 hn1 i5) (cwV 1 hts (ws_v q1421 q778 q779 q38 q780) rfl rfl rfl hdV_J0_charAt_5068e (by rw [hR]; first | exact ⟨Nat.le_of_ble_eq_true rfl, Nat.le_of_ble_eq_true rfl⟩ | exact ⟨by show _ ≤ (63 : Nat); omega, by show _ ≤ (378 : Nat); omega⟩)) hK hN hX hP hD hS hA [] rfl (by decide) (px_strRecv hX hS hd1) rfl hl.1 rfl (Nat.le_of_ble_eq_true rfl) dL_reads_13 (by rw [hR]; first | exact ⟨Nat.le_of_ble_eq_true rfl, Nat.le_of_ble_eq_true rfl⟩ | exact ⟨by show _ ≤ (63 : Nat); omega, by show _ ≤ (378 : Nat); omega⟩) ?_
        refine W.eq (g2 := F0 m 16 ls [.int (ch (x1f (x2).toNatClampNeg &&& 255)), .ref (b_o 0 0)]) rfl ?_
        obtain ⟨⟨r6, w7⟩, hr8, h⟩ := ob h
        dsimp only at h
        refine px_SL (As := [.ref (b_o 0 0), .int (ch (x1f (x2).toNatClampNeg &&& 255))]) (rest := []) (gs := ([gO E b_o τ_o] : List va_W)) (gr := ([] : List va_W)) (gc := ([gO E b_o τ_o] : List va_W)) (g1 := ([gO E b_o w7] : List va_W)) (g2 := ([gO E b_o w7] : List va_W)) ⟨hx, hb, hml, hown, hts⟩ (mT_append l hlt E X L b_o ((x1f (x2).toNatClampNeg &&& 255))  (τ_o) r6 w7 hr8) (vx_cwSW 2 hts (wsw_s q699 q700 q17 q701) rfl rfl rfl hdS_L_append (by rw [hR]; first | exact ⟨Nat.le_of_ble_eq_true rfl, Nat.le_of_ble_eq_true rfl⟩ | exact ⟨by show _ ≤ (63 : Nat); omega, by show _ ≤ (378 : Nat); omega⟩)) hK hN hX hL hP hD hS hA [] [0] [0] rfl rfl (by decide) (by decide) rfl (by decide) rfl hl.1 rfl (Nat.le_of_ble_eq_true rfl) dL_reads_16 (by rw [hR]; first | exact ⟨Nat.le_of_ble_eq_true rfl, Nat.le_of_ble_eq_true rfl⟩ | exact ⟨by show _ ≤ (63 : Nat); omega, by show _ ≤ (378 : Nat); omega⟩) (fun H locs hP hD hS => ?_)
        refine W.eq (g2 := F0 m 19 ls [.int r6]) rfl ?_
        refine lv_iload_n hx hb dL_reads_19 rfl (lv_at hl 2 rfl) ?_
        refine lv_iconst (v := (nI 1)) hx hb dL_reads_20 (by decide) ?_
        refine lv_iadd hx hb dL_reads_21 ?_
        refine lv_icmp_eq (tgt := 29) hx hb dL_reads_22 (by decide) (fun c9 => ?_) (fun c9 => ?_)
        · rw [if_pos c9] at h
          refine lv_iinc (v := (x2 + nI 1)) (lv' := [(2, .int (x2 + nI 1)), (0, .ref (b_o 0 0)), (1, .ref q1)]) hx hb dL_reads_29 hl (k := 2) rfl rfl (by decide) rfl (fun ls hl => ?_)
          refine lv_goto (tgt := 2) hx hb dL_reads_32 (by decide) ?_
          exact ih ((x2 + nI 1)) (w7) _ _ (by omega) (by omega) H locs ls hP hD hS (lv_sub hl [1, 2, 0] rfl) h
        · rw [if_neg c9] at h
          refine lv_sipush (v := (-9999 : Int32)) hx hb dL_reads_25 (by decide) ?_
          cases h
          refine W.widen (k := 63) (n := 378) (by omega) (by omega) ?_
          exact px_eWi hA0 hQ hP hD hS hx hb hr hlocks dL_reads_28
  intro H locs hP hS
  refine lv_iconst (v := (nI 0)) hx hb dL_reads_0 (by decide) ?_
  refine lv_istore_n (lv' := [(2, .int (nI 0)), (0, .ref (b_o 0 0)), (1, .ref q1)]) hx hb dL_reads_1 rfl hl (by decide) rfl (fun ls hl => ?_)
  exact L2 62 ((nI 0)) (τ_o) _ _ (by omega) (by omega) H locs ls hP hD hS (lv_sub hl [1, 2, 0] rfl) h
def fL_is (x1 : Int32) (x2 : Int32) (τ_o : TO) : Option (Bool × TO) := ((t_refusal ((nI 0)) (τ_o)).bind fun (r1, w2) => (if r1 = x1 then ((t_refusal ((nI 1)) (w2)).bind fun (r5, w6) => (if r5 = x2 then (some (true, w6)) else (some (false, w6)))) else (some (false, w2))))
set_option maxHeartbeats 4000000 in
set_option maxRecDepth 100000 in
theorem mL_is (l : Launch) (hlt : l.stackTraces = false) (E : PE) (X : PX) (L : LX) (b_o : Nat → Nat → Nat)  (x1 : Int32) (x2 : Int32) (τ_o : TO) (r : Bool) (z_o_τ : TO) (h : fL_is x1 x2 τ_o = some (r, z_o_τ)) : MZ l yL_is cL_is 3 (some .boolean) { frames := 8, cells := 2, slots := 12, locals := 133 } E X L [.ref (b_o 0 0), .int x1, .int x2] ([gO E b_o τ_o] : List va_W).flatten 2 12 (some (.int (b2i r))) ([gO E b_o z_o_τ] : List va_W).flatten := by
  refine px_startZ (by decide +kernel) (Nat.le_of_ble_eq_true rfl) ?_
  intro p e s m args below meth c R Q A ls hC hX hL hA0 hQ
  obtain ⟨hx, hb, hr, hml, hts, hown, hlocks, hR, hK, hN, hP, hD, hA, hl, hin⟩ := hC
  have hl : lv_has ls 3 [(0, .ref (b_o 0 0)), (1, .int x1), (2, .int x2)] := hl
  suffices key : ∀ (H : Heap) (locs : List Loc), va_P E.1 vwCl ([gO E b_o τ_o] : List va_W).flatten H → va_S A s.heap H locs → W p l e R s m args below meth c H locs 0 0 Q (F0 m 0 ls []) from key s.heap [] hP va_S.rf
  unfold fL_is at h
  intro H locs hP hS
  refine lv_aload_n hx hb dL_is_0 rfl (lv_at hl 0 rfl) ?_
  refine lv_iconst (v := (nI 0)) hx hb dL_is_1 (by decide) ?_
  obtain ⟨⟨r1, w2⟩, hr3, h⟩ := ob h
  dsimp only at h
  refine px_SL (As := [.ref (b_o 0 0), .int (nI 0)]) (rest := []) (gs := ([gO E b_o τ_o] : List va_W)) (gr := ([] : List va_W)) (gc := ([gO E b_o τ_o] : List va_W)) (g1 := ([gO E b_o w2] : List va_W)) (g2 := ([gO E b_o w2] : List va_W)) ⟨hx, hb, hml, hown, hts⟩ (mT_refusal l hlt E X L b_o ((nI 0))  (τ_o) r1 w2 hr3) (vx_cwSW 2 hts (wsw_s q912 q913 q17 q914) rfl rfl rfl hdS_L_refusal (by rw [hR]; first | exact ⟨Nat.le_of_ble_eq_true rfl, Nat.le_of_ble_eq_true rfl⟩ | exact ⟨by show _ ≤ (2 : Nat); omega, by show _ ≤ (12 : Nat); omega⟩)) hK hN hX hL hP hD hS hA [] [0] [0] rfl rfl (by decide) (by decide) rfl (by decide) rfl hl.1 rfl (Nat.le_of_ble_eq_true rfl) dL_is_2 (by rw [hR]; first | exact ⟨Nat.le_of_ble_eq_true rfl, Nat.le_of_ble_eq_true rfl⟩ | exact ⟨by show _ ≤ (2 : Nat); omega, by show _ ≤ (12 : Nat); omega⟩) (fun H locs hP hD hS => ?_)
  refine W.eq (g2 := F0 m 5 ls [.int r1]) rfl ?_
  refine lv_iload_n hx hb dL_is_5 rfl (lv_at hl 1 rfl) ?_
  refine lv_icmp_ne (tgt := 22) hx hb dL_is_6 (by decide) (fun c4 => ?_) (fun c4 => ?_)
  · rw [if_neg c4] at h
    refine lv_iconst (v := (nI 0)) hx hb dL_is_22 (by decide) ?_
    cases h
    refine W.eq (g2 := F0 m 23 ls [.int (b2i false)]) rfl ?_
    refine W.widen (k := 2) (n := 12) (by omega) (by omega) ?_
    exact px_eWz (b2i_n _) hA0 hQ hP hD hS hx hb hr hlocks dL_is_23
  · rw [if_pos c4] at h
    refine lv_aload_n hx hb dL_is_9 rfl (lv_at hl 0 rfl) ?_
    refine lv_iconst (v := (nI 1)) hx hb dL_is_10 (by decide) ?_
    obtain ⟨⟨r5, w6⟩, hr7, h⟩ := ob h
    dsimp only at h
    refine px_SL (As := [.ref (b_o 0 0), .int (nI 1)]) (rest := []) (gs := ([gO E b_o w2] : List va_W)) (gr := ([] : List va_W)) (gc := ([gO E b_o w2] : List va_W)) (g1 := ([gO E b_o w6] : List va_W)) (g2 := ([gO E b_o w6] : List va_W)) ⟨hx, hb, hml, hown, hts⟩ (mT_refusal l hlt E X L b_o ((nI 1))  (w2) r5 w6 hr7) (vx_cwSW 2 hts (wsw_s q912 q913 q17 q914) rfl rfl rfl hdS_L_refusal (by rw [hR]; first | exact ⟨Nat.le_of_ble_eq_true rfl, Nat.le_of_ble_eq_true rfl⟩ | exact ⟨by show _ ≤ (2 : Nat); omega, by show _ ≤ (12 : Nat); omega⟩)) hK hN hX hL hP hD hS hA [] [0] [0] rfl rfl (by decide) (by decide) rfl (by decide) rfl hl.1 rfl (Nat.le_of_ble_eq_true rfl) dL_is_11 (by rw [hR]; first | exact ⟨Nat.le_of_ble_eq_true rfl, Nat.le_of_ble_eq_true rfl⟩ | exact ⟨by show _ ≤ (2 : Nat); omega, by show _ ≤ (12 : Nat); omega⟩) (fun H locs hP hD hS => ?_)
    refine W.eq (g2 := F0 m 14 ls [.int r5]) rfl ?_
    refine lv_iload_n hx hb dL_is_14 rfl (lv_at hl 2 rfl) ?_
    refine lv_icmp_ne (tgt := 22) hx hb dL_is_15 (by decide) (fun c8 => ?_) (fun c8 => ?_)
    · rw [if_neg c8] at h
      refine lv_iconst (v := (nI 0)) hx hb dL_is_22 (by decide) ?_
      cases h
      refine W.eq (g2 := F0 m 23 ls [.int (b2i false)]) rfl ?_
      refine W.widen (k := 2) (n := 12) (by omega) (by omega) ?_
      exact px_eWz (b2i_n _) hA0 hQ hP hD hS hx hb hr hlocks dL_is_23
    · rw [if_pos c8] at h
      refine lv_iconst (v := (nI 1)) hx hb dL_is_18 (by decide) ?_
      refine lv_goto (tgt := 23) hx hb dL_is_19 (by decide) ?_
      cases h
      refine W.eq (g2 := F0 m 23 ls [.int (b2i true)]) rfl ?_
      refine W.widen (k := 2) (n := 12) (by omega) (by omega) ?_
      exact px_eWz (b2i_n _) hA0 hQ hP hD hS hx hb hr hlocks dL_is_23
def fL_makes_L61 (L : LX) : Nat → Int32 → TO → Option (Bool × TO)
  | 0, _, _ => none
  | n + 1, x2, τ_o => (if (nI 9) ≤ x2 then ((fL_at (L) ((nI 12))).bind fun r19 => ((fL_some (r19) ((nI 4))).bind fun r21 => ((t_merge ((nI 0)) ((nI 1)) (r21) (τ_o)).bind fun (r23, w24) => (if 0 ≤ r23 then ((fL_at (L) ((nI 13))).bind fun r27 => ((t_account ((nI 0)) (w24)).bind fun (r29, w30) => ((fL_some (r27) ((r29 - (nI 1)))).bind fun r32 => ((fL_at (L) ((nI 14))).bind fun r34 => ((fL_some (r34) ((nI 4))).bind fun r36 => ((t_pick ((nI 2)) (((nI 1) + r32)) (r36) (w30)).bind fun (r38, w39) => (if 0 ≤ r38 then (some (true, w39)) else (if r38 = (-1003 : Int32) then (some (true, w39)) else (some (false, w39)))))))))) else (if r23 = (-1003 : Int32) then ((fL_at (L) ((nI 13))).bind fun r44 => ((t_account ((nI 0)) (w24)).bind fun (r46, w47) => ((fL_some (r44) ((r46 - (nI 1)))).bind fun r49 => ((fL_at (L) ((nI 14))).bind fun r51 => ((fL_some (r51) ((nI 4))).bind fun r53 => ((t_pick ((nI 2)) (((nI 1) + r49)) (r53) (w47)).bind fun (r55, w56) => (if 0 ≤ r55 then (some (true, w56)) else (if r55 = (-1003 : Int32) then (some (true, w56)) else (some (false, w56)))))))))) else (some (false, w24))))))) else ((fL_at (L) (((nI 3) + x2))).bind fun r60 => ((fL_some ((r60 ^^^ (x2 * (nI 7919)))) ((nI 3))).bind fun r62 => ((fL_some (((r60 ^^^ (x2 * (nI 7919))) >>> ((nI 2) &&& 31))) ((nI 6))).bind fun r64 => ((fL_some (((r60 ^^^ (x2 * (nI 7919))) >>> ((nI 5) &&& 31))) ((nI 100))).bind fun r66 => ((t_edit (r62) (r64) (r66) (τ_o)).bind fun (r68, w69) => (if 0 ≤ r68 then (fL_makes_L61 L n ((x2 + nI 1)) (w69)) else (if r68 = (-1003 : Int32) then ((t_refusal ((nI 0)) (w69)).bind fun (r73, w74) => (if r73 = (nI 2) then (fL_makes_L61 L n ((x2 + nI 1)) (w74)) else (some (false, w74)))) else (some (false, w69))))))))))
def fL_makes_L2 (L : LX) : Nat → Int32 → TO → Option (Bool × TO)
  | 0, _, _ => none
  | n + 1, x2, τ_o => (if (nI 3) ≤ x2 then ((t_fork ((nI 0)) (τ_o)).bind fun (r2, w3) => (if r2 = (nI 1) then ((t_fork ((nI 0)) (w3)).bind fun (r6, w7) => (if r6 = (nI 2) then (fL_makes_L61 L 10 ((nI 0)) (w7)) else (some (false, w7)))) else (some (false, w3)))) else ((fL_at (L) (x2)).bind fun r10 => ((fL_some (r10) ((nI 99))).bind fun r12 => ((t_edit ((nI 0)) (x2) (((nI 1) + r12)) (τ_o)).bind fun (r14, w15) => (if r14 = (x2 + (nI 1)) then (fL_makes_L2 L n ((x2 + nI 1)) (w15)) else (some (false, w15)))))))
def fL_makes (L : LX) (τ_o : TO) : Option (Bool × TO) := (fL_makes_L2 L 4 ((nI 0)) (τ_o))
set_option maxHeartbeats 4000000 in
set_option maxRecDepth 100000 in
theorem mL_makes (l : Launch) (hlt : l.stackTraces = false) (E : PE) (X : PX) (L : LX) (b_o : Nat → Nat → Nat)   (τ_o : TO) (r : Bool) (z_o_τ : TO) (h : fL_makes L τ_o = some (r, z_o_τ)) : MZ l yL_makes cL_makes 5 (some .boolean) { frames := 9, cells := 29, slots := 174, locals := 158 } E X L [.ref (b_o 0 0), .ref L.1.1] ([gO E b_o τ_o] : List va_W).flatten 29 174 (some (.int (b2i r))) ([gO E b_o z_o_τ] : List va_W).flatten := by
  refine px_startZ (by decide +kernel) (Nat.le_of_ble_eq_true rfl) ?_
  intro p e s m args below meth c R Q A ls hC hX hL hA0 hQ
  obtain ⟨hx, hb, hr, hml, hts, hown, hlocks, hR, hK, hN, hP, hD, hA, hl, hin⟩ := hC
  have hl : lv_has ls 5 [(0, .ref (b_o 0 0)), (1, .ref L.1.1)] := hl
  suffices key : ∀ (H : Heap) (locs : List Loc), va_P E.1 vwCl ([gO E b_o τ_o] : List va_W).flatten H → va_S A s.heap H locs → W p l e R s m args below meth c H locs 0 0 Q (F0 m 0 ls []) from key s.heap [] hP va_S.rf
  unfold fL_makes at h
  have L61 : ∀ (n : Nat) (x2 : Int32) (τ_o : TO) (cc ss : Nat), cc + n * 2 + 3 ≤ 29 → ss + n * 12 + 18 ≤ 174 → ∀ (H : Heap) (locs : List Loc) (ls : Array Slot), va_P E.1 vwCl ([gO E b_o τ_o] : List va_W).flatten H → va_D A ([gO E b_o τ_o] : List va_W).flatten → va_S A s.heap H locs → lv_has ls 5 [(0, .ref (b_o 0 0)), (1, .ref L.1.1), (2, .int x2)] → fL_makes_L61 L n x2 τ_o = some (r, z_o_τ) → W p l e R s m args below meth c H locs cc ss Q (F0 m 61 ls []) := by
    intro n
    induction n with
    | zero =>
      intro x2 τ_o cc ss hcc hss H locs ls hP hD hS hl h
      unfold fL_makes_L61 at h; cases h
    | succ n ih =>
      intro x2 τ_o cc ss hcc hss H locs ls hP hD hS hl h
      unfold fL_makes_L61 at h
      refine lv_iload_n hx hb dL_makes_61 rfl (lv_at hl 2 rfl) ?_
      refine lv_bipush (v := (nI 9)) hx hb dL_makes_62 (by decide) ?_
      refine lv_icmp_ge (tgt := 138) hx hb dL_makes_64 (by decide) (fun c18 => ?_) (fun c18 => ?_)
      · rw [if_pos c18] at h
        refine lv_aload_n hx hb dL_makes_138 rfl (lv_at hl 0 rfl) ?_
        refine lv_iconst (v := (nI 0)) hx hb dL_makes_139 (by decide) ?_
        refine lv_iconst (v := (nI 1)) hx hb dL_makes_140 (by decide) ?_
        refine lv_aload_n hx hb dL_makes_141 rfl (lv_at hl 1 rfl) ?_
        refine lv_bipush (v := (nI 12)) hx hb dL_makes_142 (by decide) ?_
        obtain ⟨r19, hr20, h⟩ := ob h
        refine px_SZ (As := [.ref L.1.1, .int (nI 12)]) (rest := [.int (nI 1), .int (nI 0), .ref (b_o 0 0)]) (gs := ([gO E b_o τ_o] : List va_W)) (gr := ([gO E b_o τ_o] : List va_W)) (gc := ([] : List va_W)) (g1 := ([] : List va_W)) (g2 := ([gO E b_o τ_o] : List va_W)) ⟨hx, hb, hml, hown, hts⟩ (mL_at l hlt E X L  ((nI 12))   r19 hr20) (va_cwS 2 hts (ws_s q267 q268 q17 q269) rfl rfl rfl hdS_L_at (by rw [hR]; first | exact ⟨Nat.le_of_ble_eq_true rfl, Nat.le_of_ble_eq_true rfl⟩ | exact ⟨by show _ ≤ (29 : Nat); omega, by show _ ≤ (174 : Nat); omega⟩)) hK hN hX hL hP hD hS hA [0] [] [0] rfl rfl (by decide) (by decide) rfl (by decide) rfl hl.1 rfl (Nat.le_of_ble_eq_true rfl) dL_makes_144 (by rw [hR]; first | exact ⟨Nat.le_of_ble_eq_true rfl, Nat.le_of_ble_eq_true rfl⟩ | exact ⟨by show _ ≤ (29 : Nat); omega, by show _ ≤ (174 : Nat); omega⟩) (fun H locs hP hD hS => ?_)
        refine W.eq (g2 := F0 m 147 ls [.int r19, .int (nI 1), .int (nI 0), .ref (b_o 0 0)]) rfl ?_
        refine lv_iconst (v := (nI 4)) hx hb dL_makes_147 (by decide) ?_
        obtain ⟨r21, hr22, h⟩ := ob h
        refine px_Sp (As := [.int r19, .int (nI 4)]) (rest := [.int (nI 1), .int (nI 0), .ref (b_o 0 0)]) (gs := ([gO E b_o τ_o] : List va_W)) (gc := ([] : List va_W)) ⟨hx, hb, hml, hown, hts⟩ (mL_some l E   (r19) ((nI 4))  r21 hr22) (va_cwS 2 hts (ws_s q931 q932 q17 q933) rfl rfl rfl hdS_L_some (by rw [hR]; first | exact ⟨Nat.le_of_ble_eq_true rfl, Nat.le_of_ble_eq_true rfl⟩ | exact ⟨by show _ ≤ (29 : Nat); omega, by show _ ≤ (174 : Nat); omega⟩)) hK hN hP hD [] rfl (by decide) rfl hl.1 rfl (Nat.le_of_ble_eq_true rfl) dL_makes_148 (by rw [hR]; first | exact ⟨Nat.le_of_ble_eq_true rfl, Nat.le_of_ble_eq_true rfl⟩ | exact ⟨by show _ ≤ (29 : Nat); omega, by show _ ≤ (174 : Nat); omega⟩) ?_
        refine W.eq (g2 := F0 m 151 ls [.int r21, .int (nI 1), .int (nI 0), .ref (b_o 0 0)]) rfl ?_
        obtain ⟨⟨r23, w24⟩, hr25, h⟩ := ob h
        dsimp only at h
        refine px_SL (As := [.ref (b_o 0 0), .int (nI 0), .int (nI 1), .int r21]) (rest := []) (gs := ([gO E b_o τ_o] : List va_W)) (gr := ([] : List va_W)) (gc := ([gO E b_o τ_o] : List va_W)) (g1 := ([gO E b_o w24] : List va_W)) (g2 := ([gO E b_o w24] : List va_W)) ⟨hx, hb, hml, hown, hts⟩ (mT_merge l hlt E X L b_o ((nI 0)) ((nI 1)) (r21)  (τ_o) r23 w24 hr25) (vx_cwSW 4 hts (wsw_s q548 q549 q17 q550) rfl rfl rfl hdS_L_merge (by rw [hR]; first | exact ⟨Nat.le_of_ble_eq_true rfl, Nat.le_of_ble_eq_true rfl⟩ | exact ⟨by show _ ≤ (29 : Nat); omega, by show _ ≤ (174 : Nat); omega⟩)) hK hN hX hL hP hD hS hA [] [0] [0] rfl rfl (by decide) (by decide) rfl (by decide) rfl hl.1 rfl (Nat.le_of_ble_eq_true rfl) dL_makes_151 (by rw [hR]; first | exact ⟨Nat.le_of_ble_eq_true rfl, Nat.le_of_ble_eq_true rfl⟩ | exact ⟨by show _ ≤ (29 : Nat); omega, by show _ ≤ (174 : Nat); omega⟩) (fun H locs hP hD hS => ?_)
        refine W.eq (g2 := F0 m 154 ls [.int r23]) rfl ?_
        refine lv_istore_n (lv' := [(2, .int r23), (0, .ref (b_o 0 0)), (1, .ref L.1.1)]) hx hb dL_makes_154 rfl hl (by decide) rfl (fun ls hl => ?_)
        refine lv_iload_n hx hb dL_makes_155 rfl (lv_at hl 0 rfl) ?_
        refine lv_if_ge (tgt := 168) hx hb dL_makes_156 (by decide) (fun c26 => ?_) (fun c26 => ?_)
        · rw [if_pos c26] at h
          refine lv_aload_n hx hb dL_makes_168 rfl (lv_at hl 1 rfl) ?_
          refine lv_iconst (v := (nI 2)) hx hb dL_makes_169 (by decide) ?_
          refine lv_iconst (v := (nI 1)) hx hb dL_makes_170 (by decide) ?_
          refine lv_aload_n hx hb dL_makes_171 rfl (lv_at hl 2 rfl) ?_
          refine lv_bipush (v := (nI 13)) hx hb dL_makes_172 (by decide) ?_
          obtain ⟨r27, hr28, h⟩ := ob h
          refine px_SZ (As := [.ref L.1.1, .int (nI 13)]) (rest := [.int (nI 1), .int (nI 2), .ref (b_o 0 0)]) (gs := ([gO E b_o w24] : List va_W)) (gr := ([gO E b_o w24] : List va_W)) (gc := ([] : List va_W)) (g1 := ([] : List va_W)) (g2 := ([gO E b_o w24] : List va_W)) ⟨hx, hb, hml, hown, hts⟩ (mL_at l hlt E X L  ((nI 13))   r27 hr28) (va_cwS 2 hts (ws_s q267 q268 q17 q269) rfl rfl rfl hdS_L_at (by rw [hR]; first | exact ⟨Nat.le_of_ble_eq_true rfl, Nat.le_of_ble_eq_true rfl⟩ | exact ⟨by show _ ≤ (29 : Nat); omega, by show _ ≤ (174 : Nat); omega⟩)) hK hN hX hL hP hD hS hA [0] [] [0] rfl rfl (by decide) (by decide) rfl (by decide) rfl hl.1 rfl (Nat.le_of_ble_eq_true rfl) dL_makes_174 (by rw [hR]; first | exact ⟨Nat.le_of_ble_eq_true rfl, Nat.le_of_ble_eq_true rfl⟩ | exact ⟨by show _ ≤ (29 : Nat); omega, by show _ ≤ (174 : Nat); omega⟩) (fun H locs hP hD hS => ?_)
          refine W.eq (g2 := F0 m 177 ls [.int r27, .int (nI 1), .int (nI 2), .ref (b_o 0 0)]) rfl ?_
          refine lv_aload_n hx hb dL_makes_177 rfl (lv_at hl 1 rfl) ?_
          refine lv_iconst (v := (nI 0)) hx hb dL_makes_178 (by decide) ?_
          obtain ⟨⟨r29, w30⟩, hr31, h⟩ := ob h
          dsimp only at h
          refine px_SL (As := [.ref (b_o 0 0), .int (nI 0)]) (rest := [.int r27, .int (nI 1), .int (nI 2), .ref (b_o 0 0)]) (gs := ([gO E b_o w24] : List va_W)) (gr := ([] : List va_W)) (gc := ([gO E b_o w24] : List va_W)) (g1 := ([gO E b_o w30] : List va_W)) (g2 := ([gO E b_o w30] : List va_W)) ⟨hx, hb, hml, hown, hts⟩ (mT_account l hlt E X L b_o ((nI 0))  (w24) r29 w30 hr31) (vx_cwSW 2 hts (wsw_s q848 q849 q17 q850) rfl rfl rfl hdS_L_account (by rw [hR]; first | exact ⟨Nat.le_of_ble_eq_true rfl, Nat.le_of_ble_eq_true rfl⟩ | exact ⟨by show _ ≤ (29 : Nat); omega, by show _ ≤ (174 : Nat); omega⟩)) hK hN hX hL hP hD hS hA [] [0] [0] rfl rfl (by decide) (by decide) rfl (by decide) rfl hl.1 rfl (Nat.le_of_ble_eq_true rfl) dL_makes_179 (by rw [hR]; first | exact ⟨Nat.le_of_ble_eq_true rfl, Nat.le_of_ble_eq_true rfl⟩ | exact ⟨by show _ ≤ (29 : Nat); omega, by show _ ≤ (174 : Nat); omega⟩) (fun H locs hP hD hS => ?_)
          refine W.eq (g2 := F0 m 182 ls [.int r29, .int r27, .int (nI 1), .int (nI 2), .ref (b_o 0 0)]) rfl ?_
          refine lv_iconst (v := (nI 1)) hx hb dL_makes_182 (by decide) ?_
          refine lv_isub hx hb dL_makes_183 ?_
          obtain ⟨r32, hr33, h⟩ := ob h
          refine px_Sp (As := [.int r27, .int (r29 - (nI 1))]) (rest := [.int (nI 1), .int (nI 2), .ref (b_o 0 0)]) (gs := ([gO E b_o w30] : List va_W)) (gc := ([] : List va_W)) ⟨hx, hb, hml, hown, hts⟩ (mL_some l E   (r27) ((r29 - (nI 1)))  r32 hr33) (va_cwS 2 hts (ws_s q931 q932 q17 q933) rfl rfl rfl hdS_L_some (by rw [hR]; first | exact ⟨Nat.le_of_ble_eq_true rfl, Nat.le_of_ble_eq_true rfl⟩ | exact ⟨by show _ ≤ (29 : Nat); omega, by show _ ≤ (174 : Nat); omega⟩)) hK hN hP hD [] rfl (by decide) rfl hl.1 rfl (Nat.le_of_ble_eq_true rfl) dL_makes_184 (by rw [hR]; first | exact ⟨Nat.le_of_ble_eq_true rfl, Nat.le_of_ble_eq_true rfl⟩ | exact ⟨by show _ ≤ (29 : Nat); omega, by show _ ≤ (174 : Nat); omega⟩) ?_
          refine W.eq (g2 := F0 m 187 ls [.int r32, .int (nI 1), .int (nI 2), .ref (b_o 0 0)]) rfl ?_
          refine lv_iadd hx hb dL_makes_187 ?_
          refine lv_aload_n hx hb dL_makes_188 rfl (lv_at hl 2 rfl) ?_
          refine lv_bipush (v := (nI 14)) hx hb dL_makes_189 (by decide) ?_
          obtain ⟨r34, hr35, h⟩ := ob h
          refine px_SZ (As := [.ref L.1.1, .int (nI 14)]) (rest := [.int ((nI 1) + r32), .int (nI 2), .ref (b_o 0 0)]) (gs := ([gO E b_o w30] : List va_W)) (gr := ([gO E b_o w30] : List va_W)) (gc := ([] : List va_W)) (g1 := ([] : List va_W)) (g2 := ([gO E b_o w30] : List va_W)) ⟨hx, hb, hml, hown, hts⟩ (mL_at l hlt E X L  ((nI 14))   r34 hr35) (va_cwS 2 hts (ws_s q267 q268 q17 q269) rfl rfl rfl hdS_L_at (by rw [hR]; first | exact ⟨Nat.le_of_ble_eq_true rfl, Nat.le_of_ble_eq_true rfl⟩ | exact ⟨by show _ ≤ (29 : Nat); omega, by show _ ≤ (174 : Nat); omega⟩)) hK hN hX hL hP hD hS hA [0] [] [0] rfl rfl (by decide) (by decide) rfl (by decide) rfl hl.1 rfl (Nat.le_of_ble_eq_true rfl) dL_makes_191 (by rw [hR]; first | exact ⟨Nat.le_of_ble_eq_true rfl, Nat.le_of_ble_eq_true rfl⟩ | exact ⟨by show _ ≤ (29 : Nat); omega, by show _ ≤ (174 : Nat); omega⟩) (fun H locs hP hD hS => ?_)
          refine W.eq (g2 := F0 m 194 ls [.int r34, .int ((nI 1) + r32), .int (nI 2), .ref (b_o 0 0)]) rfl ?_
          refine lv_iconst (v := (nI 4)) hx hb dL_makes_194 (by decide) ?_
          obtain ⟨r36, hr37, h⟩ := ob h
          refine px_Sp (As := [.int r34, .int (nI 4)]) (rest := [.int ((nI 1) + r32), .int (nI 2), .ref (b_o 0 0)]) (gs := ([gO E b_o w30] : List va_W)) (gc := ([] : List va_W)) ⟨hx, hb, hml, hown, hts⟩ (mL_some l E   (r34) ((nI 4))  r36 hr37) (va_cwS 2 hts (ws_s q931 q932 q17 q933) rfl rfl rfl hdS_L_some (by rw [hR]; first | exact ⟨Nat.le_of_ble_eq_true rfl, Nat.le_of_ble_eq_true rfl⟩ | exact ⟨by show _ ≤ (29 : Nat); omega, by show _ ≤ (174 : Nat); omega⟩)) hK hN hP hD [] rfl (by decide) rfl hl.1 rfl (Nat.le_of_ble_eq_true rfl) dL_makes_195 (by rw [hR]; first | exact ⟨Nat.le_of_ble_eq_true rfl, Nat.le_of_ble_eq_true rfl⟩ | exact ⟨by show _ ≤ (29 : Nat); omega, by show _ ≤ (174 : Nat); omega⟩) ?_
          refine W.eq (g2 := F0 m 198 ls [.int r36, .int ((nI 1) + r32), .int (nI 2), .ref (b_o 0 0)]) rfl ?_
          obtain ⟨⟨r38, w39⟩, hr40, h⟩ := ob h
          dsimp only at h
          refine px_SL (As := [.ref (b_o 0 0), .int (nI 2), .int ((nI 1) + r32), .int r36]) (rest := []) (gs := ([gO E b_o w30] : List va_W)) (gr := ([] : List va_W)) (gc := ([gO E b_o w30] : List va_W)) (g1 := ([gO E b_o w39] : List va_W)) (g2 := ([gO E b_o w39] : List va_W)) ⟨hx, hb, hml, hown, hts⟩ (mT_pick l hlt E X L b_o ((nI 2)) (((nI 1) + r32)) (r36)  (w30) r38 w39 hr40) (vx_cwSW 4 hts (wsw_s q934 q935 q17 q936) rfl rfl rfl hdS_L_pick (by rw [hR]; first | exact ⟨Nat.le_of_ble_eq_true rfl, Nat.le_of_ble_eq_true rfl⟩ | exact ⟨by show _ ≤ (29 : Nat); omega, by show _ ≤ (174 : Nat); omega⟩)) hK hN hX hL hP hD hS hA [] [0] [0] rfl rfl (by decide) (by decide) rfl (by decide) rfl hl.1 rfl (Nat.le_of_ble_eq_true rfl) dL_makes_198 (by rw [hR]; first | exact ⟨Nat.le_of_ble_eq_true rfl, Nat.le_of_ble_eq_true rfl⟩ | exact ⟨by show _ ≤ (29 : Nat); omega, by show _ ≤ (174 : Nat); omega⟩) (fun H locs hP hD hS => ?_)
          refine W.eq (g2 := F0 m 201 ls [.int r38]) rfl ?_
          refine lv_istore_n (lv' := [(2, .int r38), (0, .ref (b_o 0 0)), (1, .ref L.1.1)]) hx hb dL_makes_201 rfl hl (by decide) rfl (fun ls hl => ?_)
          refine lv_iload_n hx hb dL_makes_202 rfl (lv_at hl 0 rfl) ?_
          refine lv_if_ge (tgt := 213) hx hb dL_makes_203 (by decide) (fun c41 => ?_) (fun c41 => ?_)
          · rw [if_pos c41] at h
            refine lv_iconst (v := (nI 1)) hx hb dL_makes_213 (by decide) ?_
            refine lv_goto (tgt := 218) hx hb dL_makes_214 (by decide) ?_
            cases h
            refine W.eq (g2 := F0 m 218 ls [.int (b2i true)]) rfl ?_
            refine W.widen (k := 29) (n := 174) (by omega) (by omega) ?_
            exact px_eWz (b2i_n _) hA0 hQ hP hD hS hx hb hr hlocks dL_makes_218
          · rw [if_neg c41] at h
            refine lv_iload_n hx hb dL_makes_206 rfl (lv_at hl 0 rfl) ?_
            refine lv_sipush (v := (-1003 : Int32)) hx hb dL_makes_207 (by decide) ?_
            refine lv_icmp_ne (tgt := 217) hx hb dL_makes_210 (by decide) (fun c42 => ?_) (fun c42 => ?_)
            · rw [if_neg c42] at h
              refine lv_iconst (v := (nI 0)) hx hb dL_makes_217 (by decide) ?_
              cases h
              refine W.eq (g2 := F0 m 218 ls [.int (b2i false)]) rfl ?_
              refine W.widen (k := 29) (n := 174) (by omega) (by omega) ?_
              exact px_eWz (b2i_n _) hA0 hQ hP hD hS hx hb hr hlocks dL_makes_218
            · rw [if_pos c42] at h
              refine lv_iconst (v := (nI 1)) hx hb dL_makes_213 (by decide) ?_
              refine lv_goto (tgt := 218) hx hb dL_makes_214 (by decide) ?_
              cases h
              refine W.eq (g2 := F0 m 218 ls [.int (b2i true)]) rfl ?_
              refine W.widen (k := 29) (n := 174) (by omega) (by omega) ?_
              exact px_eWz (b2i_n _) hA0 hQ hP hD hS hx hb hr hlocks dL_makes_218
        · rw [if_neg c26] at h
          refine lv_iload_n hx hb dL_makes_159 rfl (lv_at hl 0 rfl) ?_
          refine lv_sipush (v := (-1003 : Int32)) hx hb dL_makes_160 (by decide) ?_
          refine lv_icmp_eq (tgt := 168) hx hb dL_makes_163 (by decide) (fun c43 => ?_) (fun c43 => ?_)
          · rw [if_pos c43] at h
            refine lv_aload_n hx hb dL_makes_168 rfl (lv_at hl 1 rfl) ?_
            refine lv_iconst (v := (nI 2)) hx hb dL_makes_169 (by decide) ?_
            refine lv_iconst (v := (nI 1)) hx hb dL_makes_170 (by decide) ?_
            refine lv_aload_n hx hb dL_makes_171 rfl (lv_at hl 2 rfl) ?_
            refine lv_bipush (v := (nI 13)) hx hb dL_makes_172 (by decide) ?_
            obtain ⟨r44, hr45, h⟩ := ob h
            refine px_SZ (As := [.ref L.1.1, .int (nI 13)]) (rest := [.int (nI 1), .int (nI 2), .ref (b_o 0 0)]) (gs := ([gO E b_o w24] : List va_W)) (gr := ([gO E b_o w24] : List va_W)) (gc := ([] : List va_W)) (g1 := ([] : List va_W)) (g2 := ([gO E b_o w24] : List va_W)) ⟨hx, hb, hml, hown, hts⟩ (mL_at l hlt E X L  ((nI 13))   r44 hr45) (va_cwS 2 hts (ws_s q267 q268 q17 q269) rfl rfl rfl hdS_L_at (by rw [hR]; first | exact ⟨Nat.le_of_ble_eq_true rfl, Nat.le_of_ble_eq_true rfl⟩ | exact ⟨by show _ ≤ (29 : Nat); omega, by show _ ≤ (174 : Nat); omega⟩)) hK hN hX hL hP hD hS hA [0] [] [0] rfl rfl (by decide) (by decide) rfl (by decide) rfl hl.1 rfl (Nat.le_of_ble_eq_true rfl) dL_makes_174 (by rw [hR]; first | exact ⟨Nat.le_of_ble_eq_true rfl, Nat.le_of_ble_eq_true rfl⟩ | exact ⟨by show _ ≤ (29 : Nat); omega, by show _ ≤ (174 : Nat); omega⟩) (fun H locs hP hD hS => ?_)
            refine W.eq (g2 := F0 m 177 ls [.int r44, .int (nI 1), .int (nI 2), .ref (b_o 0 0)]) rfl ?_
            refine lv_aload_n hx hb dL_makes_177 rfl (lv_at hl 1 rfl) ?_
            refine lv_iconst (v := (nI 0)) hx hb dL_makes_178 (by decide) ?_
            obtain ⟨⟨r46, w47⟩, hr48, h⟩ := ob h
            dsimp only at h
            refine px_SL (As := [.ref (b_o 0 0), .int (nI 0)]) (rest := [.int r44, .int (nI 1), .int (nI 2), .ref (b_o 0 0)]) (gs := ([gO E b_o w24] : List va_W)) (gr := ([] : List va_W)) (gc := ([gO E b_o w24] : List va_W)) (g1 := ([gO E b_o w47] : List va_W)) (g2 := ([gO E b_o w47] : List va_W)) ⟨hx, hb, hml, hown, hts⟩ (mT_account l hlt E X L b_o ((nI 0))  (w24) r46 w47 hr48) (vx_cwSW 2 hts (wsw_s q848 q849 q17 q850) rfl rfl rfl hdS_L_account (by rw [hR]; first | exact ⟨Nat.le_of_ble_eq_true rfl, Nat.le_of_ble_eq_true rfl⟩ | exact ⟨by show _ ≤ (29 : Nat); omega, by show _ ≤ (174 : Nat); omega⟩)) hK hN hX hL hP hD hS hA [] [0] [0] rfl rfl (by decide) (by decide) rfl (by decide) rfl hl.1 rfl (Nat.le_of_ble_eq_true rfl) dL_makes_179 (by rw [hR]; first | exact ⟨Nat.le_of_ble_eq_true rfl, Nat.le_of_ble_eq_true rfl⟩ | exact ⟨by show _ ≤ (29 : Nat); omega, by show _ ≤ (174 : Nat); omega⟩) (fun H locs hP hD hS => ?_)
            refine W.eq (g2 := F0 m 182 ls [.int r46, .int r44, .int (nI 1), .int (nI 2), .ref (b_o 0 0)]) rfl ?_
            refine lv_iconst (v := (nI 1)) hx hb dL_makes_182 (by decide) ?_
            refine lv_isub hx hb dL_makes_183 ?_
            obtain ⟨r49, hr50, h⟩ := ob h
            refine px_Sp (As := [.int r44, .int (r46 - (nI 1))]) (rest := [.int (nI 1), .int (nI 2), .ref (b_o 0 0)]) (gs := ([gO E b_o w47] : List va_W)) (gc := ([] : List va_W)) ⟨hx, hb, hml, hown, hts⟩ (mL_some l E   (r44) ((r46 - (nI 1)))  r49 hr50) (va_cwS 2 hts (ws_s q931 q932 q17 q933) rfl rfl rfl hdS_L_some (by rw [hR]; first | exact ⟨Nat.le_of_ble_eq_true rfl, Nat.le_of_ble_eq_true rfl⟩ | exact ⟨by show _ ≤ (29 : Nat); omega, by show _ ≤ (174 : Nat); omega⟩)) hK hN hP hD [] rfl (by decide) rfl hl.1 rfl (Nat.le_of_ble_eq_true rfl) dL_makes_184 (by rw [hR]; first | exact ⟨Nat.le_of_ble_eq_true rfl, Nat.le_of_ble_eq_true rfl⟩ | exact ⟨by show _ ≤ (29 : Nat); omega, by show _ ≤ (174 : Nat); omega⟩) ?_
            refine W.eq (g2 := F0 m 187 ls [.int r49, .int (nI 1), .int (nI 2), .ref (b_o 0 0)]) rfl ?_
            refine lv_iadd hx hb dL_makes_187 ?_
            refine lv_aload_n hx hb dL_makes_188 rfl (lv_at hl 2 rfl) ?_
            refine lv_bipush (v := (nI 14)) hx hb dL_makes_189 (by decide) ?_
            obtain ⟨r51, hr52, h⟩ := ob h
            refine px_SZ (As := [.ref L.1.1, .int (nI 14)]) (rest := [.int ((nI 1) + r49), .int (nI 2), .ref (b_o 0 0)]) (gs := ([gO E b_o w47] : List va_W)) (gr := ([gO E b_o w47] : List va_W)) (gc := ([] : List va_W)) (g1 := ([] : List va_W)) (g2 := ([gO E b_o w47] : List va_W)) ⟨hx, hb, hml, hown, hts⟩ (mL_at l hlt E X L  ((nI 14))   r51 hr52) (va_cwS 2 hts (ws_s q267 q268 q17 q269) rfl rfl rfl hdS_L_at (by rw [hR]; first | exact ⟨Nat.le_of_ble_eq_true rfl, Nat.le_of_ble_eq_true rfl⟩ | exact ⟨by show _ ≤ (29 : Nat); omega, by show _ ≤ (174 : Nat); omega⟩)) hK hN hX hL hP hD hS hA [0] [] [0] rfl rfl (by decide) (by decide) rfl (by decide) rfl hl.1 rfl (Nat.le_of_ble_eq_true rfl) dL_makes_191 (by rw [hR]; first | exact ⟨Nat.le_of_ble_eq_true rfl, Nat.le_of_ble_eq_true rfl⟩ | exact ⟨by show _ ≤ (29 : Nat); omega, by show _ ≤ (174 : Nat); omega⟩) (fun H locs hP hD hS => ?_)
            refine W.eq (g2 := F0 m 194 ls [.int r51, .int ((nI 1) + r49), .int (nI 2), .ref (b_o 0 0)]) rfl ?_
            refine lv_iconst (v := (nI 4)) hx hb dL_makes_194 (by decide) ?_
            obtain ⟨r53, hr54, h⟩ := ob h
            refine px_Sp (As := [.int r51, .int (nI 4)]) (rest := [.int ((nI 1) + r49), .int (nI 2), .ref (b_o 0 0)]) (gs := ([gO E b_o w47] : List va_W)) (gc := ([] : List va_W)) ⟨hx, hb, hml, hown, hts⟩ (mL_some l E   (r51) ((nI 4))  r53 hr54) (va_cwS 2 hts (ws_s q931 q932 q17 q933) rfl rfl rfl hdS_L_some (by rw [hR]; first | exact ⟨Nat.le_of_ble_eq_true rfl, Nat.le_of_ble_eq_true rfl⟩ | exact ⟨by show _ ≤ (29 : Nat); omega, by show _ ≤ (174 : Nat); omega⟩)) hK hN hP hD [] rfl (by decide) rfl hl.1 rfl (Nat.le_of_ble_eq_true rfl) dL_makes_195 (by rw [hR]; first | exact ⟨Nat.le_of_ble_eq_true rfl, Nat.le_of_ble_eq_true rfl⟩ | exact ⟨by show _ ≤ (29 : Nat); omega, by show _ ≤ (174 : Nat); omega⟩) ?_
            refine W.eq (g2 := F0 m 198 ls [.int r53, .int ((nI 1) + r49), .int (nI 2), .ref (b_o 0 0)]) rfl ?_
            obtain ⟨⟨r55, w56⟩, hr57, h⟩ := ob h
            dsimp only at h
            refine px_SL (As := [.ref (b_o 0 0), .int (nI 2), .int ((nI 1) + r49), .int r53]) (rest := []) (gs := ([gO E b_o w47] : List va_W)) (gr := ([] : List va_W)) (gc := ([gO E b_o w47] : List va_W)) (g1 := ([gO E b_o w56] : List va_W)) (g2 := ([gO E b_o w56] : List va_W)) ⟨hx, hb, hml, hown, hts⟩ (mT_pick l hlt E X L b_o ((nI 2)) (((nI 1) + r49)) (r53)  (w47) r55 w56 hr57) (vx_cwSW 4 hts (wsw_s q934 q935 q17 q936) rfl rfl rfl hdS_L_pick (by rw [hR]; first | exact ⟨Nat.le_of_ble_eq_true rfl, Nat.le_of_ble_eq_true rfl⟩ | exact ⟨by show _ ≤ (29 : Nat); omega, by show _ ≤ (174 : Nat); omega⟩)) hK hN hX hL hP hD hS hA [] [0] [0] rfl rfl (by decide) (by decide) rfl (by decide) rfl hl.1 rfl (Nat.le_of_ble_eq_true rfl) dL_makes_198 (by rw [hR]; first | exact ⟨Nat.le_of_ble_eq_true rfl, Nat.le_of_ble_eq_true rfl⟩ | exact ⟨by show _ ≤ (29 : Nat); omega, by show _ ≤ (174 : Nat); omega⟩) (fun H locs hP hD hS => ?_)
            refine W.eq (g2 := F0 m 201 ls [.int r55]) rfl ?_
            refine lv_istore_n (lv' := [(2, .int r55), (0, .ref (b_o 0 0)), (1, .ref L.1.1)]) hx hb dL_makes_201 rfl hl (by decide) rfl (fun ls hl => ?_)
            refine lv_iload_n hx hb dL_makes_202 rfl (lv_at hl 0 rfl) ?_
            refine lv_if_ge (tgt := 213) hx hb dL_makes_203 (by decide) (fun c58 => ?_) (fun c58 => ?_)
            · rw [if_pos c58] at h
              refine lv_iconst (v := (nI 1)) hx hb dL_makes_213 (by decide) ?_
              refine lv_goto (tgt := 218) hx hb dL_makes_214 (by decide) ?_
              cases h
              refine W.eq (g2 := F0 m 218 ls [.int (b2i true)]) rfl ?_
              refine W.widen (k := 29) (n := 174) (by omega) (by omega) ?_
              exact px_eWz (b2i_n _) hA0 hQ hP hD hS hx hb hr hlocks dL_makes_218
            · rw [if_neg c58] at h
              refine lv_iload_n hx hb dL_makes_206 rfl (lv_at hl 0 rfl) ?_
              refine lv_sipush (v := (-1003 : Int32)) hx hb dL_makes_207 (by decide) ?_
              refine lv_icmp_ne (tgt := 217) hx hb dL_makes_210 (by decide) (fun c59 => ?_) (fun c59 => ?_)
              · rw [if_neg c59] at h
                refine lv_iconst (v := (nI 0)) hx hb dL_makes_217 (by decide) ?_
                cases h
                refine W.eq (g2 := F0 m 218 ls [.int (b2i false)]) rfl ?_
                refine W.widen (k := 29) (n := 174) (by omega) (by omega) ?_
                exact px_eWz (b2i_n _) hA0 hQ hP hD hS hx hb hr hlocks dL_makes_218
              · rw [if_pos c59] at h
                refine lv_iconst (v := (nI 1)) hx hb dL_makes_213 (by decide) ?_
                refine lv_goto (tgt := 218) hx hb dL_makes_214 (by decide) ?_
                cases h
                refine W.eq (g2 := F0 m 218 ls [.int (b2i true)]) rfl ?_
                refine W.widen (k := 29) (n := 174) (by omega) (by omega) ?_
                exact px_eWz (b2i_n _) hA0 hQ hP hD hS hx hb hr hlocks dL_makes_218
          · rw [if_neg c43] at h
            refine lv_iconst (v := (nI 0)) hx hb dL_makes_166 (by decide) ?_
            cases h
            refine W.eq (g2 := F0 m 167 ls [.int (b2i false)]) rfl ?_
            refine W.widen (k := 29) (n := 174) (by omega) (by omega) ?_
            exact px_eWz (b2i_n _) hA0 hQ hP hD hS hx hb hr hlocks dL_makes_167
      · rw [if_neg c18] at h
        refine lv_aload_n hx hb dL_makes_67 rfl (lv_at hl 1 rfl) ?_
        refine lv_iconst (v := (nI 3)) hx hb dL_makes_68 (by decide) ?_
        refine lv_iload_n hx hb dL_makes_69 rfl (lv_at hl 2 rfl) ?_
        refine lv_iadd hx hb dL_makes_70 ?_
        obtain ⟨r60, hr61, h⟩ := ob h
        refine px_SZ (As := [.ref L.1.1, .int ((nI 3) + x2)]) (rest := []) (gs := ([gO E b_o τ_o] : List va_W)) (gr := ([gO E b_o τ_o] : List va_W)) (gc := ([] : List va_W)) (g1 := ([] : List va_W)) (g2 := ([gO E b_o τ_o] : List va_W)) ⟨hx, hb, hml, hown, hts⟩ (mL_at l hlt E X L  (((nI 3) + x2))   r60 hr61) (va_cwS 2 hts (ws_s q267 q268 q17 q269) rfl rfl rfl hdS_L_at (by rw [hR]; first | exact ⟨Nat.le_of_ble_eq_true rfl, Nat.le_of_ble_eq_true rfl⟩ | exact ⟨by show _ ≤ (29 : Nat); omega, by show _ ≤ (174 : Nat); omega⟩)) hK hN hX hL hP hD hS hA [0] [] [0] rfl rfl (by decide) (by decide) rfl (by decide) rfl hl.1 rfl (Nat.le_of_ble_eq_true rfl) dL_makes_71 (by rw [hR]; first | exact ⟨Nat.le_of_ble_eq_true rfl, Nat.le_of_ble_eq_true rfl⟩ | exact ⟨by show _ ≤ (29 : Nat); omega, by show _ ≤ (174 : Nat); omega⟩) (fun H locs hP hD hS => ?_)
        refine W.eq (g2 := F0 m 74 ls [.int r60]) rfl ?_
        refine lv_iload_n hx hb dL_makes_74 rfl (lv_at hl 2 rfl) ?_
        refine lv_sipush (v := (nI 7919)) hx hb dL_makes_75 (by decide) ?_
        refine lv_imul hx hb dL_makes_78 ?_
        refine lv_ixor hx hb dL_makes_79 ?_
        refine lv_istore_n (lv' := [(3, .int (r60 ^^^ (x2 * (nI 7919)))), (0, .ref (b_o 0 0)), (1, .ref L.1.1), (2, .int x2)]) hx hb dL_makes_80 rfl hl (by decide) rfl (fun ls hl => ?_)
        refine lv_aload_n hx hb dL_makes_81 rfl (lv_at hl 1 rfl) ?_
        refine lv_iload_n hx hb dL_makes_82 rfl (lv_at hl 0 rfl) ?_
        refine lv_iconst (v := (nI 3)) hx hb dL_makes_83 (by decide) ?_
        obtain ⟨r62, hr63, h⟩ := ob h
        refine px_Sp (As := [.int (r60 ^^^ (x2 * (nI 7919))), .int (nI 3)]) (rest := [.ref (b_o 0 0)]) (gs := ([gO E b_o τ_o] : List va_W)) (gc := ([] : List va_W)) ⟨hx, hb, hml, hown, hts⟩ (mL_some l E   ((r60 ^^^ (x2 * (nI 7919)))) ((nI 3))  r62 hr63) (va_cwS 2 hts (ws_s q931 q932 q17 q933) rfl rfl rfl hdS_L_some (by rw [hR]; first | exact ⟨Nat.le_of_ble_eq_true rfl, Nat.le_of_ble_eq_true rfl⟩ | exact ⟨by show _ ≤ (29 : Nat); omega, by show _ ≤ (174 : Nat); omega⟩)) hK hN hP hD [] rfl (by decide) rfl hl.1 rfl (Nat.le_of_ble_eq_true rfl) dL_makes_84 (by rw [hR]; first | exact ⟨Nat.le_of_ble_eq_true rfl, Nat.le_of_ble_eq_true rfl⟩ | exact ⟨by show _ ≤ (29 : Nat); omega, by show _ ≤ (174 : Nat); omega⟩) ?_
        refine W.eq (g2 := F0 m 87 ls [.int r62, .ref (b_o 0 0)]) rfl ?_
        refine lv_iload_n hx hb dL_makes_87 rfl (lv_at hl 0 rfl) ?_
        refine lv_iconst (v := (nI 2)) hx hb dL_makes_88 (by decide) ?_
        refine lv_ishr hx hb dL_makes_89 ?_
        refine lv_bipush (v := (nI 6)) hx hb dL_makes_90 (by decide) ?_
        obtain ⟨r64, hr65, h⟩ := ob h
        refine px_Sp (As := [.int ((r60 ^^^ (x2 * (nI 7919))) >>> ((nI 2) &&& 31)), .int (nI 6)]) (rest := [.int r62, .ref (b_o 0 0)]) (gs := ([gO E b_o τ_o] : List va_W)) (gc := ([] : List va_W)) ⟨hx, hb, hml, hown, hts⟩ (mL_some l E   (((r60 ^^^ (x2 * (nI 7919))) >>> ((nI 2) &&& 31))) ((nI 6))  r64 hr65) (va_cwS 2 hts (ws_s q931 q932 q17 q933) rfl rfl rfl hdS_L_some (by rw [hR]; first | exact ⟨Nat.le_of_ble_eq_true rfl, Nat.le_of_ble_eq_true rfl⟩ | exact ⟨by show _ ≤ (29 : Nat); omega, by show _ ≤ (174 : Nat); omega⟩)) hK hN hP hD [] rfl (by decide) rfl hl.1 rfl (Nat.le_of_ble_eq_true rfl) dL_makes_92 (by rw [hR]; first | exact ⟨Nat.le_of_ble_eq_true rfl, Nat.le_of_ble_eq_true rfl⟩ | exact ⟨by show _ ≤ (29 : Nat); omega, by show _ ≤ (174 : Nat); omega⟩) ?_
        refine W.eq (g2 := F0 m 95 ls [.int r64, .int r62, .ref (b_o 0 0)]) rfl ?_
        refine lv_iload_n hx hb dL_makes_95 rfl (lv_at hl 0 rfl) ?_
        refine lv_iconst (v := (nI 5)) hx hb dL_makes_96 (by decide) ?_
        refine lv_ishr hx hb dL_makes_97 ?_
        refine lv_bipush (v := (nI 100)) hx hb dL_makes_98 (by decide) ?_
        obtain ⟨r66, hr67, h⟩ := ob h
        refine px_Sp (As := [.int ((r60 ^^^ (x2 * (nI 7919))) >>> ((nI 5) &&& 31)), .int (nI 100)]) (rest := [.int r64, .int r62, .ref (b_o 0 0)]) (gs := ([gO E b_o τ_o] : List va_W)) (gc := ([] : List va_W)) ⟨hx, hb, hml, hown, hts⟩ (mL_some l E   (((r60 ^^^ (x2 * (nI 7919))) >>> ((nI 5) &&& 31))) ((nI 100))  r66 hr67) (va_cwS 2 hts (ws_s q931 q932 q17 q933) rfl rfl rfl hdS_L_some (by rw [hR]; first | exact ⟨Nat.le_of_ble_eq_true rfl, Nat.le_of_ble_eq_true rfl⟩ | exact ⟨by show _ ≤ (29 : Nat); omega, by show _ ≤ (174 : Nat); omega⟩)) hK hN hP hD [] rfl (by decide) rfl hl.1 rfl (Nat.le_of_ble_eq_true rfl) dL_makes_100 (by rw [hR]; first | exact ⟨Nat.le_of_ble_eq_true rfl, Nat.le_of_ble_eq_true rfl⟩ | exact ⟨by show _ ≤ (29 : Nat); omega, by show _ ≤ (174 : Nat); omega⟩) ?_
        refine W.eq (g2 := F0 m 103 ls [.int r66, .int r64, .int r62, .ref (b_o 0 0)]) rfl ?_
        obtain ⟨⟨r68, w69⟩, hr70, h⟩ := ob h
        dsimp only at h
        refine px_SL (As := [.ref (b_o 0 0), .int r62, .int r64, .int r66]) (rest := []) (gs := ([gO E b_o τ_o] : List va_W)) (gr := ([] : List va_W)) (gc := ([gO E b_o τ_o] : List va_W)) (g1 := ([gO E b_o w69] : List va_W)) (g2 := ([gO E b_o w69] : List va_W)) ⟨hx, hb, hml, hown, hts⟩ (mT_edit l hlt E X L b_o (r62) (r64) (r66)  (τ_o) r68 w69 hr70) (vx_cwSW 4 hts (wsw_s q270 q271 q17 q272) rfl rfl rfl hdS_L_edit (by rw [hR]; first | exact ⟨Nat.le_of_ble_eq_true rfl, Nat.le_of_ble_eq_true rfl⟩ | exact ⟨by show _ ≤ (29 : Nat); omega, by show _ ≤ (174 : Nat); omega⟩)) hK hN hX hL hP hD hS hA [] [0] [0] rfl rfl (by decide) (by decide) rfl (by decide) rfl hl.1 rfl (Nat.le_of_ble_eq_true rfl) dL_makes_103 (by rw [hR]; first | exact ⟨Nat.le_of_ble_eq_true rfl, Nat.le_of_ble_eq_true rfl⟩ | exact ⟨by show _ ≤ (29 : Nat); omega, by show _ ≤ (174 : Nat); omega⟩) (fun H locs hP hD hS => ?_)
        refine W.eq (g2 := F0 m 106 ls [.int r68]) rfl ?_
        refine lv_istore (lv' := [(4, .int r68), (3, .int (r60 ^^^ (x2 * (nI 7919)))), (0, .ref (b_o 0 0)), (1, .ref L.1.1), (2, .int x2)]) hx hb dL_makes_106 hl (by decide) rfl (fun ls hl => ?_)
        refine lv_iload hx hb dL_makes_108 (lv_at hl 0 rfl) ?_
        refine lv_if_ge (tgt := 132) hx hb dL_makes_110 (by decide) (fun c71 => ?_) (fun c71 => ?_)
        · rw [if_pos c71] at h
          refine lv_iinc (v := (x2 + nI 1)) (lv' := [(2, .int (x2 + nI 1)), (4, .int r68), (3, .int (r60 ^^^ (x2 * (nI 7919)))), (0, .ref (b_o 0 0)), (1, .ref L.1.1)]) hx hb dL_makes_132 hl (k := 4) rfl rfl (by decide) rfl (fun ls hl => ?_)
          refine lv_goto (tgt := 61) hx hb dL_makes_135 (by decide) ?_
          exact ih ((x2 + nI 1)) (w69) _ _ (by omega) (by omega) H locs ls hP hD hS (lv_sub hl [3, 4, 0] rfl) h
        · rw [if_neg c71] at h
          refine lv_iload hx hb dL_makes_113 (lv_at hl 0 rfl) ?_
          refine lv_sipush (v := (-1003 : Int32)) hx hb dL_makes_115 (by decide) ?_
          refine lv_icmp_ne (tgt := 130) hx hb dL_makes_118 (by decide) (fun c72 => ?_) (fun c72 => ?_)
          · rw [if_neg c72] at h
            refine lv_iconst (v := (nI 0)) hx hb dL_makes_130 (by decide) ?_
            cases h
            refine W.eq (g2 := F0 m 131 ls [.int (b2i false)]) rfl ?_
            refine W.widen (k := 29) (n := 174) (by omega) (by omega) ?_
            exact px_eWz (b2i_n _) hA0 hQ hP hD hS hx hb hr hlocks dL_makes_131
          · rw [if_pos c72] at h
            refine lv_aload_n hx hb dL_makes_121 rfl (lv_at hl 2 rfl) ?_
            refine lv_iconst (v := (nI 0)) hx hb dL_makes_122 (by decide) ?_
            obtain ⟨⟨r73, w74⟩, hr75, h⟩ := ob h
            dsimp only at h
            refine px_SL (As := [.ref (b_o 0 0), .int (nI 0)]) (rest := []) (gs := ([gO E b_o w69] : List va_W)) (gr := ([] : List va_W)) (gc := ([gO E b_o w69] : List va_W)) (g1 := ([gO E b_o w74] : List va_W)) (g2 := ([gO E b_o w74] : List va_W)) ⟨hx, hb, hml, hown, hts⟩ (mT_refusal l hlt E X L b_o ((nI 0))  (w69) r73 w74 hr75) (vx_cwSW 2 hts (wsw_s q912 q913 q17 q914) rfl rfl rfl hdS_L_refusal (by rw [hR]; first | exact ⟨Nat.le_of_ble_eq_true rfl, Nat.le_of_ble_eq_true rfl⟩ | exact ⟨by show _ ≤ (29 : Nat); omega, by show _ ≤ (174 : Nat); omega⟩)) hK hN hX hL hP hD hS hA [] [0] [0] rfl rfl (by decide) (by decide) rfl (by decide) rfl hl.1 rfl (Nat.le_of_ble_eq_true rfl) dL_makes_123 (by rw [hR]; first | exact ⟨Nat.le_of_ble_eq_true rfl, Nat.le_of_ble_eq_true rfl⟩ | exact ⟨by show _ ≤ (29 : Nat); omega, by show _ ≤ (174 : Nat); omega⟩) (fun H locs hP hD hS => ?_)
            refine W.eq (g2 := F0 m 126 ls [.int r73]) rfl ?_
            refine lv_iconst (v := (nI 2)) hx hb dL_makes_126 (by decide) ?_
            refine lv_icmp_eq (tgt := 132) hx hb dL_makes_127 (by decide) (fun c76 => ?_) (fun c76 => ?_)
            · rw [if_pos c76] at h
              refine lv_iinc (v := (x2 + nI 1)) (lv' := [(2, .int (x2 + nI 1)), (4, .int r68), (3, .int (r60 ^^^ (x2 * (nI 7919)))), (0, .ref (b_o 0 0)), (1, .ref L.1.1)]) hx hb dL_makes_132 hl (k := 4) rfl rfl (by decide) rfl (fun ls hl => ?_)
              refine lv_goto (tgt := 61) hx hb dL_makes_135 (by decide) ?_
              exact ih ((x2 + nI 1)) (w74) _ _ (by omega) (by omega) H locs ls hP hD hS (lv_sub hl [3, 4, 0] rfl) h
            · rw [if_neg c76] at h
              refine lv_iconst (v := (nI 0)) hx hb dL_makes_130 (by decide) ?_
              cases h
              refine W.eq (g2 := F0 m 131 ls [.int (b2i false)]) rfl ?_
              refine W.widen (k := 29) (n := 174) (by omega) (by omega) ?_
              exact px_eWz (b2i_n _) hA0 hQ hP hD hS hx hb hr hlocks dL_makes_131
  have L2 : ∀ (n : Nat) (x2 : Int32) (τ_o : TO) (cc ss : Nat), cc + n * 1 + 25 ≤ 29 → ss + n * 6 + 150 ≤ 174 → ∀ (H : Heap) (locs : List Loc) (ls : Array Slot), va_P E.1 vwCl ([gO E b_o τ_o] : List va_W).flatten H → va_D A ([gO E b_o τ_o] : List va_W).flatten → va_S A s.heap H locs → lv_has ls 5 [(0, .ref (b_o 0 0)), (1, .ref L.1.1), (2, .int x2)] → fL_makes_L2 L n x2 τ_o = some (r, z_o_τ) → W p l e R s m args below meth c H locs cc ss Q (F0 m 2 ls []) := by
    intro n
    induction n with
    | zero =>
      intro x2 τ_o cc ss hcc hss H locs ls hP hD hS hl h
      unfold fL_makes_L2 at h; cases h
    | succ n ih =>
      intro x2 τ_o cc ss hcc hss H locs ls hP hD hS hl h
      unfold fL_makes_L2 at h
      refine lv_iload_n hx hb dL_makes_2 rfl (lv_at hl 2 rfl) ?_
      refine lv_iconst (v := (nI 3)) hx hb dL_makes_3 (by decide) ?_
      refine lv_icmp_ge (tgt := 39) hx hb dL_makes_4 (by decide) (fun c1 => ?_) (fun c1 => ?_)
      · rw [if_pos c1] at h
        refine lv_aload_n hx hb dL_makes_39 rfl (lv_at hl 0 rfl) ?_
        refine lv_iconst (v := (nI 0)) hx hb dL_makes_40 (by decide) ?_
        obtain ⟨⟨r2, w3⟩, hr4, h⟩ := ob h
        dsimp only at h
        refine px_SL (As := [.ref (b_o 0 0), .int (nI 0)]) (rest := []) (gs := ([gO E b_o τ_o] : List va_W)) (gr := ([] : List va_W)) (gc := ([gO E b_o τ_o] : List va_W)) (g1 := ([gO E b_o w3] : List va_W)) (g2 := ([gO E b_o w3] : List va_W)) ⟨hx, hb, hml, hown, hts⟩ (mT_fork l hlt E X L b_o ((nI 0))  (τ_o) r2 w3 hr4) (vx_cwSW 2 hts (wsw_s q456 q457 q17 q458) rfl rfl rfl hdS_L_fork (by rw [hR]; first | exact ⟨Nat.le_of_ble_eq_true rfl, Nat.le_of_ble_eq_true rfl⟩ | exact ⟨by show _ ≤ (29 : Nat); omega, by show _ ≤ (174 : Nat); omega⟩)) hK hN hX hL hP hD hS hA [] [0] [0] rfl rfl (by decide) (by decide) rfl (by decide) rfl hl.1 rfl (Nat.le_of_ble_eq_true rfl) dL_makes_41 (by rw [hR]; first | exact ⟨Nat.le_of_ble_eq_true rfl, Nat.le_of_ble_eq_true rfl⟩ | exact ⟨by show _ ≤ (29 : Nat); omega, by show _ ≤ (174 : Nat); omega⟩) (fun H locs hP hD hS => ?_)
        refine W.eq (g2 := F0 m 44 ls [.int r2]) rfl ?_
        refine lv_iconst (v := (nI 1)) hx hb dL_makes_44 (by decide) ?_
        refine lv_icmp_ne (tgt := 57) hx hb dL_makes_45 (by decide) (fun c5 => ?_) (fun c5 => ?_)
        · rw [if_neg c5] at h
          refine lv_iconst (v := (nI 0)) hx hb dL_makes_57 (by decide) ?_
          cases h
          refine W.eq (g2 := F0 m 58 ls [.int (b2i false)]) rfl ?_
          refine W.widen (k := 29) (n := 174) (by omega) (by omega) ?_
          exact px_eWz (b2i_n _) hA0 hQ hP hD hS hx hb hr hlocks dL_makes_58
        · rw [if_pos c5] at h
          refine lv_aload_n hx hb dL_makes_48 rfl (lv_at hl 0 rfl) ?_
          refine lv_iconst (v := (nI 0)) hx hb dL_makes_49 (by decide) ?_
          obtain ⟨⟨r6, w7⟩, hr8, h⟩ := ob h
          dsimp only at h
          refine px_SL (As := [.ref (b_o 0 0), .int (nI 0)]) (rest := []) (gs := ([gO E b_o w3] : List va_W)) (gr := ([] : List va_W)) (gc := ([gO E b_o w3] : List va_W)) (g1 := ([gO E b_o w7] : List va_W)) (g2 := ([gO E b_o w7] : List va_W)) ⟨hx, hb, hml, hown, hts⟩ (mT_fork l hlt E X L b_o ((nI 0))  (w3) r6 w7 hr8) (vx_cwSW 2 hts (wsw_s q456 q457 q17 q458) rfl rfl rfl hdS_L_fork (by rw [hR]; first | exact ⟨Nat.le_of_ble_eq_true rfl, Nat.le_of_ble_eq_true rfl⟩ | exact ⟨by show _ ≤ (29 : Nat); omega, by show _ ≤ (174 : Nat); omega⟩)) hK hN hX hL hP hD hS hA [] [0] [0] rfl rfl (by decide) (by decide) rfl (by decide) rfl hl.1 rfl (Nat.le_of_ble_eq_true rfl) dL_makes_50 (by rw [hR]; first | exact ⟨Nat.le_of_ble_eq_true rfl, Nat.le_of_ble_eq_true rfl⟩ | exact ⟨by show _ ≤ (29 : Nat); omega, by show _ ≤ (174 : Nat); omega⟩) (fun H locs hP hD hS => ?_)
          refine W.eq (g2 := F0 m 53 ls [.int r6]) rfl ?_
          refine lv_iconst (v := (nI 2)) hx hb dL_makes_53 (by decide) ?_
          refine lv_icmp_eq (tgt := 59) hx hb dL_makes_54 (by decide) (fun c9 => ?_) (fun c9 => ?_)
          · rw [if_pos c9] at h
            refine lv_iconst (v := (nI 0)) hx hb dL_makes_59 (by decide) ?_
            refine lv_istore_n (lv' := [(2, .int (nI 0)), (0, .ref (b_o 0 0)), (1, .ref L.1.1)]) hx hb dL_makes_60 rfl hl (by decide) rfl (fun ls hl => ?_)
            exact L61 10 ((nI 0)) (w7) _ _ (by omega) (by omega) H locs ls hP hD hS (lv_sub hl [1, 2, 0] rfl) h
          · rw [if_neg c9] at h
            refine lv_iconst (v := (nI 0)) hx hb dL_makes_57 (by decide) ?_
            cases h
            refine W.eq (g2 := F0 m 58 ls [.int (b2i false)]) rfl ?_
            refine W.widen (k := 29) (n := 174) (by omega) (by omega) ?_
            exact px_eWz (b2i_n _) hA0 hQ hP hD hS hx hb hr hlocks dL_makes_58
      · rw [if_neg c1] at h
        refine lv_aload_n hx hb dL_makes_7 rfl (lv_at hl 0 rfl) ?_
        refine lv_iconst (v := (nI 0)) hx hb dL_makes_8 (by decide) ?_
        refine lv_iload_n hx hb dL_makes_9 rfl (lv_at hl 2 rfl) ?_
        refine lv_iconst (v := (nI 1)) hx hb dL_makes_10 (by decide) ?_
        refine lv_aload_n hx hb dL_makes_11 rfl (lv_at hl 1 rfl) ?_
        refine lv_iload_n hx hb dL_makes_12 rfl (lv_at hl 2 rfl) ?_
        obtain ⟨r10, hr11, h⟩ := ob h
        refine px_SZ (As := [.ref L.1.1, .int x2]) (rest := [.int (nI 1), .int x2, .int (nI 0), .ref (b_o 0 0)]) (gs := ([gO E b_o τ_o] : List va_W)) (gr := ([gO E b_o τ_o] : List va_W)) (gc := ([] : List va_W)) (g1 := ([] : List va_W)) (g2 := ([gO E b_o τ_o] : List va_W)) ⟨hx, hb, hml, hown, hts⟩ (mL_at l hlt E X L  (x2)   r10 hr11) (va_cwS 2 hts (ws_s q267 q268 q17 q269) rfl rfl rfl hdS_L_at (by rw [hR]; first | exact ⟨Nat.le_of_ble_eq_true rfl, Nat.le_of_ble_eq_true rfl⟩ | exact ⟨by show _ ≤ (29 : Nat); omega, by show _ ≤ (174 : Nat); omega⟩)) hK hN hX hL hP hD hS hA [0] [] [0] rfl rfl (by decide) (by decide) rfl (by decide) rfl hl.1 rfl (Nat.le_of_ble_eq_true rfl) dL_makes_13 (by rw [hR]; first | exact ⟨Nat.le_of_ble_eq_true rfl, Nat.le_of_ble_eq_true rfl⟩ | exact ⟨by show _ ≤ (29 : Nat); omega, by show _ ≤ (174 : Nat); omega⟩) (fun H locs hP hD hS => ?_)
        refine W.eq (g2 := F0 m 16 ls [.int r10, .int (nI 1), .int x2, .int (nI 0), .ref (b_o 0 0)]) rfl ?_
        refine lv_bipush (v := (nI 99)) hx hb dL_makes_16 (by decide) ?_
        obtain ⟨r12, hr13, h⟩ := ob h
        refine px_Sp (As := [.int r10, .int (nI 99)]) (rest := [.int (nI 1), .int x2, .int (nI 0), .ref (b_o 0 0)]) (gs := ([gO E b_o τ_o] : List va_W)) (gc := ([] : List va_W)) ⟨hx, hb, hml, hown, hts⟩ (mL_some l E   (r10) ((nI 99))  r12 hr13) (va_cwS 2 hts (ws_s q931 q932 q17 q933) rfl rfl rfl hdS_L_some (by rw [hR]; first | exact ⟨Nat.le_of_ble_eq_true rfl, Nat.le_of_ble_eq_true rfl⟩ | exact ⟨by show _ ≤ (29 : Nat); omega, by show _ ≤ (174 : Nat); omega⟩)) hK hN hP hD [] rfl (by decide) rfl hl.1 rfl (Nat.le_of_ble_eq_true rfl) dL_makes_18 (by rw [hR]; first | exact ⟨Nat.le_of_ble_eq_true rfl, Nat.le_of_ble_eq_true rfl⟩ | exact ⟨by show _ ≤ (29 : Nat); omega, by show _ ≤ (174 : Nat); omega⟩) ?_
        refine W.eq (g2 := F0 m 21 ls [.int r12, .int (nI 1), .int x2, .int (nI 0), .ref (b_o 0 0)]) rfl ?_
        refine lv_iadd hx hb dL_makes_21 ?_
        obtain ⟨⟨r14, w15⟩, hr16, h⟩ := ob h
        dsimp only at h
        refine px_SL (As := [.ref (b_o 0 0), .int (nI 0), .int x2, .int ((nI 1) + r12)]) (rest := []) (gs := ([gO E b_o τ_o] : List va_W)) (gr := ([] : List va_W)) (gc := ([gO E b_o τ_o] : List va_W)) (g1 := ([gO E b_o w15] : List va_W)) (g2 := ([gO E b_o w15] : List va_W)) ⟨hx, hb, hml, hown, hts⟩ (mT_edit l hlt E X L b_o ((nI 0)) (x2) (((nI 1) + r12))  (τ_o) r14 w15 hr16) (vx_cwSW 4 hts (wsw_s q270 q271 q17 q272) rfl rfl rfl hdS_L_edit (by rw [hR]; first | exact ⟨Nat.le_of_ble_eq_true rfl, Nat.le_of_ble_eq_true rfl⟩ | exact ⟨by show _ ≤ (29 : Nat); omega, by show _ ≤ (174 : Nat); omega⟩)) hK hN hX hL hP hD hS hA [] [0] [0] rfl rfl (by decide) (by decide) rfl (by decide) rfl hl.1 rfl (Nat.le_of_ble_eq_true rfl) dL_makes_22 (by rw [hR]; first | exact ⟨Nat.le_of_ble_eq_true rfl, Nat.le_of_ble_eq_true rfl⟩ | exact ⟨by show _ ≤ (29 : Nat); omega, by show _ ≤ (174 : Nat); omega⟩) (fun H locs hP hD hS => ?_)
        refine W.eq (g2 := F0 m 25 ls [.int r14]) rfl ?_
        refine lv_iload_n hx hb dL_makes_25 rfl (lv_at hl 2 rfl) ?_
        refine lv_iconst (v := (nI 1)) hx hb dL_makes_26 (by decide) ?_
        refine lv_iadd hx hb dL_makes_27 ?_
        refine lv_icmp_eq (tgt := 33) hx hb dL_makes_28 (by decide) (fun c17 => ?_) (fun c17 => ?_)
        · rw [if_pos c17] at h
          refine lv_iinc (v := (x2 + nI 1)) (lv' := [(2, .int (x2 + nI 1)), (0, .ref (b_o 0 0)), (1, .ref L.1.1)]) hx hb dL_makes_33 hl (k := 2) rfl rfl (by decide) rfl (fun ls hl => ?_)
          refine lv_goto (tgt := 2) hx hb dL_makes_36 (by decide) ?_
          exact ih ((x2 + nI 1)) (w15) _ _ (by omega) (by omega) H locs ls hP hD hS (lv_sub hl [1, 2, 0] rfl) h
        · rw [if_neg c17] at h
          refine lv_iconst (v := (nI 0)) hx hb dL_makes_31 (by decide) ?_
          cases h
          refine W.eq (g2 := F0 m 32 ls [.int (b2i false)]) rfl ?_
          refine W.widen (k := 29) (n := 174) (by omega) (by omega) ?_
          exact px_eWz (b2i_n _) hA0 hQ hP hD hS hx hb hr hlocks dL_makes_32
  intro H locs hP hS
  refine lv_iconst (v := (nI 0)) hx hb dL_makes_0 (by decide) ?_
  refine lv_istore_n (lv' := [(2, .int (nI 0)), (0, .ref (b_o 0 0)), (1, .ref L.1.1)]) hx hb dL_makes_1 rfl hl (by decide) rfl (fun ls hl => ?_)
  exact L2 4 ((nI 0)) (τ_o) _ _ (by omega) (by omega) H locs ls hP hD hS (lv_sub hl [1, 2, 0] rfl) h
def fL_asks_L232 (K : Int64 → Int32 → Int32 → TO → Option (Int64 × TO))  : Nat → Int64 → Int32 → Int32 → Int32 → Int32 → TO → Option (Int64 × TO)
  | 0, _, _, _, _, _, _ => none
  | n + 1, x1, x3, x4, x6, x7, τ_o => (if x6 ≤ x7 then (K (x1) (x3) ((x4 + nI 1)) (τ_o)) else ((t_character (x7) (τ_o)).bind fun (r73, w74) => (fL_asks_L232 K n ((((31 : Int64) * x1) + ((r73).toInt64))) (x3) (x4) (x6) ((x7 + nI 1)) (w74))))
def fL_asks_L80 (K : Int64 → Int32 → Int32 → TO → Option (Int64 × TO))  : Nat → Int64 → Int32 → Int32 → Int32 → TO → Option (Int64 × TO)
  | 0, _, _, _, _, _ => none
  | n + 1, x1, x3, x4, x5, τ_o => (if (nI 6) ≤ x5 then ((t_tasteBits (x4) (τ_o)).bind fun (r31, w32) => ((t_taste (x4) (w32)).bind fun (r34, w35) => ((fJxf58ca_floatToIntBits_5c35a (r34)).bind fun r37 => (if x3 = 0 then none else ((t_in (x4) (((((nI 7) * x4) + (nI 3)) - (((nI 7) * x4) + (nI 3)) / x3 * x3)) (w35)).bind fun (r40, w41) => ((t_base (x4) (((((nI 7) * x4) + (nI 3)) - (((nI 7) * x4) + (nI 3)) / x3 * x3)) (w41)).bind fun (r43, w44) => ((t_baseAgain (x4) (((((nI 7) * x4) + (nI 3)) - (((nI 7) * x4) + (nI 3)) / x3 * x3)) (w44)).bind fun (r46, w47) => ((t_difference (x4) (((((nI 7) * x4) + (nI 3)) - (((nI 7) * x4) + (nI 3)) / x3 * x3)) (w47)).bind fun (r49, w50) => ((t_line (x4) (w50)).bind fun (r52, w53) => (fL_asks_L232 K 25 ((((31 : Int64) * (((31 : Int64) * (((31 : Int64) * (((31 : Int64) * (((31 : Int64) * (((31 : Int64) * x1) + ((r31).toInt64))) + ((r37).toInt64))) + ((r40).toInt64))) + ((r43).toInt64))) + ((r46).toInt64))) + ((r49).toInt64))) (x3) (x4) (r52) ((nI 0)) (w53))))))))))) else ((t_commitOf (x4) (x5) (τ_o)).bind fun (r55, w56) => ((t_amount (x4) (x5) (w56)).bind fun (r58, w59) => (fL_asks_L80 K n ((((31 : Int64) * (((31 : Int64) * x1) + ((r55).toInt64))) + ((r58).toInt64))) (x3) (x4) ((x5 + nI 1)) (w59)))))
def fL_asks_L374 (K : Int64 → Int32 → TO → Option (Int64 × TO))  : Nat → Int64 → Int32 → Int32 → TO → Option (Int64 × TO)
  | 0, _, _, _, _ => none
  | n + 1, x1, x4, x5, τ_o => (if (nI 6) ≤ x5 then (K (x1) ((x4 + nI 1)) (τ_o)) else ((t_blame (x4) (x5) (τ_o)).bind fun (r81, w82) => ((t_firstBad (x4) (x5) ((nI 30)) (w82)).bind fun (r84, w85) => ((t_halve (x4) (x5) ((nI 10)) ((nI 0)) (w85)).bind fun (r87, w88) => ((t_halve (x4) (x5) ((nI 10)) ((nI 1)) (w88)).bind fun (r90, w91) => (fL_asks_L374 K n ((((31 : Int64) * (((31 : Int64) * (((31 : Int64) * (((31 : Int64) * x1) + ((r81).toInt64))) + ((r84).toInt64))) + ((r87).toInt64))) + ((r90).toInt64))) (x4) ((x5 + nI 1)) (w91)))))))
def fL_asks_L342 (K : Int64 → Int32 → TO → Option (Int64 × TO))  : Nat → Int64 → Int32 → Int32 → TO → Option (Int64 × TO)
  | 0, _, _, _, _ => none
  | n + 1, x1, x4, x5, τ_o => (if (nI 24) ≤ x5 then (fL_asks_L374 K 7 (x1) (x4) ((nI 0)) (τ_o)) else ((t_onLine (x4) (x5) (τ_o)).bind fun (r77, w78) => (fL_asks_L342 K n ((((31 : Int64) * x1) + ((r77).toInt64))) (x4) ((x5 + nI 1)) (w78))))
def fL_asks_L307 (K : Int64 → Int32 → TO → Option (Int64 × TO))  : Nat → Int64 → Int32 → Int32 → TO → Option (Int64 × TO)
  | 0, _, _, _, _ => none
  | n + 1, x1, x4, x5, τ_o => ((t_account ((nI 1)) (τ_o)).bind fun (r65, w66) => (if r65 ≤ x5 then (fL_asks_L342 K 25 (x1) (x4) ((nI 0)) (w66)) else ((t_conflicts (x4) (x5) (w66)).bind fun (r69, w70) => (fL_asks_L307 K n ((((31 : Int64) * x1) + ((r69).toInt64))) (x4) ((x5 + nI 1)) (w70)))))
def fL_asks_L462  : Nat → Int64 → Int32 → TO → Option (Int64 × TO)
  | 0, _, _, _ => none
  | n + 1, x1, x4, τ_o => (if (nI 4) ≤ x4 then (some (x1, τ_o)) else ((t_inBundle (x4) (τ_o)).bind fun (r62, w63) => (fL_asks_L462 n ((((31 : Int64) * x1) + ((r62).toInt64))) ((x4 + nI 1)) (w63))))
def fL_asks_L268  : Nat → Int64 → Int32 → TO → Option (Int64 × TO)
  | 0, _, _, _ => none
  | n + 1, x1, x4, τ_o => ((t_account ((nI 1)) (τ_o)).bind fun (r20, w21) => (if r20 ≤ x4 then (fL_asks_L462 5 (x1) ((nI 0)) (w21)) else ((t_tip (x4) (w21)).bind fun (r24, w25) => ((t_tastiest (x4) (w25)).bind fun (r27, w28) => (fL_asks_L307 (fL_asks_L268 n) 6 ((((31 : Int64) * (((31 : Int64) * x1) + ((r24).toInt64))) + ((r27).toInt64))) (x4) ((nI 0)) (w28))))))
def fL_asks_L71  : Nat → Int64 → Int32 → Int32 → TO → Option (Int64 × TO)
  | 0, _, _, _, _ => none
  | n + 1, x1, x3, x4, τ_o => (if x3 ≤ x4 then (fL_asks_L268 6 (x1) ((nI 0)) (τ_o)) else (fL_asks_L80 (fL_asks_L71 n) 7 (x1) (x3) (x4) ((nI 0)) (τ_o)))
def fL_asks_L37  : Nat → Int64 → Int32 → TO → Option (Int64 × TO)
  | 0, _, _, _ => none
  | n + 1, x1, x3, τ_o => (if (nI 9) ≤ x3 then ((t_account ((nI 0)) (τ_o)).bind fun (r13, w14) => (fL_asks_L71 25 (x1) (r13) ((nI 0)) (w14))) else ((t_account (x3) (τ_o)).bind fun (r16, w17) => (fL_asks_L37 n ((((31 : Int64) * x1) + ((r16).toInt64))) ((x3 + nI 1)) (w17))))
def fL_asks  (τ_o : TO) : Option (Int64 × TO) := ((t_meanTaste (τ_o)).bind fun r1 => ((fJxe99ae_doubleToLongBits_ccdee (r1)).bind fun r3 => ((t_editShare (τ_o)).bind fun r5 => ((fJxf58ca_floatToIntBits_5c35a (r5)).bind fun r7 => ((t_isWell (τ_o)).bind fun r9 => (if (b2i r9) = 0 then (fL_asks_L37 10 (((((31 : Int64) * r3) + ((r7).toInt64)) + (((nI 0)).toInt64))) ((nI 0)) (τ_o)) else (fL_asks_L37 10 (((((31 : Int64) * r3) + ((r7).toInt64)) + (((nI 1)).toInt64))) ((nI 0)) (τ_o))))))))
set_option maxHeartbeats 4000000 in
set_option maxRecDepth 100000 in
theorem mL_asks (l : Launch) (hlt : l.stackTraces = false) (E : PE) (X : PX) (L : LX) (b_o : Nat → Nat → Nat)   (τ_o : TO) (r : Int64) (z_o_τ : TO) (h : fL_asks τ_o = some (r, z_o_τ)) : MZ l yL_asks cL_asks 8 (some .long) { frames := 9, cells := 2637, slots := 15822, locals := 162 } E X L [.ref (b_o 0 0)] ([gO E b_o τ_o] : List va_W).flatten 2637 15822 (some (.long r)) ([gO E b_o z_o_τ] : List va_W).flatten := by
  refine px_startZ (by decide +kernel) (Nat.le_of_ble_eq_true rfl) ?_
  intro p e s m args below meth c R Q A ls hC hX hL hA0 hQ
  obtain ⟨hx, hb, hr, hml, hts, hown, hlocks, hR, hK, hN, hP, hD, hA, hl, hin⟩ := hC
  have hl : lv_has ls 8 [(0, .ref (b_o 0 0))] := hl
  suffices key : ∀ (H : Heap) (locs : List Loc), va_P E.1 vwCl ([gO E b_o τ_o] : List va_W).flatten H → va_S A s.heap H locs → W p l e R s m args below meth c H locs 0 0 Q (F0 m 0 ls []) from key s.heap [] hP va_S.rf
  unfold fL_asks at h
  have L232 : ∀ (K : Int64 → Int32 → Int32 → TO → Option (Int64 × TO)) (kc ks : Nat) (hkc : kc ≤ 2637) (hks : ks ≤ 15822) (hKK : ∀ (x1 : Int64) (x3 : Int32) (x4 : Int32) (τ_o : TO) (cc ss : Nat), cc ≤ kc → ss ≤ ks → ∀ (H : Heap) (locs : List Loc) (ls : Array Slot), va_P E.1 vwCl ([gO E b_o τ_o] : List va_W).flatten H → va_D A ([gO E b_o τ_o] : List va_W).flatten → va_S A s.heap H locs → lv_has ls 8 [(0, .ref (b_o 0 0)), (1, .long x1), (3, .int x3), (4, .int x4)] → K x1 x3 x4 τ_o = some (r, z_o_τ) → W p l e R s m args below meth c H locs cc ss Q (F0 m 71 ls [])) (n : Nat) (x1 : Int64) (x3 : Int32) (x4 : Int32) (x6 : Int32) (x7 : Int32) (τ_o : TO) (cc ss : Nat), cc + n * 1 + 0 ≤ kc → ss + n * 6 + 0 ≤ ks → ∀ (H : Heap) (locs : List Loc) (ls : Array Slot), va_P E.1 vwCl ([gO E b_o τ_o] : List va_W).flatten H → va_D A ([gO E b_o τ_o] : List va_W).flatten → va_S A s.heap H locs → lv_has ls 8 [(0, .ref (b_o 0 0)), (1, .long x1), (3, .int x3), (4, .int x4), (6, .int x6), (7, .int x7)] → fL_asks_L232 K n x1 x3 x4 x6 x7 τ_o = some (r, z_o_τ) → W p l e R s m args below meth c H locs cc ss Q (F0 m 232 ls []) := by
    intro K kc ks hkc hks hKK n
    induction n with
    | zero =>
      intro x1 x3 x4 x6 x7 τ_o cc ss hcc hss H locs ls hP hD hS hl h
      unfold fL_asks_L232 at h; cases h
    | succ n ih =>
      intro x1 x3 x4 x6 x7 τ_o cc ss hcc hss H locs ls hP hD hS hl h
      unfold fL_asks_L232 at h
      refine lv_iload hx hb dL_asks_232 (lv_at hl 5 rfl) ?_
      refine lv_iload hx hb dL_asks_234 (lv_at hl 4 rfl) ?_
      refine lv_icmp_ge (tgt := 259) hx hb dL_asks_236 (by decide) (fun c72 => ?_) (fun c72 => ?_)
      · rw [if_pos c72] at h
        refine lv_iinc (v := (x4 + nI 1)) (lv' := [(4, .int (x4 + nI 1)), (0, .ref (b_o 0 0)), (1, .long x1), (3, .int x3), (6, .int x6), (7, .int x7)]) hx hb dL_asks_259 hl (k := 3) rfl rfl (by decide) rfl (fun ls hl => ?_)
        refine lv_goto (tgt := 71) hx hb dL_asks_262 (by decide) ?_
        exact hKK (x1) (x3) ((x4 + nI 1)) (τ_o) _ _ (by omega) (by omega) H locs ls hP hD hS (lv_sub hl [1, 2, 3, 0] rfl) h
      · rw [if_neg c72] at h
        refine lv_ldc2 (v := 31) hx hb hown (hts _ q945) dL_asks_239 ?_
        refine lv_lload_n hx hb dL_asks_242 rfl (lv_at hl 1 rfl) ?_
        refine lv_lmul hx hb dL_asks_243 ?_
        refine lv_aload_n hx hb dL_asks_244 rfl (lv_at hl 0 rfl) ?_
        refine lv_iload hx hb dL_asks_245 (lv_at hl 5 rfl) ?_
        obtain ⟨⟨r73, w74⟩, hr75, h⟩ := ob h
        dsimp only at h
        refine px_SL (As := [.ref (b_o 0 0), .int x7]) (rest := [.long ((31 : Int64) * x1)]) (gs := ([gO E b_o τ_o] : List va_W)) (gr := ([] : List va_W)) (gc := ([gO E b_o τ_o] : List va_W)) (g1 := ([gO E b_o w74] : List va_W)) (g2 := ([gO E b_o w74] : List va_W)) ⟨hx, hb, hml, hown, hts⟩ (mT_character l hlt E X L b_o (x7)  (τ_o) r73 w74 hr75) (vx_cwSW 2 hts (wsw_s q1082 q1083 q17 q1084) rfl rfl rfl hdS_L_character (by rw [hR]; first | exact ⟨Nat.le_of_ble_eq_true rfl, Nat.le_of_ble_eq_true rfl⟩ | exact ⟨by show _ ≤ (2637 : Nat); omega, by show _ ≤ (15822 : Nat); omega⟩)) hK hN hX hL hP hD hS hA [] [0] [0] rfl rfl (by decide) (by decide) rfl (by decide) rfl hl.1 rfl (Nat.le_of_ble_eq_true rfl) dL_asks_247 (by rw [hR]; first | exact ⟨Nat.le_of_ble_eq_true rfl, Nat.le_of_ble_eq_true rfl⟩ | exact ⟨by show _ ≤ (2637 : Nat); omega, by show _ ≤ (15822 : Nat); omega⟩) (fun H locs hP hD hS => ?_)
        refine W.eq (g2 := F0 m 250 ls [.int r73, .long ((31 : Int64) * x1)]) rfl ?_
        refine lv_i2l (v := (r73).toInt64) hx hb dL_asks_250 rfl ?_
        refine lv_ladd hx hb dL_asks_251 ?_
        refine lv_lstore_n (lv' := [(1, .long (((31 : Int64) * x1) + ((r73).toInt64))), (0, .ref (b_o 0 0)), (3, .int x3), (4, .int x4), (6, .int x6), (7, .int x7)]) hx hb dL_asks_252 rfl hl (by decide) rfl (fun ls hl => ?_)
        refine lv_iinc (v := (x7 + nI 1)) (lv' := [(7, .int (x7 + nI 1)), (1, .long (((31 : Int64) * x1) + ((r73).toInt64))), (0, .ref (b_o 0 0)), (3, .int x3), (4, .int x4), (6, .int x6)]) hx hb dL_asks_253 hl (k := 5) rfl rfl (by decide) rfl (fun ls hl => ?_)
        refine lv_goto (tgt := 232) hx hb dL_asks_256 (by decide) ?_
        exact ih ((((31 : Int64) * x1) + ((r73).toInt64))) (x3) (x4) (x6) ((x7 + nI 1)) (w74) _ _ (by omega) (by omega) H locs ls hP hD hS (lv_sub hl [2, 1, 3, 4, 5, 0] rfl) h
  have L80 : ∀ (K : Int64 → Int32 → Int32 → TO → Option (Int64 × TO)) (kc ks : Nat) (hkc : kc ≤ 2637) (hks : ks ≤ 15822) (hKK : ∀ (x1 : Int64) (x3 : Int32) (x4 : Int32) (τ_o : TO) (cc ss : Nat), cc ≤ kc → ss ≤ ks → ∀ (H : Heap) (locs : List Loc) (ls : Array Slot), va_P E.1 vwCl ([gO E b_o τ_o] : List va_W).flatten H → va_D A ([gO E b_o τ_o] : List va_W).flatten → va_S A s.heap H locs → lv_has ls 8 [(0, .ref (b_o 0 0)), (1, .long x1), (3, .int x3), (4, .int x4)] → K x1 x3 x4 τ_o = some (r, z_o_τ) → W p l e R s m args below meth c H locs cc ss Q (F0 m 71 ls [])) (n : Nat) (x1 : Int64) (x3 : Int32) (x4 : Int32) (x5 : Int32) (τ_o : TO) (cc ss : Nat), cc + n * 4 + 36 ≤ kc → ss + n * 24 + 216 ≤ ks → ∀ (H : Heap) (locs : List Loc) (ls : Array Slot), va_P E.1 vwCl ([gO E b_o τ_o] : List va_W).flatten H → va_D A ([gO E b_o τ_o] : List va_W).flatten → va_S A s.heap H locs → lv_has ls 8 [(0, .ref (b_o 0 0)), (1, .long x1), (3, .int x3), (4, .int x4), (5, .int x5)] → fL_asks_L80 K n x1 x3 x4 x5 τ_o = some (r, z_o_τ) → W p l e R s m args below meth c H locs cc ss Q (F0 m 80 ls []) := by
    intro K kc ks hkc hks hKK n
    induction n with
    | zero =>
      intro x1 x3 x4 x5 τ_o cc ss hcc hss H locs ls hP hD hS hl h
      unfold fL_asks_L80 at h; cases h
    | succ n ih =>
      intro x1 x3 x4 x5 τ_o cc ss hcc hss H locs ls hP hD hS hl h
      unfold fL_asks_L80 at h
      refine lv_iload hx hb dL_asks_80 (lv_at hl 4 rfl) ?_
      refine lv_bipush (v := (nI 6)) hx hb dL_asks_82 (by decide) ?_
      refine lv_icmp_ge (tgt := 123) hx hb dL_asks_84 (by decide) (fun c30 => ?_) (fun c30 => ?_)
      · rw [if_pos c30] at h
        refine lv_ldc2 (v := 31) hx hb hown (hts _ q945) dL_asks_123 ?_
        refine lv_ldc2 (v := 31) hx hb hown (hts _ q945) dL_asks_126 ?_
        refine lv_lload_n hx hb dL_asks_129 rfl (lv_at hl 1 rfl) ?_
        refine lv_lmul hx hb dL_asks_130 ?_
        refine lv_aload_n hx hb dL_asks_131 rfl (lv_at hl 0 rfl) ?_
        refine lv_iload hx hb dL_asks_132 (lv_at hl 3 rfl) ?_
        obtain ⟨⟨r31, w32⟩, hr33, h⟩ := ob h
        dsimp only at h
        refine px_SL (As := [.ref (b_o 0 0), .int x4]) (rest := [.long ((31 : Int64) * x1), .long (31 : Int64)]) (gs := ([gO E b_o τ_o] : List va_W)) (gr := ([] : List va_W)) (gc := ([gO E b_o τ_o] : List va_W)) (g1 := ([gO E b_o w32] : List va_W)) (g2 := ([gO E b_o w32] : List va_W)) ⟨hx, hb, hml, hown, hts⟩ (mT_tasteBits l hlt E X L b_o (x4)  (τ_o) r31 w32 hr33) (vx_cwSW 2 hts (wsw_s q1005 q1006 q17 q1007) rfl rfl rfl hdS_L_tasteBits (by rw [hR]; first | exact ⟨Nat.le_of_ble_eq_true rfl, Nat.le_of_ble_eq_true rfl⟩ | exact ⟨by show _ ≤ (2637 : Nat); omega, by show _ ≤ (15822 : Nat); omega⟩)) hK hN hX hL hP hD hS hA [] [0] [0] rfl rfl (by decide) (by decide) rfl (by decide) rfl hl.1 rfl (Nat.le_of_ble_eq_true rfl) dL_asks_134 (by rw [hR]; first | exact ⟨Nat.le_of_ble_eq_true rfl, Nat.le_of_ble_eq_true rfl⟩ | exact ⟨by show _ ≤ (2637 : Nat); omega, by show _ ≤ (15822 : Nat); omega⟩) (fun H locs hP hD hS => ?_)
        refine W.eq (g2 := F0 m 137 ls [.int r31, .long ((31 : Int64) * x1), .long (31 : Int64)]) rfl ?_
        refine lv_i2l (v := (r31).toInt64) hx hb dL_asks_137 rfl ?_
        refine lv_ladd hx hb dL_asks_138 ?_
        refine lv_lmul hx hb dL_asks_139 ?_
        refine lv_aload_n hx hb dL_asks_140 rfl (lv_at hl 0 rfl) ?_
        refine lv_iload hx hb dL_asks_141 (lv_at hl 3 rfl) ?_
        obtain ⟨⟨r34, w35⟩, hr36, h⟩ := ob h
        dsimp only at h
        refine px_SL (As := [.ref (b_o 0 0), .int x4]) (rest := [.long ((31 : Int64) * (((31 : Int64) * x1) + ((r31).toInt64)))]) (gs := ([gO E b_o w32] : List va_W)) (gr := ([] : List va_W)) (gc := ([gO E b_o w32] : List va_W)) (g1 := ([gO E b_o w35] : List va_W)) (g2 := ([gO E b_o w35] : List va_W)) ⟨hx, hb, hml, hown, hts⟩ (mT_taste l hlt E X L b_o (x4)  (w32) r34 w35 hr36) (vx_cwSW 2 hts (wsw_s q1016 q1017 q17 q1018) rfl rfl rfl hdS_L_taste (by rw [hR]; first | exact ⟨Nat.le_of_ble_eq_true rfl, Nat.le_of_ble_eq_true rfl⟩ | exact ⟨by show _ ≤ (2637 : Nat); omega, by show _ ≤ (15822 : Nat); omega⟩)) hK hN hX hL hP hD hS hA [] [0] [0] rfl rfl (by decide) (by decide) rfl (by decide) rfl hl.1 rfl (Nat.le_of_ble_eq_true rfl) dL_asks_143 (by rw [hR]; first | exact ⟨Nat.le_of_ble_eq_true rfl, Nat.le_of_ble_eq_true rfl⟩ | exact ⟨by show _ ≤ (2637 : Nat); omega, by show _ ≤ (15822 : Nat); omega⟩) (fun H locs hP hD hS => ?_)
        refine W.eq (g2 := F0 m 146 ls [.float r34, .long ((31 : Int64) * (((31 : Int64) * x1) + ((r31).toInt64)))]) rfl ?_
        obtain ⟨r37, hr38, h⟩ := ob h
        refine px_Sp (As := [.float r34]) (rest := [.long ((31 : Int64) * (((31 : Int64) * x1) + ((r31).toInt64)))]) (gs := ([gO E b_o w35] : List va_W)) (gc := ([] : List va_W)) ⟨hx, hb, hml, hown, hts⟩ (kJxf58ca_floatToIntBits_5c35a l E   (r34)  r37 hr38) (va_cwS 1 hts (ws_s q969 q970 q44 q971) rfl rfl rfl hdS_Jxf58ca_floatToIntBits_5c35a (by rw [hR]; first | exact ⟨Nat.le_of_ble_eq_true rfl, Nat.le_of_ble_eq_true rfl⟩ | exact ⟨by show _ ≤ (2637 : Nat); omega, by show _ ≤ (15822 : Nat); omega⟩)) hK hN hP hD [] rfl (by decide) rfl hl.1 rfl (Nat.le_of_ble_eq_true rfl) dL_asks_146 (by rw [hR]; first | exact ⟨Nat.le_of_ble_eq_true rfl, Nat.le_of_ble_eq_true rfl⟩ | exact ⟨by show _ ≤ (2637 : Nat); omega, by show _ ≤ (15822 : Nat); omega⟩) ?_
        refine W.eq (g2 := F0 m 149 ls [.int r37, .long ((31 : Int64) * (((31 : Int64) * x1) + ((r31).toInt64)))]) rfl ?_
        refine lv_i2l (v := (r37).toInt64) hx hb dL_asks_149 rfl ?_
        refine lv_ladd hx hb dL_asks_150 ?_
        refine lv_lstore_n (lv' := [(1, .long (((31 : Int64) * (((31 : Int64) * x1) + ((r31).toInt64))) + ((r37).toInt64))), (0, .ref (b_o 0 0)), (3, .int x3), (4, .int x4), (5, .int x5)]) hx hb dL_asks_151 rfl hl (by decide) rfl (fun ls hl => ?_)
        refine lv_bipush (v := (nI 7)) hx hb dL_asks_152 (by decide) ?_
        refine lv_iload hx hb dL_asks_154 (lv_at hl 3 rfl) ?_
        refine lv_imul hx hb dL_asks_156 ?_
        refine lv_iconst (v := (nI 3)) hx hb dL_asks_157 (by decide) ?_
        refine lv_iadd hx hb dL_asks_158 ?_
        refine lv_iload_n hx hb dL_asks_159 rfl (lv_at hl 2 rfl) ?_
        by_cases c39 : x3 = 0
        · rw [if_pos c39] at h; cases h
        rw [if_neg c39] at h
        refine lv_irem hx hb dL_asks_160 c39 ?_
        refine lv_istore (lv' := [(5, .int ((((nI 7) * x4) + (nI 3)) - (((nI 7) * x4) + (nI 3)) / x3 * x3)), (1, .long (((31 : Int64) * (((31 : Int64) * x1) + ((r31).toInt64))) + ((r37).toInt64))), (0, .ref (b_o 0 0)), (3, .int x3), (4, .int x4)]) hx hb dL_asks_161 hl (by decide) rfl (fun ls hl => ?_)
        refine lv_ldc2 (v := 31) hx hb hown (hts _ q945) dL_asks_163 ?_
        refine lv_ldc2 (v := 31) hx hb hown (hts _ q945) dL_asks_166 ?_
        refine lv_ldc2 (v := 31) hx hb hown (hts _ q945) dL_asks_169 ?_
        refine lv_ldc2 (v := 31) hx hb hown (hts _ q945) dL_asks_172 ?_
        refine lv_lload_n hx hb dL_asks_175 rfl (lv_at hl 1 rfl) ?_
        refine lv_lmul hx hb dL_asks_176 ?_
        refine lv_aload_n hx hb dL_asks_177 rfl (lv_at hl 2 rfl) ?_
        refine lv_iload hx hb dL_asks_178 (lv_at hl 4 rfl) ?_
        refine lv_iload hx hb dL_asks_180 (lv_at hl 0 rfl) ?_
        obtain ⟨⟨r40, w41⟩, hr42, h⟩ := ob h
        dsimp only at h
        refine px_SL (As := [.ref (b_o 0 0), .int x4, .int ((((nI 7) * x4) + (nI 3)) - (((nI 7) * x4) + (nI 3)) / x3 * x3)]) (rest := [.long ((31 : Int64) * (((31 : Int64) * (((31 : Int64) * x1) + ((r31).toInt64))) + ((r37).toInt64))), .long (31 : Int64), .long (31 : Int64), .long (31 : Int64)]) (gs := ([gO E b_o w35] : List va_W)) (gr := ([] : List va_W)) (gc := ([gO E b_o w35] : List va_W)) (g1 := ([gO E b_o w41] : List va_W)) (g2 := ([gO E b_o w41] : List va_W)) ⟨hx, hb, hml, hown, hts⟩ (mT_in l hlt E X L b_o (x4) (((((nI 7) * x4) + (nI 3)) - (((nI 7) * x4) + (nI 3)) / x3 * x3))  (w35) r40 w41 hr42) (vx_cwSW 3 hts (wsw_s q1024 q1025 q17 q1026) rfl rfl rfl hdS_L_in (by rw [hR]; first | exact ⟨Nat.le_of_ble_eq_true rfl, Nat.le_of_ble_eq_true rfl⟩ | exact ⟨by show _ ≤ (2637 : Nat); omega, by show _ ≤ (15822 : Nat); omega⟩)) hK hN hX hL hP hD hS hA [] [0] [0] rfl rfl (by decide) (by decide) rfl (by decide) rfl hl.1 rfl (Nat.le_of_ble_eq_true rfl) dL_asks_182 (by rw [hR]; first | exact ⟨Nat.le_of_ble_eq_true rfl, Nat.le_of_ble_eq_true rfl⟩ | exact ⟨by show _ ≤ (2637 : Nat); omega, by show _ ≤ (15822 : Nat); omega⟩) (fun H locs hP hD hS => ?_)
        refine W.eq (g2 := F0 m 185 ls [.int r40, .long ((31 : Int64) * (((31 : Int64) * (((31 : Int64) * x1) + ((r31).toInt64))) + ((r37).toInt64))), .long (31 : Int64), .long (31 : Int64), .long (31 : Int64)]) rfl ?_
        refine lv_i2l (v := (r40).toInt64) hx hb dL_asks_185 rfl ?_
        refine lv_ladd hx hb dL_asks_186 ?_
        refine lv_lmul hx hb dL_asks_187 ?_
        refine lv_aload_n hx hb dL_asks_188 rfl (lv_at hl 2 rfl) ?_
        refine lv_iload hx hb dL_asks_189 (lv_at hl 4 rfl) ?_
        refine lv_iload hx hb dL_asks_191 (lv_at hl 0 rfl) ?_
        obtain ⟨⟨r43, w44⟩, hr45, h⟩ := ob h
        dsimp only at h
        refine px_SL (As := [.ref (b_o 0 0), .int x4, .int ((((nI 7) * x4) + (nI 3)) - (((nI 7) * x4) + (nI 3)) / x3 * x3)]) (rest := [.long ((31 : Int64) * (((31 : Int64) * (((31 : Int64) * (((31 : Int64) * x1) + ((r31).toInt64))) + ((r37).toInt64))) + ((r40).toInt64))), .long (31 : Int64), .long (31 : Int64)]) (gs := ([gO E b_o w41] : List va_W)) (gr := ([] : List va_W)) (gc := ([gO E b_o w41] : List va_W)) (g1 := ([gO E b_o w44] : List va_W)) (g2 := ([gO E b_o w44] : List va_W)) ⟨hx, hb, hml, hown, hts⟩ (mT_base l hlt E X L b_o (x4) (((((nI 7) * x4) + (nI 3)) - (((nI 7) * x4) + (nI 3)) / x3 * x3))  (w41) r43 w44 hr45) (vx_cwSW 3 hts (wsw_s q1032 q1033 q17 q1034) rfl rfl rfl hdS_L_base (by rw [hR]; first | exact ⟨Nat.le_of_ble_eq_true rfl, Nat.le_of_ble_eq_true rfl⟩ | exact ⟨by show _ ≤ (2637 : Nat); omega, by show _ ≤ (15822 : Nat); omega⟩)) hK hN hX hL hP hD hS hA [] [0] [0] rfl rfl (by decide) (by decide) rfl (by decide) rfl hl.1 rfl (Nat.le_of_ble_eq_true rfl) dL_asks_193 (by rw [hR]; first | exact ⟨Nat.le_of_ble_eq_true rfl, Nat.le_of_ble_eq_true rfl⟩ | exact ⟨by show _ ≤ (2637 : Nat); omega, by show _ ≤ (15822 : Nat); omega⟩) (fun H locs hP hD hS => ?_)
        refine W.eq (g2 := F0 m 196 ls [.int r43, .long ((31 : Int64) * (((31 : Int64) * (((31 : Int64) * (((31 : Int64) * x1) + ((r31).toInt64))) + ((r37).toInt64))) + ((r40).toInt64))), .long (31 : Int64), .long (31 : Int64)]) rfl ?_
        refine lv_i2l (v := (r43).toInt64) hx hb dL_asks_196 rfl ?_
        refine lv_ladd hx hb dL_asks_197 ?_
        refine lv_lmul hx hb dL_asks_198 ?_
        refine lv_aload_n hx hb dL_asks_199 rfl (lv_at hl 2 rfl) ?_
        refine lv_iload hx hb dL_asks_200 (lv_at hl 4 rfl) ?_
        refine lv_iload hx hb dL_asks_202 (lv_at hl 0 rfl) ?_
        obtain ⟨⟨r46, w47⟩, hr48, h⟩ := ob h
        dsimp only at h
        refine px_SL (As := [.ref (b_o 0 0), .int x4, .int ((((nI 7) * x4) + (nI 3)) - (((nI 7) * x4) + (nI 3)) / x3 * x3)]) (rest := [.long ((31 : Int64) * (((31 : Int64) * (((31 : Int64) * (((31 : Int64) * (((31 : Int64) * x1) + ((r31).toInt64))) + ((r37).toInt64))) + ((r40).toInt64))) + ((r43).toInt64))), .long (31 : Int64)]) (gs := ([gO E b_o w44] : List va_W)) (gr := ([] : List va_W)) (gc := ([gO E b_o w44] : List va_W)) (g1 := ([gO E b_o w47] : List va_W)) (g2 := ([gO E b_o w47] : List va_W)) ⟨hx, hb, hml, hown, hts⟩ (mT_baseAgain l hlt E X L b_o (x4) (((((nI 7) * x4) + (nI 3)) - (((nI 7) * x4) + (nI 3)) / x3 * x3))  (w44) r46 w47 hr48) (vx_cwSW 3 hts (wsw_s q1040 q1041 q17 q1042) rfl rfl rfl hdS_L_baseAgain (by rw [hR]; first | exact ⟨Nat.le_of_ble_eq_true rfl, Nat.le_of_ble_eq_true rfl⟩ | exact ⟨by show _ ≤ (2637 : Nat); omega, by show _ ≤ (15822 : Nat); omega⟩)) hK hN hX hL hP hD hS hA [] [0] [0] rfl rfl (by decide) (by decide) rfl (by decide) rfl hl.1 rfl (Nat.le_of_ble_eq_true rfl) dL_asks_204 (by rw [hR]; first | exact ⟨Nat.le_of_ble_eq_true rfl, Nat.le_of_ble_eq_true rfl⟩ | exact ⟨by show _ ≤ (2637 : Nat); omega, by show _ ≤ (15822 : Nat); omega⟩) (fun H locs hP hD hS => ?_)
        refine W.eq (g2 := F0 m 207 ls [.int r46, .long ((31 : Int64) * (((31 : Int64) * (((31 : Int64) * (((31 : Int64) * (((31 : Int64) * x1) + ((r31).toInt64))) + ((r37).toInt64))) + ((r40).toInt64))) + ((r43).toInt64))), .long (31 : Int64)]) rfl ?_
        refine lv_i2l (v := (r46).toInt64) hx hb dL_asks_207 rfl ?_
        refine lv_ladd hx hb dL_asks_208 ?_
        refine lv_lmul hx hb dL_asks_209 ?_
        refine lv_aload_n hx hb dL_asks_210 rfl (lv_at hl 2 rfl) ?_
        refine lv_iload hx hb dL_asks_211 (lv_at hl 4 rfl) ?_
        refine lv_iload hx hb dL_asks_213 (lv_at hl 0 rfl) ?_
        obtain ⟨⟨r49, w50⟩, hr51, h⟩ := ob h
        dsimp only at h
        refine px_SL (As := [.ref (b_o 0 0), .int x4, .int ((((nI 7) * x4) + (nI 3)) - (((nI 7) * x4) + (nI 3)) / x3 * x3)]) (rest := [.long ((31 : Int64) * (((31 : Int64) * (((31 : Int64) * (((31 : Int64) * (((31 : Int64) * (((31 : Int64) * x1) + ((r31).toInt64))) + ((r37).toInt64))) + ((r40).toInt64))) + ((r43).toInt64))) + ((r46).toInt64)))]) (gs := ([gO E b_o w47] : List va_W)) (gr := ([] : List va_W)) (gc := ([gO E b_o w47] : List va_W)) (g1 := ([gO E b_o w50] : List va_W)) (g2 := ([gO E b_o w50] : List va_W)) ⟨hx, hb, hml, hown, hts⟩ (mT_difference l hlt E X L b_o (x4) (((((nI 7) * x4) + (nI 3)) - (((nI 7) * x4) + (nI 3)) / x3 * x3))  (w47) r49 w50 hr51) (vx_cwSW 3 hts (wsw_s q1048 q1049 q17 q1050) rfl rfl rfl hdS_L_difference (by rw [hR]; first | exact ⟨Nat.le_of_ble_eq_true rfl, Nat.le_of_ble_eq_true rfl⟩ | exact ⟨by show _ ≤ (2637 : Nat); omega, by show _ ≤ (15822 : Nat); omega⟩)) hK hN hX hL hP hD hS hA [] [0] [0] rfl rfl (by decide) (by decide) rfl (by decide) rfl hl.1 rfl (Nat.le_of_ble_eq_true rfl) dL_asks_215 (by rw [hR]; first | exact ⟨Nat.le_of_ble_eq_true rfl, Nat.le_of_ble_eq_true rfl⟩ | exact ⟨by show _ ≤ (2637 : Nat); omega, by show _ ≤ (15822 : Nat); omega⟩) (fun H locs hP hD hS => ?_)
        refine W.eq (g2 := F0 m 218 ls [.int r49, .long ((31 : Int64) * (((31 : Int64) * (((31 : Int64) * (((31 : Int64) * (((31 : Int64) * (((31 : Int64) * x1) + ((r31).toInt64))) + ((r37).toInt64))) + ((r40).toInt64))) + ((r43).toInt64))) + ((r46).toInt64)))]) rfl ?_
        refine lv_i2l (v := (r49).toInt64) hx hb dL_asks_218 rfl ?_
        refine lv_ladd hx hb dL_asks_219 ?_
        refine lv_lstore_n (lv' := [(1, .long (((31 : Int64) * (((31 : Int64) * (((31 : Int64) * (((31 : Int64) * (((31 : Int64) * (((31 : Int64) * x1) + ((r31).toInt64))) + ((r37).toInt64))) + ((r40).toInt64))) + ((r43).toInt64))) + ((r46).toInt64))) + ((r49).toInt64))), (5, .int ((((nI 7) * x4) + (nI 3)) - (((nI 7) * x4) + (nI 3)) / x3 * x3)), (0, .ref (b_o 0 0)), (3, .int x3), (4, .int x4)]) hx hb dL_asks_220 rfl hl (by decide) rfl (fun ls hl => ?_)
        refine lv_aload_n hx hb dL_asks_221 rfl (lv_at hl 2 rfl) ?_
        refine lv_iload hx hb dL_asks_222 (lv_at hl 4 rfl) ?_
        obtain ⟨⟨r52, w53⟩, hr54, h⟩ := ob h
        dsimp only at h
        refine px_SL (As := [.ref (b_o 0 0), .int x4]) (rest := []) (gs := ([gO E b_o w50] : List va_W)) (gr := ([] : List va_W)) (gc := ([gO E b_o w50] : List va_W)) (g1 := ([gO E b_o w53] : List va_W)) (g2 := ([gO E b_o w53] : List va_W)) ⟨hx, hb, hml, hown, hts⟩ (mT_line l hlt E X L b_o (x4)  (w50) r52 w53 hr54) (vx_cwSW 2 hts (wsw_s q1058 q1059 q17 q1060) rfl rfl rfl hdS_L_line (by rw [hR]; first | exact ⟨Nat.le_of_ble_eq_true rfl, Nat.le_of_ble_eq_true rfl⟩ | exact ⟨by show _ ≤ (2637 : Nat); omega, by show _ ≤ (15822 : Nat); omega⟩)) hK hN hX hL hP hD hS hA [] [0] [0] rfl rfl (by decide) (by decide) rfl (by decide) rfl hl.1 rfl (Nat.le_of_ble_eq_true rfl) dL_asks_224 (by rw [hR]; first | exact ⟨Nat.le_of_ble_eq_true rfl, Nat.le_of_ble_eq_true rfl⟩ | exact ⟨by show _ ≤ (2637 : Nat); omega, by show _ ≤ (15822 : Nat); omega⟩) (fun H locs hP hD hS => ?_)
        refine W.eq (g2 := F0 m 227 ls [.int r52]) rfl ?_
        refine lv_istore (lv' := [(6, .int r52), (1, .long (((31 : Int64) * (((31 : Int64) * (((31 : Int64) * (((31 : Int64) * (((31 : Int64) * (((31 : Int64) * x1) + ((r31).toInt64))) + ((r37).toInt64))) + ((r40).toInt64))) + ((r43).toInt64))) + ((r46).toInt64))) + ((r49).toInt64))), (5, .int ((((nI 7) * x4) + (nI 3)) - (((nI 7) * x4) + (nI 3)) / x3 * x3)), (0, .ref (b_o 0 0)), (3, .int x3), (4, .int x4)]) hx hb dL_asks_227 hl (by decide) rfl (fun ls hl => ?_)
        refine lv_iconst (v := (nI 0)) hx hb dL_asks_229 (by decide) ?_
        refine lv_istore (lv' := [(7, .int (nI 0)), (6, .int r52), (1, .long (((31 : Int64) * (((31 : Int64) * (((31 : Int64) * (((31 : Int64) * (((31 : Int64) * (((31 : Int64) * x1) + ((r31).toInt64))) + ((r37).toInt64))) + ((r40).toInt64))) + ((r43).toInt64))) + ((r46).toInt64))) + ((r49).toInt64))), (5, .int ((((nI 7) * x4) + (nI 3)) - (((nI 7) * x4) + (nI 3)) / x3 * x3)), (0, .ref (b_o 0 0)), (3, .int x3), (4, .int x4)]) hx hb dL_asks_230 hl (by decide) rfl (fun ls hl => ?_)
        exact L232 K kc ks hkc hks hKK 25 ((((31 : Int64) * (((31 : Int64) * (((31 : Int64) * (((31 : Int64) * (((31 : Int64) * (((31 : Int64) * x1) + ((r31).toInt64))) + ((r37).toInt64))) + ((r40).toInt64))) + ((r43).toInt64))) + ((r46).toInt64))) + ((r49).toInt64))) (x3) (x4) (r52) ((nI 0)) (w53) _ _ (by omega) (by omega) H locs ls hP hD hS (lv_sub hl [4, 2, 5, 6, 1, 0] rfl) h
      · rw [if_neg c30] at h
        refine lv_ldc2 (v := 31) hx hb hown (hts _ q945) dL_asks_87 ?_
        refine lv_ldc2 (v := 31) hx hb hown (hts _ q945) dL_asks_90 ?_
        refine lv_lload_n hx hb dL_asks_93 rfl (lv_at hl 1 rfl) ?_
        refine lv_lmul hx hb dL_asks_94 ?_
        refine lv_aload_n hx hb dL_asks_95 rfl (lv_at hl 0 rfl) ?_
        refine lv_iload hx hb dL_asks_96 (lv_at hl 3 rfl) ?_
        refine lv_iload hx hb dL_asks_98 (lv_at hl 4 rfl) ?_
        obtain ⟨⟨r55, w56⟩, hr57, h⟩ := ob h
        dsimp only at h
        refine px_SL (As := [.ref (b_o 0 0), .int x4, .int x5]) (rest := [.long ((31 : Int64) * x1), .long (31 : Int64)]) (gs := ([gO E b_o τ_o] : List va_W)) (gr := ([] : List va_W)) (gc := ([gO E b_o τ_o] : List va_W)) (g1 := ([gO E b_o w56] : List va_W)) (g2 := ([gO E b_o w56] : List va_W)) ⟨hx, hb, hml, hown, hts⟩ (mT_commitOf l hlt E X L b_o (x4) (x5)  (τ_o) r55 w56 hr57) (vx_cwSW 3 hts (wsw_s q508 q509 q17 q510) rfl rfl rfl hdS_L_commitOf (by rw [hR]; first | exact ⟨Nat.le_of_ble_eq_true rfl, Nat.le_of_ble_eq_true rfl⟩ | exact ⟨by show _ ≤ (2637 : Nat); omega, by show _ ≤ (15822 : Nat); omega⟩)) hK hN hX hL hP hD hS hA [] [0] [0] rfl rfl (by decide) (by decide) rfl (by decide) rfl hl.1 rfl (Nat.le_of_ble_eq_true rfl) dL_asks_100 (by rw [hR]; first | exact ⟨Nat.le_of_ble_eq_true rfl, Nat.le_of_ble_eq_true rfl⟩ | exact ⟨by show _ ≤ (2637 : Nat); omega, by show _ ≤ (15822 : Nat); omega⟩) (fun H locs hP hD hS => ?_)
        refine W.eq (g2 := F0 m 103 ls [.int r55, .long ((31 : Int64) * x1), .long (31 : Int64)]) rfl ?_
        refine lv_i2l (v := (r55).toInt64) hx hb dL_asks_103 rfl ?_
        refine lv_ladd hx hb dL_asks_104 ?_
        refine lv_lmul hx hb dL_asks_105 ?_
        refine lv_aload_n hx hb dL_asks_106 rfl (lv_at hl 0 rfl) ?_
        refine lv_iload hx hb dL_asks_107 (lv_at hl 3 rfl) ?_
        refine lv_iload hx hb dL_asks_109 (lv_at hl 4 rfl) ?_
        obtain ⟨⟨r58, w59⟩, hr60, h⟩ := ob h
        dsimp only at h
        refine px_SL (As := [.ref (b_o 0 0), .int x4, .int x5]) (rest := [.long ((31 : Int64) * (((31 : Int64) * x1) + ((r55).toInt64)))]) (gs := ([gO E b_o w56] : List va_W)) (gr := ([] : List va_W)) (gc := ([gO E b_o w56] : List va_W)) (g1 := ([gO E b_o w59] : List va_W)) (g2 := ([gO E b_o w59] : List va_W)) ⟨hx, hb, hml, hown, hts⟩ (mT_amount l hlt E X L b_o (x4) (x5)  (w56) r58 w59 hr60) (vx_cwSW 3 hts (wsw_s q998 q999 q17 q1000) rfl rfl rfl hdS_L_amount (by rw [hR]; first | exact ⟨Nat.le_of_ble_eq_true rfl, Nat.le_of_ble_eq_true rfl⟩ | exact ⟨by show _ ≤ (2637 : Nat); omega, by show _ ≤ (15822 : Nat); omega⟩)) hK hN hX hL hP hD hS hA [] [0] [0] rfl rfl (by decide) (by decide) rfl (by decide) rfl hl.1 rfl (Nat.le_of_ble_eq_true rfl) dL_asks_111 (by rw [hR]; first | exact ⟨Nat.le_of_ble_eq_true rfl, Nat.le_of_ble_eq_true rfl⟩ | exact ⟨by show _ ≤ (2637 : Nat); omega, by show _ ≤ (15822 : Nat); omega⟩) (fun H locs hP hD hS => ?_)
        refine W.eq (g2 := F0 m 114 ls [.int r58, .long ((31 : Int64) * (((31 : Int64) * x1) + ((r55).toInt64)))]) rfl ?_
        refine lv_i2l (v := (r58).toInt64) hx hb dL_asks_114 rfl ?_
        refine lv_ladd hx hb dL_asks_115 ?_
        refine lv_lstore_n (lv' := [(1, .long (((31 : Int64) * (((31 : Int64) * x1) + ((r55).toInt64))) + ((r58).toInt64))), (0, .ref (b_o 0 0)), (3, .int x3), (4, .int x4), (5, .int x5)]) hx hb dL_asks_116 rfl hl (by decide) rfl (fun ls hl => ?_)
        refine lv_iinc (v := (x5 + nI 1)) (lv' := [(5, .int (x5 + nI 1)), (1, .long (((31 : Int64) * (((31 : Int64) * x1) + ((r55).toInt64))) + ((r58).toInt64))), (0, .ref (b_o 0 0)), (3, .int x3), (4, .int x4)]) hx hb dL_asks_117 hl (k := 4) rfl rfl (by decide) rfl (fun ls hl => ?_)
        refine lv_goto (tgt := 80) hx hb dL_asks_120 (by decide) ?_
        exact ih ((((31 : Int64) * (((31 : Int64) * x1) + ((r55).toInt64))) + ((r58).toInt64))) (x3) (x4) ((x5 + nI 1)) (w59) _ _ (by omega) (by omega) H locs ls hP hD hS (lv_sub hl [2, 1, 3, 4, 0] rfl) h
  have L374 : ∀ (K : Int64 → Int32 → TO → Option (Int64 × TO)) (kc ks : Nat) (hkc : kc ≤ 2637) (hks : ks ≤ 15822) (hKK : ∀ (x1 : Int64) (x4 : Int32) (τ_o : TO) (cc ss : Nat), cc ≤ kc → ss ≤ ks → ∀ (H : Heap) (locs : List Loc) (ls : Array Slot), va_P E.1 vwCl ([gO E b_o τ_o] : List va_W).flatten H → va_D A ([gO E b_o τ_o] : List va_W).flatten → va_S A s.heap H locs → lv_has ls 8 [(0, .ref (b_o 0 0)), (1, .long x1), (4, .int x4)] → K x1 x4 τ_o = some (r, z_o_τ) → W p l e R s m args below meth c H locs cc ss Q (F0 m 268 ls [])) (n : Nat) (x1 : Int64) (x4 : Int32) (x5 : Int32) (τ_o : TO) (cc ss : Nat), cc + n * 14 + 0 ≤ kc → ss + n * 84 + 0 ≤ ks → ∀ (H : Heap) (locs : List Loc) (ls : Array Slot), va_P E.1 vwCl ([gO E b_o τ_o] : List va_W).flatten H → va_D A ([gO E b_o τ_o] : List va_W).flatten → va_S A s.heap H locs → lv_has ls 8 [(0, .ref (b_o 0 0)), (1, .long x1), (4, .int x4), (5, .int x5)] → fL_asks_L374 K n x1 x4 x5 τ_o = some (r, z_o_τ) → W p l e R s m args below meth c H locs cc ss Q (F0 m 374 ls []) := by
    intro K kc ks hkc hks hKK n
    induction n with
    | zero =>
      intro x1 x4 x5 τ_o cc ss hcc hss H locs ls hP hD hS hl h
      unfold fL_asks_L374 at h; cases h
    | succ n ih =>
      intro x1 x4 x5 τ_o cc ss hcc hss H locs ls hP hD hS hl h
      unfold fL_asks_L374 at h
      refine lv_iload hx hb dL_asks_374 (lv_at hl 3 rfl) ?_
      refine lv_bipush (v := (nI 6)) hx hb dL_asks_376 (by decide) ?_
      refine lv_icmp_ge (tgt := 453) hx hb dL_asks_378 (by decide) (fun c80 => ?_) (fun c80 => ?_)
      · rw [if_pos c80] at h
        refine lv_iinc (v := (x4 + nI 1)) (lv' := [(4, .int (x4 + nI 1)), (0, .ref (b_o 0 0)), (1, .long x1), (5, .int x5)]) hx hb dL_asks_453 hl (k := 2) rfl rfl (by decide) rfl (fun ls hl => ?_)
        refine lv_goto (tgt := 268) hx hb dL_asks_456 (by decide) ?_
        exact hKK (x1) ((x4 + nI 1)) (τ_o) _ _ (by omega) (by omega) H locs ls hP hD hS (lv_sub hl [1, 2, 0] rfl) h
      · rw [if_neg c80] at h
        refine lv_ldc2 (v := 31) hx hb hown (hts _ q945) dL_asks_381 ?_
        refine lv_ldc2 (v := 31) hx hb hown (hts _ q945) dL_asks_384 ?_
        refine lv_ldc2 (v := 31) hx hb hown (hts _ q945) dL_asks_387 ?_
        refine lv_ldc2 (v := 31) hx hb hown (hts _ q945) dL_asks_390 ?_
        refine lv_lload_n hx hb dL_asks_393 rfl (lv_at hl 1 rfl) ?_
        refine lv_lmul hx hb dL_asks_394 ?_
        refine lv_aload_n hx hb dL_asks_395 rfl (lv_at hl 0 rfl) ?_
        refine lv_iload hx hb dL_asks_396 (lv_at hl 2 rfl) ?_
        refine lv_iload hx hb dL_asks_398 (lv_at hl 3 rfl) ?_
        obtain ⟨⟨r81, w82⟩, hr83, h⟩ := ob h
        dsimp only at h
        refine px_SL (As := [.ref (b_o 0 0), .int x4, .int x5]) (rest := [.long ((31 : Int64) * x1), .long (31 : Int64), .long (31 : Int64), .long (31 : Int64)]) (gs := ([gO E b_o τ_o] : List va_W)) (gr := ([] : List va_W)) (gc := ([gO E b_o τ_o] : List va_W)) (g1 := ([gO E b_o w82] : List va_W)) (g2 := ([gO E b_o w82] : List va_W)) ⟨hx, hb, hml, hown, hts⟩ (mT_blame l hlt E X L b_o (x4) (x5)  (τ_o) r81 w82 hr83) (vx_cwSW 3 hts (wsw_s q1131 q1132 q17 q1133) rfl rfl rfl hdS_L_blame (by rw [hR]; first | exact ⟨Nat.le_of_ble_eq_true rfl, Nat.le_of_ble_eq_true rfl⟩ | exact ⟨by show _ ≤ (2637 : Nat); omega, by show _ ≤ (15822 : Nat); omega⟩)) hK hN hX hL hP hD hS hA [] [0] [0] rfl rfl (by decide) (by decide) rfl (by decide) rfl hl.1 rfl (Nat.le_of_ble_eq_true rfl) dL_asks_400 (by rw [hR]; first | exact ⟨Nat.le_of_ble_eq_true rfl, Nat.le_of_ble_eq_true rfl⟩ | exact ⟨by show _ ≤ (2637 : Nat); omega, by show _ ≤ (15822 : Nat); omega⟩) (fun H locs hP hD hS => ?_)
        refine W.eq (g2 := F0 m 403 ls [.int r81, .long ((31 : Int64) * x1), .long (31 : Int64), .long (31 : Int64), .long (31 : Int64)]) rfl ?_
        refine lv_i2l (v := (r81).toInt64) hx hb dL_asks_403 rfl ?_
        refine lv_ladd hx hb dL_asks_404 ?_
        refine lv_lmul hx hb dL_asks_405 ?_
        refine lv_aload_n hx hb dL_asks_406 rfl (lv_at hl 0 rfl) ?_
        refine lv_iload hx hb dL_asks_407 (lv_at hl 2 rfl) ?_
        refine lv_iload hx hb dL_asks_409 (lv_at hl 3 rfl) ?_
        refine lv_bipush (v := (nI 30)) hx hb dL_asks_411 (by decide) ?_
        obtain ⟨⟨r84, w85⟩, hr86, h⟩ := ob h
        dsimp only at h
        refine px_SL (As := [.ref (b_o 0 0), .int x4, .int x5, .int (nI 30)]) (rest := [.long ((31 : Int64) * (((31 : Int64) * x1) + ((r81).toInt64))), .long (31 : Int64), .long (31 : Int64)]) (gs := ([gO E b_o w82] : List va_W)) (gr := ([] : List va_W)) (gc := ([gO E b_o w82] : List va_W)) (g1 := ([gO E b_o w85] : List va_W)) (g2 := ([gO E b_o w85] : List va_W)) ⟨hx, hb, hml, hown, hts⟩ (mT_firstBad l hlt E X L b_o (x4) (x5) ((nI 30))  (w82) r84 w85 hr86) (vx_cwSW 4 hts (wsw_s q668 q669 q17 q670) rfl rfl rfl hdS_L_firstBad (by rw [hR]; first | exact ⟨Nat.le_of_ble_eq_true rfl, Nat.le_of_ble_eq_true rfl⟩ | exact ⟨by show _ ≤ (2637 : Nat); omega, by show _ ≤ (15822 : Nat); omega⟩)) hK hN hX hL hP hD hS hA [] [0] [0] rfl rfl (by decide) (by decide) rfl (by decide) rfl hl.1 rfl (Nat.le_of_ble_eq_true rfl) dL_asks_413 (by rw [hR]; first | exact ⟨Nat.le_of_ble_eq_true rfl, Nat.le_of_ble_eq_true rfl⟩ | exact ⟨by show _ ≤ (2637 : Nat); omega, by show _ ≤ (15822 : Nat); omega⟩) (fun H locs hP hD hS => ?_)
        refine W.eq (g2 := F0 m 416 ls [.int r84, .long ((31 : Int64) * (((31 : Int64) * x1) + ((r81).toInt64))), .long (31 : Int64), .long (31 : Int64)]) rfl ?_
        refine lv_i2l (v := (r84).toInt64) hx hb dL_asks_416 rfl ?_
        refine lv_ladd hx hb dL_asks_417 ?_
        refine lv_lmul hx hb dL_asks_418 ?_
        refine lv_aload_n hx hb dL_asks_419 rfl (lv_at hl 0 rfl) ?_
        refine lv_iload hx hb dL_asks_420 (lv_at hl 2 rfl) ?_
        refine lv_iload hx hb dL_asks_422 (lv_at hl 3 rfl) ?_
        refine lv_bipush (v := (nI 10)) hx hb dL_asks_424 (by decide) ?_
        refine lv_iconst (v := (nI 0)) hx hb dL_asks_426 (by decide) ?_
        obtain ⟨⟨r87, w88⟩, hr89, h⟩ := ob h
        dsimp only at h
        refine px_SL (As := [.ref (b_o 0 0), .int x4, .int x5, .int (nI 10), .int (nI 0)]) (rest := [.long ((31 : Int64) * (((31 : Int64) * (((31 : Int64) * x1) + ((r81).toInt64))) + ((r84).toInt64))), .long (31 : Int64)]) (gs := ([gO E b_o w85] : List va_W)) (gr := ([] : List va_W)) (gc := ([gO E b_o w85] : List va_W)) (g1 := ([gO E b_o w88] : List va_W)) (g2 := ([gO E b_o w88] : List va_W)) ⟨hx, hb, hml, hown, hts⟩ (mT_halve l hlt E X L b_o (x4) (x5) ((nI 10)) ((nI 0))  (w85) r87 w88 hr89) (vx_cwSW 5 hts (wsw_s q613 q614 q17 q615) rfl rfl rfl hdS_L_halve (by rw [hR]; first | exact ⟨Nat.le_of_ble_eq_true rfl, Nat.le_of_ble_eq_true rfl⟩ | exact ⟨by show _ ≤ (2637 : Nat); omega, by show _ ≤ (15822 : Nat); omega⟩)) hK hN hX hL hP hD hS hA [] [0] [0] rfl rfl (by decide) (by decide) rfl (by decide) rfl hl.1 rfl (Nat.le_of_ble_eq_true rfl) dL_asks_427 (by rw [hR]; first | exact ⟨Nat.le_of_ble_eq_true rfl, Nat.le_of_ble_eq_true rfl⟩ | exact ⟨by show _ ≤ (2637 : Nat); omega, by show _ ≤ (15822 : Nat); omega⟩) (fun H locs hP hD hS => ?_)
        refine W.eq (g2 := F0 m 430 ls [.int r87, .long ((31 : Int64) * (((31 : Int64) * (((31 : Int64) * x1) + ((r81).toInt64))) + ((r84).toInt64))), .long (31 : Int64)]) rfl ?_
        refine lv_i2l (v := (r87).toInt64) hx hb dL_asks_430 rfl ?_
        refine lv_ladd hx hb dL_asks_431 ?_
        refine lv_lmul hx hb dL_asks_432 ?_
        refine lv_aload_n hx hb dL_asks_433 rfl (lv_at hl 0 rfl) ?_
        refine lv_iload hx hb dL_asks_434 (lv_at hl 2 rfl) ?_
        refine lv_iload hx hb dL_asks_436 (lv_at hl 3 rfl) ?_
        refine lv_bipush (v := (nI 10)) hx hb dL_asks_438 (by decide) ?_
        refine lv_iconst (v := (nI 1)) hx hb dL_asks_440 (by decide) ?_
        obtain ⟨⟨r90, w91⟩, hr92, h⟩ := ob h
        dsimp only at h
        refine px_SL (As := [.ref (b_o 0 0), .int x4, .int x5, .int (nI 10), .int (nI 1)]) (rest := [.long ((31 : Int64) * (((31 : Int64) * (((31 : Int64) * (((31 : Int64) * x1) + ((r81).toInt64))) + ((r84).toInt64))) + ((r87).toInt64)))]) (gs := ([gO E b_o w88] : List va_W)) (gr := ([] : List va_W)) (gc := ([gO E b_o w88] : List va_W)) (g1 := ([gO E b_o w91] : List va_W)) (g2 := ([gO E b_o w91] : List va_W)) ⟨hx, hb, hml, hown, hts⟩ (mT_halve l hlt E X L b_o (x4) (x5) ((nI 10)) ((nI 1))  (w88) r90 w91 hr92) (vx_cwSW 5 hts (wsw_s q613 q614 q17 q615) rfl rfl rfl hdS_L_halve (by rw [hR]; first | exact ⟨Nat.le_of_ble_eq_true rfl, Nat.le_of_ble_eq_true rfl⟩ | exact ⟨by show _ ≤ (2637 : Nat); omega, by show _ ≤ (15822 : Nat); omega⟩)) hK hN hX hL hP hD hS hA [] [0] [0] rfl rfl (by decide) (by decide) rfl (by decide) rfl hl.1 rfl (Nat.le_of_ble_eq_true rfl) dL_asks_441 (by rw [hR]; first | exact ⟨Nat.le_of_ble_eq_true rfl, Nat.le_of_ble_eq_true rfl⟩ | exact ⟨by show _ ≤ (2637 : Nat); omega, by show _ ≤ (15822 : Nat); omega⟩) (fun H locs hP hD hS => ?_)
        refine W.eq (g2 := F0 m 444 ls [.int r90, .long ((31 : Int64) * (((31 : Int64) * (((31 : Int64) * (((31 : Int64) * x1) + ((r81).toInt64))) + ((r84).toInt64))) + ((r87).toInt64)))]) rfl ?_
        refine lv_i2l (v := (r90).toInt64) hx hb dL_asks_444 rfl ?_
        refine lv_ladd hx hb dL_asks_445 ?_
        refine lv_lstore_n (lv' := [(1, .long (((31 : Int64) * (((31 : Int64) * (((31 : Int64) * (((31 : Int64) * x1) + ((r81).toInt64))) + ((r84).toInt64))) + ((r87).toInt64))) + ((r90).toInt64))), (0, .ref (b_o 0 0)), (4, .int x4), (5, .int x5)]) hx hb dL_asks_446 rfl hl (by decide) rfl (fun ls hl => ?_)
        refine lv_iinc (v := (x5 + nI 1)) (lv' := [(5, .int (x5 + nI 1)), (1, .long (((31 : Int64) * (((31 : Int64) * (((31 : Int64) * (((31 : Int64) * x1) + ((r81).toInt64))) + ((r84).toInt64))) + ((r87).toInt64))) + ((r90).toInt64))), (0, .ref (b_o 0 0)), (4, .int x4)]) hx hb dL_asks_447 hl (k := 3) rfl rfl (by decide) rfl (fun ls hl => ?_)
        refine lv_goto (tgt := 374) hx hb dL_asks_450 (by decide) ?_
        exact ih ((((31 : Int64) * (((31 : Int64) * (((31 : Int64) * (((31 : Int64) * x1) + ((r81).toInt64))) + ((r84).toInt64))) + ((r87).toInt64))) + ((r90).toInt64))) (x4) ((x5 + nI 1)) (w91) _ _ (by omega) (by omega) H locs ls hP hD hS (lv_sub hl [2, 1, 3, 0] rfl) h
  have L342 : ∀ (K : Int64 → Int32 → TO → Option (Int64 × TO)) (kc ks : Nat) (hkc : kc ≤ 2637) (hks : ks ≤ 15822) (hKK : ∀ (x1 : Int64) (x4 : Int32) (τ_o : TO) (cc ss : Nat), cc ≤ kc → ss ≤ ks → ∀ (H : Heap) (locs : List Loc) (ls : Array Slot), va_P E.1 vwCl ([gO E b_o τ_o] : List va_W).flatten H → va_D A ([gO E b_o τ_o] : List va_W).flatten → va_S A s.heap H locs → lv_has ls 8 [(0, .ref (b_o 0 0)), (1, .long x1), (4, .int x4)] → K x1 x4 τ_o = some (r, z_o_τ) → W p l e R s m args below meth c H locs cc ss Q (F0 m 268 ls [])) (n : Nat) (x1 : Int64) (x4 : Int32) (x5 : Int32) (τ_o : TO) (cc ss : Nat), cc + n * 2 + 98 ≤ kc → ss + n * 12 + 588 ≤ ks → ∀ (H : Heap) (locs : List Loc) (ls : Array Slot), va_P E.1 vwCl ([gO E b_o τ_o] : List va_W).flatten H → va_D A ([gO E b_o τ_o] : List va_W).flatten → va_S A s.heap H locs → lv_has ls 8 [(0, .ref (b_o 0 0)), (1, .long x1), (4, .int x4), (5, .int x5)] → fL_asks_L342 K n x1 x4 x5 τ_o = some (r, z_o_τ) → W p l e R s m args below meth c H locs cc ss Q (F0 m 342 ls []) := by
    intro K kc ks hkc hks hKK n
    induction n with
    | zero =>
      intro x1 x4 x5 τ_o cc ss hcc hss H locs ls hP hD hS hl h
      unfold fL_asks_L342 at h; cases h
    | succ n ih =>
      intro x1 x4 x5 τ_o cc ss hcc hss H locs ls hP hD hS hl h
      unfold fL_asks_L342 at h
      refine lv_iload hx hb dL_asks_342 (lv_at hl 3 rfl) ?_
      refine lv_bipush (v := (nI 24)) hx hb dL_asks_344 (by decide) ?_
      refine lv_icmp_ge (tgt := 371) hx hb dL_asks_346 (by decide) (fun c76 => ?_) (fun c76 => ?_)
      · rw [if_pos c76] at h
        refine lv_iconst (v := (nI 0)) hx hb dL_asks_371 (by decide) ?_
        refine lv_istore (lv' := [(5, .int (nI 0)), (0, .ref (b_o 0 0)), (1, .long x1), (4, .int x4)]) hx hb dL_asks_372 hl (by decide) rfl (fun ls hl => ?_)
        exact L374 K kc ks hkc hks hKK 7 (x1) (x4) ((nI 0)) (τ_o) _ _ (by omega) (by omega) H locs ls hP hD hS (lv_sub hl [1, 2, 3, 0] rfl) h
      · rw [if_neg c76] at h
        refine lv_ldc2 (v := 31) hx hb hown (hts _ q945) dL_asks_349 ?_
        refine lv_lload_n hx hb dL_asks_352 rfl (lv_at hl 1 rfl) ?_
        refine lv_lmul hx hb dL_asks_353 ?_
        refine lv_aload_n hx hb dL_asks_354 rfl (lv_at hl 0 rfl) ?_
        refine lv_iload hx hb dL_asks_355 (lv_at hl 2 rfl) ?_
        refine lv_iload hx hb dL_asks_357 (lv_at hl 3 rfl) ?_
        obtain ⟨⟨r77, w78⟩, hr79, h⟩ := ob h
        dsimp only at h
        refine px_SL (As := [.ref (b_o 0 0), .int x4, .int x5]) (rest := [.long ((31 : Int64) * x1)]) (gs := ([gO E b_o τ_o] : List va_W)) (gr := ([] : List va_W)) (gc := ([gO E b_o τ_o] : List va_W)) (g1 := ([gO E b_o w78] : List va_W)) (g2 := ([gO E b_o w78] : List va_W)) ⟨hx, hb, hml, hown, hts⟩ (mT_onLine l hlt E X L b_o (x4) (x5)  (τ_o) r77 w78 hr79) (vx_cwSW 3 hts (wsw_s q1122 q1123 q17 q1124) rfl rfl rfl hdS_L_onLine (by rw [hR]; first | exact ⟨Nat.le_of_ble_eq_true rfl, Nat.le_of_ble_eq_true rfl⟩ | exact ⟨by show _ ≤ (2637 : Nat); omega, by show _ ≤ (15822 : Nat); omega⟩)) hK hN hX hL hP hD hS hA [] [0] [0] rfl rfl (by decide) (by decide) rfl (by decide) rfl hl.1 rfl (Nat.le_of_ble_eq_true rfl) dL_asks_359 (by rw [hR]; first | exact ⟨Nat.le_of_ble_eq_true rfl, Nat.le_of_ble_eq_true rfl⟩ | exact ⟨by show _ ≤ (2637 : Nat); omega, by show _ ≤ (15822 : Nat); omega⟩) (fun H locs hP hD hS => ?_)
        refine W.eq (g2 := F0 m 362 ls [.int r77, .long ((31 : Int64) * x1)]) rfl ?_
        refine lv_i2l (v := (r77).toInt64) hx hb dL_asks_362 rfl ?_
        refine lv_ladd hx hb dL_asks_363 ?_
        refine lv_lstore_n (lv' := [(1, .long (((31 : Int64) * x1) + ((r77).toInt64))), (0, .ref (b_o 0 0)), (4, .int x4), (5, .int x5)]) hx hb dL_asks_364 rfl hl (by decide) rfl (fun ls hl => ?_)
        refine lv_iinc (v := (x5 + nI 1)) (lv' := [(5, .int (x5 + nI 1)), (1, .long (((31 : Int64) * x1) + ((r77).toInt64))), (0, .ref (b_o 0 0)), (4, .int x4)]) hx hb dL_asks_365 hl (k := 3) rfl rfl (by decide) rfl (fun ls hl => ?_)
        refine lv_goto (tgt := 342) hx hb dL_asks_368 (by decide) ?_
        exact ih ((((31 : Int64) * x1) + ((r77).toInt64))) (x4) ((x5 + nI 1)) (w78) _ _ (by omega) (by omega) H locs ls hP hD hS (lv_sub hl [2, 1, 3, 0] rfl) h
  have L307 : ∀ (K : Int64 → Int32 → TO → Option (Int64 × TO)) (kc ks : Nat) (hkc : kc ≤ 2637) (hks : ks ≤ 15822) (hKK : ∀ (x1 : Int64) (x4 : Int32) (τ_o : TO) (cc ss : Nat), cc ≤ kc → ss ≤ ks → ∀ (H : Heap) (locs : List Loc) (ls : Array Slot), va_P E.1 vwCl ([gO E b_o τ_o] : List va_W).flatten H → va_D A ([gO E b_o τ_o] : List va_W).flatten → va_S A s.heap H locs → lv_has ls 8 [(0, .ref (b_o 0 0)), (1, .long x1), (4, .int x4)] → K x1 x4 τ_o = some (r, z_o_τ) → W p l e R s m args below meth c H locs cc ss Q (F0 m 268 ls [])) (n : Nat) (x1 : Int64) (x4 : Int32) (x5 : Int32) (τ_o : TO) (cc ss : Nat), cc + n * 3 + 149 ≤ kc → ss + n * 18 + 894 ≤ ks → ∀ (H : Heap) (locs : List Loc) (ls : Array Slot), va_P E.1 vwCl ([gO E b_o τ_o] : List va_W).flatten H → va_D A ([gO E b_o τ_o] : List va_W).flatten → va_S A s.heap H locs → lv_has ls 8 [(0, .ref (b_o 0 0)), (1, .long x1), (4, .int x4), (5, .int x5)] → fL_asks_L307 K n x1 x4 x5 τ_o = some (r, z_o_τ) → W p l e R s m args below meth c H locs cc ss Q (F0 m 307 ls []) := by
    intro K kc ks hkc hks hKK n
    induction n with
    | zero =>
      intro x1 x4 x5 τ_o cc ss hcc hss H locs ls hP hD hS hl h
      unfold fL_asks_L307 at h; cases h
    | succ n ih =>
      intro x1 x4 x5 τ_o cc ss hcc hss H locs ls hP hD hS hl h
      unfold fL_asks_L307 at h
      refine lv_iload hx hb dL_asks_307 (lv_at hl 3 rfl) ?_
      refine lv_aload_n hx hb dL_asks_309 rfl (lv_at hl 0 rfl) ?_
      refine lv_iconst (v := (nI 1)) hx hb dL_asks_310 (by decide) ?_
      obtain ⟨⟨r65, w66⟩, hr67, h⟩ := ob h
      dsimp only at h
      refine px_SL (As := [.ref (b_o 0 0), .int (nI 1)]) (rest := [.int x5]) (gs := ([gO E b_o τ_o] : List va_W)) (gr := ([] : List va_W)) (gc := ([gO E b_o τ_o] : List va_W)) (g1 := ([gO E b_o w66] : List va_W)) (g2 := ([gO E b_o w66] : List va_W)) ⟨hx, hb, hml, hown, hts⟩ (mT_account l hlt E X L b_o ((nI 1))  (τ_o) r65 w66 hr67) (vx_cwSW 2 hts (wsw_s q848 q849 q17 q850) rfl rfl rfl hdS_L_account (by rw [hR]; first | exact ⟨Nat.le_of_ble_eq_true rfl, Nat.le_of_ble_eq_true rfl⟩ | exact ⟨by show _ ≤ (2637 : Nat); omega, by show _ ≤ (15822 : Nat); omega⟩)) hK hN hX hL hP hD hS hA [] [0] [0] rfl rfl (by decide) (by decide) rfl (by decide) rfl hl.1 rfl (Nat.le_of_ble_eq_true rfl) dL_asks_311 (by rw [hR]; first | exact ⟨Nat.le_of_ble_eq_true rfl, Nat.le_of_ble_eq_true rfl⟩ | exact ⟨by show _ ≤ (2637 : Nat); omega, by show _ ≤ (15822 : Nat); omega⟩) (fun H locs hP hD hS => ?_)
      refine W.eq (g2 := F0 m 314 ls [.int r65, .int x5]) rfl ?_
      refine lv_icmp_ge (tgt := 339) hx hb dL_asks_314 (by decide) (fun c68 => ?_) (fun c68 => ?_)
      · rw [if_pos c68] at h
        refine lv_iconst (v := (nI 0)) hx hb dL_asks_339 (by decide) ?_
        refine lv_istore (lv' := [(5, .int (nI 0)), (0, .ref (b_o 0 0)), (1, .long x1), (4, .int x4)]) hx hb dL_asks_340 hl (by decide) rfl (fun ls hl => ?_)
        exact L342 K kc ks hkc hks hKK 25 (x1) (x4) ((nI 0)) (w66) _ _ (by omega) (by omega) H locs ls hP hD hS (lv_sub hl [1, 2, 3, 0] rfl) h
      · rw [if_neg c68] at h
        refine lv_ldc2 (v := 31) hx hb hown (hts _ q945) dL_asks_317 ?_
        refine lv_lload_n hx hb dL_asks_320 rfl (lv_at hl 1 rfl) ?_
        refine lv_lmul hx hb dL_asks_321 ?_
        refine lv_aload_n hx hb dL_asks_322 rfl (lv_at hl 0 rfl) ?_
        refine lv_iload hx hb dL_asks_323 (lv_at hl 2 rfl) ?_
        refine lv_iload hx hb dL_asks_325 (lv_at hl 3 rfl) ?_
        obtain ⟨⟨r69, w70⟩, hr71, h⟩ := ob h
        dsimp only at h
        refine px_SL (As := [.ref (b_o 0 0), .int x4, .int x5]) (rest := [.long ((31 : Int64) * x1)]) (gs := ([gO E b_o w66] : List va_W)) (gr := ([] : List va_W)) (gc := ([gO E b_o w66] : List va_W)) (g1 := ([gO E b_o w70] : List va_W)) (g2 := ([gO E b_o w70] : List va_W)) ⟨hx, hb, hml, hown, hts⟩ (mT_conflicts l hlt E X L b_o (x4) (x5)  (w66) r69 w70 hr71) (vx_cwSW 3 hts (wsw_s q1111 q1112 q17 q1113) rfl rfl rfl hdS_L_conflicts (by rw [hR]; first | exact ⟨Nat.le_of_ble_eq_true rfl, Nat.le_of_ble_eq_true rfl⟩ | exact ⟨by show _ ≤ (2637 : Nat); omega, by show _ ≤ (15822 : Nat); omega⟩)) hK hN hX hL hP hD hS hA [] [0] [0] rfl rfl (by decide) (by decide) rfl (by decide) rfl hl.1 rfl (Nat.le_of_ble_eq_true rfl) dL_asks_327 (by rw [hR]; first | exact ⟨Nat.le_of_ble_eq_true rfl, Nat.le_of_ble_eq_true rfl⟩ | exact ⟨by show _ ≤ (2637 : Nat); omega, by show _ ≤ (15822 : Nat); omega⟩) (fun H locs hP hD hS => ?_)
        refine W.eq (g2 := F0 m 330 ls [.int r69, .long ((31 : Int64) * x1)]) rfl ?_
        refine lv_i2l (v := (r69).toInt64) hx hb dL_asks_330 rfl ?_
        refine lv_ladd hx hb dL_asks_331 ?_
        refine lv_lstore_n (lv' := [(1, .long (((31 : Int64) * x1) + ((r69).toInt64))), (0, .ref (b_o 0 0)), (4, .int x4), (5, .int x5)]) hx hb dL_asks_332 rfl hl (by decide) rfl (fun ls hl => ?_)
        refine lv_iinc (v := (x5 + nI 1)) (lv' := [(5, .int (x5 + nI 1)), (1, .long (((31 : Int64) * x1) + ((r69).toInt64))), (0, .ref (b_o 0 0)), (4, .int x4)]) hx hb dL_asks_333 hl (k := 3) rfl rfl (by decide) rfl (fun ls hl => ?_)
        refine lv_goto (tgt := 307) hx hb dL_asks_336 (by decide) ?_
        exact ih ((((31 : Int64) * x1) + ((r69).toInt64))) (x4) ((x5 + nI 1)) (w70) _ _ (by omega) (by omega) H locs ls hP hD hS (lv_sub hl [2, 1, 3, 0] rfl) h
  have L462 : ∀ (n : Nat) (x1 : Int64) (x4 : Int32) (τ_o : TO) (cc ss : Nat), cc + n * 1 + 0 ≤ 2637 → ss + n * 6 + 0 ≤ 15822 → ∀ (H : Heap) (locs : List Loc) (ls : Array Slot), va_P E.1 vwCl ([gO E b_o τ_o] : List va_W).flatten H → va_D A ([gO E b_o τ_o] : List va_W).flatten → va_S A s.heap H locs → lv_has ls 8 [(0, .ref (b_o 0 0)), (1, .long x1), (4, .int x4)] → fL_asks_L462 n x1 x4 τ_o = some (r, z_o_τ) → W p l e R s m args below meth c H locs cc ss Q (F0 m 462 ls []) := by
    intro n
    induction n with
    | zero =>
      intro x1 x4 τ_o cc ss hcc hss H locs ls hP hD hS hl h
      unfold fL_asks_L462 at h; cases h
    | succ n ih =>
      intro x1 x4 τ_o cc ss hcc hss H locs ls hP hD hS hl h
      unfold fL_asks_L462 at h
      refine lv_iload hx hb dL_asks_462 (lv_at hl 2 rfl) ?_
      refine lv_iconst (v := (nI 4)) hx hb dL_asks_464 (by decide) ?_
      refine lv_icmp_ge (tgt := 488) hx hb dL_asks_465 (by decide) (fun c61 => ?_) (fun c61 => ?_)
      · rw [if_pos c61] at h
        refine lv_lload_n hx hb dL_asks_488 rfl (lv_at hl 1 rfl) ?_
        cases h
        refine W.widen (k := 2637) (n := 15822) (by omega) (by omega) ?_
        exact px_eWl hA0 hQ hP hD hS hx hb hr hlocks dL_asks_489
      · rw [if_neg c61] at h
        refine lv_ldc2 (v := 31) hx hb hown (hts _ q945) dL_asks_468 ?_
        refine lv_lload_n hx hb dL_asks_471 rfl (lv_at hl 1 rfl) ?_
        refine lv_lmul hx hb dL_asks_472 ?_
        refine lv_aload_n hx hb dL_asks_473 rfl (lv_at hl 0 rfl) ?_
        refine lv_iload hx hb dL_asks_474 (lv_at hl 2 rfl) ?_
        obtain ⟨⟨r62, w63⟩, hr64, h⟩ := ob h
        dsimp only at h
        refine px_SL (As := [.ref (b_o 0 0), .int x4]) (rest := [.long ((31 : Int64) * x1)]) (gs := ([gO E b_o τ_o] : List va_W)) (gr := ([] : List va_W)) (gc := ([gO E b_o τ_o] : List va_W)) (g1 := ([gO E b_o w63] : List va_W)) (g2 := ([gO E b_o w63] : List va_W)) ⟨hx, hb, hml, hown, hts⟩ (mT_inBundle l hlt E X L b_o (x4)  (τ_o) r62 w63 hr64) (vx_cwSW 2 hts (wsw_s q1142 q1143 q17 q1144) rfl rfl rfl hdS_L_inBundle (by rw [hR]; first | exact ⟨Nat.le_of_ble_eq_true rfl, Nat.le_of_ble_eq_true rfl⟩ | exact ⟨by show _ ≤ (2637 : Nat); omega, by show _ ≤ (15822 : Nat); omega⟩)) hK hN hX hL hP hD hS hA [] [0] [0] rfl rfl (by decide) (by decide) rfl (by decide) rfl hl.1 rfl (Nat.le_of_ble_eq_true rfl) dL_asks_476 (by rw [hR]; first | exact ⟨Nat.le_of_ble_eq_true rfl, Nat.le_of_ble_eq_true rfl⟩ | exact ⟨by show _ ≤ (2637 : Nat); omega, by show _ ≤ (15822 : Nat); omega⟩) (fun H locs hP hD hS => ?_)
        refine W.eq (g2 := F0 m 479 ls [.int r62, .long ((31 : Int64) * x1)]) rfl ?_
        refine lv_i2l (v := (r62).toInt64) hx hb dL_asks_479 rfl ?_
        refine lv_ladd hx hb dL_asks_480 ?_
        refine lv_lstore_n (lv' := [(1, .long (((31 : Int64) * x1) + ((r62).toInt64))), (0, .ref (b_o 0 0)), (4, .int x4)]) hx hb dL_asks_481 rfl hl (by decide) rfl (fun ls hl => ?_)
        refine lv_iinc (v := (x4 + nI 1)) (lv' := [(4, .int (x4 + nI 1)), (1, .long (((31 : Int64) * x1) + ((r62).toInt64))), (0, .ref (b_o 0 0))]) hx hb dL_asks_482 hl (k := 2) rfl rfl (by decide) rfl (fun ls hl => ?_)
        refine lv_goto (tgt := 462) hx hb dL_asks_485 (by decide) ?_
        exact ih ((((31 : Int64) * x1) + ((r62).toInt64))) ((x4 + nI 1)) (w63) _ _ (by omega) (by omega) H locs ls hP hD hS (lv_sub hl [2, 1, 0] rfl) h
  have L268 : ∀ (n : Nat) (x1 : Int64) (x4 : Int32) (τ_o : TO) (cc ss : Nat), cc + n * 170 + 6 ≤ 2637 → ss + n * 1020 + 36 ≤ 15822 → ∀ (H : Heap) (locs : List Loc) (ls : Array Slot), va_P E.1 vwCl ([gO E b_o τ_o] : List va_W).flatten H → va_D A ([gO E b_o τ_o] : List va_W).flatten → va_S A s.heap H locs → lv_has ls 8 [(0, .ref (b_o 0 0)), (1, .long x1), (4, .int x4)] → fL_asks_L268 n x1 x4 τ_o = some (r, z_o_τ) → W p l e R s m args below meth c H locs cc ss Q (F0 m 268 ls []) := by
    intro n
    induction n with
    | zero =>
      intro x1 x4 τ_o cc ss hcc hss H locs ls hP hD hS hl h
      unfold fL_asks_L268 at h; cases h
    | succ n ih =>
      intro x1 x4 τ_o cc ss hcc hss H locs ls hP hD hS hl h
      unfold fL_asks_L268 at h
      refine lv_iload hx hb dL_asks_268 (lv_at hl 2 rfl) ?_
      refine lv_aload_n hx hb dL_asks_270 rfl (lv_at hl 0 rfl) ?_
      refine lv_iconst (v := (nI 1)) hx hb dL_asks_271 (by decide) ?_
      obtain ⟨⟨r20, w21⟩, hr22, h⟩ := ob h
      dsimp only at h
      refine px_SL (As := [.ref (b_o 0 0), .int (nI 1)]) (rest := [.int x4]) (gs := ([gO E b_o τ_o] : List va_W)) (gr := ([] : List va_W)) (gc := ([gO E b_o τ_o] : List va_W)) (g1 := ([gO E b_o w21] : List va_W)) (g2 := ([gO E b_o w21] : List va_W)) ⟨hx, hb, hml, hown, hts⟩ (mT_account l hlt E X L b_o ((nI 1))  (τ_o) r20 w21 hr22) (vx_cwSW 2 hts (wsw_s q848 q849 q17 q850) rfl rfl rfl hdS_L_account (by rw [hR]; first | exact ⟨Nat.le_of_ble_eq_true rfl, Nat.le_of_ble_eq_true rfl⟩ | exact ⟨by show _ ≤ (2637 : Nat); omega, by show _ ≤ (15822 : Nat); omega⟩)) hK hN hX hL hP hD hS hA [] [0] [0] rfl rfl (by decide) (by decide) rfl (by decide) rfl hl.1 rfl (Nat.le_of_ble_eq_true rfl) dL_asks_272 (by rw [hR]; first | exact ⟨Nat.le_of_ble_eq_true rfl, Nat.le_of_ble_eq_true rfl⟩ | exact ⟨by show _ ≤ (2637 : Nat); omega, by show _ ≤ (15822 : Nat); omega⟩) (fun H locs hP hD hS => ?_)
      refine W.eq (g2 := F0 m 275 ls [.int r20, .int x4]) rfl ?_
      refine lv_icmp_ge (tgt := 459) hx hb dL_asks_275 (by decide) (fun c23 => ?_) (fun c23 => ?_)
      · rw [if_pos c23] at h
        refine lv_iconst (v := (nI 0)) hx hb dL_asks_459 (by decide) ?_
        refine lv_istore (lv' := [(4, .int (nI 0)), (0, .ref (b_o 0 0)), (1, .long x1)]) hx hb dL_asks_460 hl (by decide) rfl (fun ls hl => ?_)
        exact L462 5 (x1) ((nI 0)) (w21) _ _ (by omega) (by omega) H locs ls hP hD hS (lv_sub hl [1, 2, 0] rfl) h
      · rw [if_neg c23] at h
        refine lv_ldc2 (v := 31) hx hb hown (hts _ q945) dL_asks_278 ?_
        refine lv_ldc2 (v := 31) hx hb hown (hts _ q945) dL_asks_281 ?_
        refine lv_lload_n hx hb dL_asks_284 rfl (lv_at hl 1 rfl) ?_
        refine lv_lmul hx hb dL_asks_285 ?_
        refine lv_aload_n hx hb dL_asks_286 rfl (lv_at hl 0 rfl) ?_
        refine lv_iload hx hb dL_asks_287 (lv_at hl 2 rfl) ?_
        obtain ⟨⟨r24, w25⟩, hr26, h⟩ := ob h
        dsimp only at h
        refine px_SL (As := [.ref (b_o 0 0), .int x4]) (rest := [.long ((31 : Int64) * x1), .long (31 : Int64)]) (gs := ([gO E b_o w21] : List va_W)) (gr := ([] : List va_W)) (gc := ([gO E b_o w21] : List va_W)) (g1 := ([gO E b_o w25] : List va_W)) (g2 := ([gO E b_o w25] : List va_W)) ⟨hx, hb, hml, hown, hts⟩ (mT_tip l hlt E X L b_o (x4)  (w21) r24 w25 hr26) (vx_cwSW 2 hts (wsw_s q494 q495 q17 q496) rfl rfl rfl hdS_L_tip (by rw [hR]; first | exact ⟨Nat.le_of_ble_eq_true rfl, Nat.le_of_ble_eq_true rfl⟩ | exact ⟨by show _ ≤ (2637 : Nat); omega, by show _ ≤ (15822 : Nat); omega⟩)) hK hN hX hL hP hD hS hA [] [0] [0] rfl rfl (by decide) (by decide) rfl (by decide) rfl hl.1 rfl (Nat.le_of_ble_eq_true rfl) dL_asks_289 (by rw [hR]; first | exact ⟨Nat.le_of_ble_eq_true rfl, Nat.le_of_ble_eq_true rfl⟩ | exact ⟨by show _ ≤ (2637 : Nat); omega, by show _ ≤ (15822 : Nat); omega⟩) (fun H locs hP hD hS => ?_)
        refine W.eq (g2 := F0 m 292 ls [.int r24, .long ((31 : Int64) * x1), .long (31 : Int64)]) rfl ?_
        refine lv_i2l (v := (r24).toInt64) hx hb dL_asks_292 rfl ?_
        refine lv_ladd hx hb dL_asks_293 ?_
        refine lv_lmul hx hb dL_asks_294 ?_
        refine lv_aload_n hx hb dL_asks_295 rfl (lv_at hl 0 rfl) ?_
        refine lv_iload hx hb dL_asks_296 (lv_at hl 2 rfl) ?_
        obtain ⟨⟨r27, w28⟩, hr29, h⟩ := ob h
        dsimp only at h
        refine px_SL (As := [.ref (b_o 0 0), .int x4]) (rest := [.long ((31 : Int64) * (((31 : Int64) * x1) + ((r24).toInt64)))]) (gs := ([gO E b_o w25] : List va_W)) (gr := ([] : List va_W)) (gc := ([gO E b_o w25] : List va_W)) (g1 := ([gO E b_o w28] : List va_W)) (g2 := ([gO E b_o w28] : List va_W)) ⟨hx, hb, hml, hown, hts⟩ (mT_tastiest l hlt E X L b_o (x4)  (w25) r27 w28 hr29) (vx_cwSW 2 hts (wsw_s q1099 q1100 q17 q1101) rfl rfl rfl hdS_L_tastiest (by rw [hR]; first | exact ⟨Nat.le_of_ble_eq_true rfl, Nat.le_of_ble_eq_true rfl⟩ | exact ⟨by show _ ≤ (2637 : Nat); omega, by show _ ≤ (15822 : Nat); omega⟩)) hK hN hX hL hP hD hS hA [] [0] [0] rfl rfl (by decide) (by decide) rfl (by decide) rfl hl.1 rfl (Nat.le_of_ble_eq_true rfl) dL_asks_298 (by rw [hR]; first | exact ⟨Nat.le_of_ble_eq_true rfl, Nat.le_of_ble_eq_true rfl⟩ | exact ⟨by show _ ≤ (2637 : Nat); omega, by show _ ≤ (15822 : Nat); omega⟩) (fun H locs hP hD hS => ?_)
        refine W.eq (g2 := F0 m 301 ls [.int r27, .long ((31 : Int64) * (((31 : Int64) * x1) + ((r24).toInt64)))]) rfl ?_
        refine lv_i2l (v := (r27).toInt64) hx hb dL_asks_301 rfl ?_
        refine lv_ladd hx hb dL_asks_302 ?_
        refine lv_lstore_n (lv' := [(1, .long (((31 : Int64) * (((31 : Int64) * x1) + ((r24).toInt64))) + ((r27).toInt64))), (0, .ref (b_o 0 0)), (4, .int x4)]) hx hb dL_asks_303 rfl hl (by decide) rfl (fun ls hl => ?_)
        refine lv_iconst (v := (nI 0)) hx hb dL_asks_304 (by decide) ?_
        refine lv_istore (lv' := [(5, .int (nI 0)), (1, .long (((31 : Int64) * (((31 : Int64) * x1) + ((r24).toInt64))) + ((r27).toInt64))), (0, .ref (b_o 0 0)), (4, .int x4)]) hx hb dL_asks_305 hl (by decide) rfl (fun ls hl => ?_)
        exact L307 (fL_asks_L268 n) (cc + 170) (ss + 1020) (by omega) (by omega) (fun x1 x4 τ_o cc1 ss1 h1 h2 => ih x1 x4 τ_o cc1 ss1 (by omega) (by omega)) 6 ((((31 : Int64) * (((31 : Int64) * x1) + ((r24).toInt64))) + ((r27).toInt64))) (x4) ((nI 0)) (w28) _ _ (by omega) (by omega) H locs ls hP hD hS (lv_sub hl [2, 1, 3, 0] rfl) h
  have L71 : ∀ (n : Nat) (x1 : Int64) (x3 : Int32) (x4 : Int32) (τ_o : TO) (cc ss : Nat), cc + n * 64 + 1026 ≤ 2637 → ss + n * 384 + 6156 ≤ 15822 → ∀ (H : Heap) (locs : List Loc) (ls : Array Slot), va_P E.1 vwCl ([gO E b_o τ_o] : List va_W).flatten H → va_D A ([gO E b_o τ_o] : List va_W).flatten → va_S A s.heap H locs → lv_has ls 8 [(0, .ref (b_o 0 0)), (1, .long x1), (3, .int x3), (4, .int x4)] → fL_asks_L71 n x1 x3 x4 τ_o = some (r, z_o_τ) → W p l e R s m args below meth c H locs cc ss Q (F0 m 71 ls []) := by
    intro n
    induction n with
    | zero =>
      intro x1 x3 x4 τ_o cc ss hcc hss H locs ls hP hD hS hl h
      unfold fL_asks_L71 at h; cases h
    | succ n ih =>
      intro x1 x3 x4 τ_o cc ss hcc hss H locs ls hP hD hS hl h
      unfold fL_asks_L71 at h
      refine lv_iload hx hb dL_asks_71 (lv_at hl 3 rfl) ?_
      refine lv_iload_n hx hb dL_asks_73 rfl (lv_at hl 2 rfl) ?_
      refine lv_icmp_ge (tgt := 265) hx hb dL_asks_74 (by decide) (fun c19 => ?_) (fun c19 => ?_)
      · rw [if_pos c19] at h
        refine lv_iconst (v := (nI 0)) hx hb dL_asks_265 (by decide) ?_
        refine lv_istore (lv' := [(4, .int (nI 0)), (0, .ref (b_o 0 0)), (1, .long x1), (3, .int x3)]) hx hb dL_asks_266 hl (by decide) rfl (fun ls hl => ?_)
        exact L268 6 (x1) ((nI 0)) (τ_o) _ _ (by omega) (by omega) H locs ls hP hD hS (lv_sub hl [1, 2, 0] rfl) h
      · rw [if_neg c19] at h
        refine lv_iconst (v := (nI 0)) hx hb dL_asks_77 (by decide) ?_
        refine lv_istore (lv' := [(5, .int (nI 0)), (0, .ref (b_o 0 0)), (1, .long x1), (3, .int x3), (4, .int x4)]) hx hb dL_asks_78 hl (by decide) rfl (fun ls hl => ?_)
        exact L80 (fL_asks_L71 n) (cc + 64) (ss + 384) (by omega) (by omega) (fun x1 x3 x4 τ_o cc1 ss1 h1 h2 => ih x1 x3 x4 τ_o cc1 ss1 (by omega) (by omega)) 7 (x1) (x3) (x4) ((nI 0)) (τ_o) _ _ (by omega) (by omega) H locs ls hP hD hS (lv_sub hl [1, 2, 3, 4, 0] rfl) h
  have L37 : ∀ (n : Nat) (x1 : Int64) (x3 : Int32) (τ_o : TO) (cc ss : Nat), cc + n * 1 + 2627 ≤ 2637 → ss + n * 6 + 15762 ≤ 15822 → ∀ (H : Heap) (locs : List Loc) (ls : Array Slot), va_P E.1 vwCl ([gO E b_o τ_o] : List va_W).flatten H → va_D A ([gO E b_o τ_o] : List va_W).flatten → va_S A s.heap H locs → lv_has ls 8 [(0, .ref (b_o 0 0)), (1, .long x1), (3, .int x3)] → fL_asks_L37 n x1 x3 τ_o = some (r, z_o_τ) → W p l e R s m args below meth c H locs cc ss Q (F0 m 37 ls []) := by
    intro n
    induction n with
    | zero =>
      intro x1 x3 τ_o cc ss hcc hss H locs ls hP hD hS hl h
      unfold fL_asks_L37 at h; cases h
    | succ n ih =>
      intro x1 x3 τ_o cc ss hcc hss H locs ls hP hD hS hl h
      unfold fL_asks_L37 at h
      refine lv_iload_n hx hb dL_asks_37 rfl (lv_at hl 2 rfl) ?_
      refine lv_bipush (v := (nI 9)) hx hb dL_asks_38 (by decide) ?_
      refine lv_icmp_ge (tgt := 62) hx hb dL_asks_40 (by decide) (fun c12 => ?_) (fun c12 => ?_)
      · rw [if_pos c12] at h
        refine lv_aload_n hx hb dL_asks_62 rfl (lv_at hl 0 rfl) ?_
        refine lv_iconst (v := (nI 0)) hx hb dL_asks_63 (by decide) ?_
        obtain ⟨⟨r13, w14⟩, hr15, h⟩ := ob h
        dsimp only at h
        refine px_SL (As := [.ref (b_o 0 0), .int (nI 0)]) (rest := []) (gs := ([gO E b_o τ_o] : List va_W)) (gr := ([] : List va_W)) (gc := ([gO E b_o τ_o] : List va_W)) (g1 := ([gO E b_o w14] : List va_W)) (g2 := ([gO E b_o w14] : List va_W)) ⟨hx, hb, hml, hown, hts⟩ (mT_account l hlt E X L b_o ((nI 0))  (τ_o) r13 w14 hr15) (vx_cwSW 2 hts (wsw_s q848 q849 q17 q850) rfl rfl rfl hdS_L_account (by rw [hR]; first | exact ⟨Nat.le_of_ble_eq_true rfl, Nat.le_of_ble_eq_true rfl⟩ | exact ⟨by show _ ≤ (2637 : Nat); omega, by show _ ≤ (15822 : Nat); omega⟩)) hK hN hX hL hP hD hS hA [] [0] [0] rfl rfl (by decide) (by decide) rfl (by decide) rfl hl.1 rfl (Nat.le_of_ble_eq_true rfl) dL_asks_64 (by rw [hR]; first | exact ⟨Nat.le_of_ble_eq_true rfl, Nat.le_of_ble_eq_true rfl⟩ | exact ⟨by show _ ≤ (2637 : Nat); omega, by show _ ≤ (15822 : Nat); omega⟩) (fun H locs hP hD hS => ?_)
        refine W.eq (g2 := F0 m 67 ls [.int r13]) rfl ?_
        refine lv_istore_n (lv' := [(3, .int r13), (0, .ref (b_o 0 0)), (1, .long x1)]) hx hb dL_asks_67 rfl hl (by decide) rfl (fun ls hl => ?_)
        refine lv_iconst (v := (nI 0)) hx hb dL_asks_68 (by decide) ?_
        refine lv_istore (lv' := [(4, .int (nI 0)), (3, .int r13), (0, .ref (b_o 0 0)), (1, .long x1)]) hx hb dL_asks_69 hl (by decide) rfl (fun ls hl => ?_)
        exact L71 25 (x1) (r13) ((nI 0)) (w14) _ _ (by omega) (by omega) H locs ls hP hD hS (lv_sub hl [2, 3, 1, 0] rfl) h
      · rw [if_neg c12] at h
        refine lv_ldc2 (v := 31) hx hb hown (hts _ q945) dL_asks_43 ?_
        refine lv_lload_n hx hb dL_asks_46 rfl (lv_at hl 1 rfl) ?_
        refine lv_lmul hx hb dL_asks_47 ?_
        refine lv_aload_n hx hb dL_asks_48 rfl (lv_at hl 0 rfl) ?_
        refine lv_iload_n hx hb dL_asks_49 rfl (lv_at hl 2 rfl) ?_
        obtain ⟨⟨r16, w17⟩, hr18, h⟩ := ob h
        dsimp only at h
        refine px_SL (As := [.ref (b_o 0 0), .int x3]) (rest := [.long ((31 : Int64) * x1)]) (gs := ([gO E b_o τ_o] : List va_W)) (gr := ([] : List va_W)) (gc := ([gO E b_o τ_o] : List va_W)) (g1 := ([gO E b_o w17] : List va_W)) (g2 := ([gO E b_o w17] : List va_W)) ⟨hx, hb, hml, hown, hts⟩ (mT_account l hlt E X L b_o (x3)  (τ_o) r16 w17 hr18) (vx_cwSW 2 hts (wsw_s q848 q849 q17 q850) rfl rfl rfl hdS_L_account (by rw [hR]; first | exact ⟨Nat.le_of_ble_eq_true rfl, Nat.le_of_ble_eq_true rfl⟩ | exact ⟨by show _ ≤ (2637 : Nat); omega, by show _ ≤ (15822 : Nat); omega⟩)) hK hN hX hL hP hD hS hA [] [0] [0] rfl rfl (by decide) (by decide) rfl (by decide) rfl hl.1 rfl (Nat.le_of_ble_eq_true rfl) dL_asks_50 (by rw [hR]; first | exact ⟨Nat.le_of_ble_eq_true rfl, Nat.le_of_ble_eq_true rfl⟩ | exact ⟨by show _ ≤ (2637 : Nat); omega, by show _ ≤ (15822 : Nat); omega⟩) (fun H locs hP hD hS => ?_)
        refine W.eq (g2 := F0 m 53 ls [.int r16, .long ((31 : Int64) * x1)]) rfl ?_
        refine lv_i2l (v := (r16).toInt64) hx hb dL_asks_53 rfl ?_
        refine lv_ladd hx hb dL_asks_54 ?_
        refine lv_lstore_n (lv' := [(1, .long (((31 : Int64) * x1) + ((r16).toInt64))), (0, .ref (b_o 0 0)), (3, .int x3)]) hx hb dL_asks_55 rfl hl (by decide) rfl (fun ls hl => ?_)
        refine lv_iinc (v := (x3 + nI 1)) (lv' := [(3, .int (x3 + nI 1)), (1, .long (((31 : Int64) * x1) + ((r16).toInt64))), (0, .ref (b_o 0 0))]) hx hb dL_asks_56 hl (k := 2) rfl rfl (by decide) rfl (fun ls hl => ?_)
        refine lv_goto (tgt := 37) hx hb dL_asks_59 (by decide) ?_
        exact ih ((((31 : Int64) * x1) + ((r16).toInt64))) ((x3 + nI 1)) (w17) _ _ (by omega) (by omega) H locs ls hP hD hS (lv_sub hl [2, 1, 0] rfl) h
  intro H locs hP hS
  refine lv_ldc2 (v := 31) hx hb hown (hts _ q945) dL_asks_0 ?_
  refine lv_aload_n hx hb dL_asks_3 rfl (lv_at hl 0 rfl) ?_
  obtain ⟨r1, hr2, h⟩ := ob h
  refine px_Vp (As := []) (rest := [.long (31 : Int64)]) (gs := ([gO E b_o τ_o] : List va_W)) (gc := ([gO E b_o τ_o] : List va_W)) ⟨hx, hb, hml, hown, hts⟩ (mV_meanTaste l E b_o   (τ_o) r1 hr2) (cwV 0 hts (ws_v q946 q947 q948 q18 q949) rfl rfl rfl hdV_X8_meanTaste (by rw [hR]; first | exact ⟨Nat.le_of_ble_eq_true rfl, Nat.le_of_ble_eq_true rfl⟩ | exact ⟨by show _ ≤ (2637 : Nat); omega, by show _ ≤ (15822 : Nat); omega⟩)) hK hN hP hD [0] rfl (by decide) 0 8 rfl rfl rfl rfl hl.1 rfl (Nat.le_of_ble_eq_true rfl) dL_asks_4 (by rw [hR]; first | exact ⟨Nat.le_of_ble_eq_true rfl, Nat.le_of_ble_eq_true rfl⟩ | exact ⟨by show _ ≤ (2637 : Nat); omega, by show _ ≤ (15822 : Nat); omega⟩) ?_
  refine W.eq (g2 := F0 m 7 ls [.double r1, .long (31 : Int64)]) rfl ?_
  obtain ⟨r3, hr4, h⟩ := ob h
  refine px_Sp (As := [.double r1]) (rest := [.long (31 : Int64)]) (gs := ([gO E b_o τ_o] : List va_W)) (gc := ([] : List va_W)) ⟨hx, hb, hml, hown, hts⟩ (kJxe99ae_doubleToLongBits_ccdee l E   (r1)  r3 hr4) (va_cwS 1 hts (ws_s q955 q956 q43 q957) rfl rfl rfl hdS_Jxe99ae_doubleToLongBits_ccdee (by rw [hR]; first | exact ⟨Nat.le_of_ble_eq_true rfl, Nat.le_of_ble_eq_true rfl⟩ | exact ⟨by show _ ≤ (2637 : Nat); omega, by show _ ≤ (15822 : Nat); omega⟩)) hK hN hP hD [] rfl (by decide) rfl hl.1 rfl (Nat.le_of_ble_eq_true rfl) dL_asks_7 (by rw [hR]; first | exact ⟨Nat.le_of_ble_eq_true rfl, Nat.le_of_ble_eq_true rfl⟩ | exact ⟨by show _ ≤ (2637 : Nat); omega, by show _ ≤ (15822 : Nat); omega⟩) ?_
  refine W.eq (g2 := F0 m 10 ls [.long r3, .long (31 : Int64)]) rfl ?_
  refine lv_lmul hx hb dL_asks_10 ?_
  refine lv_aload_n hx hb dL_asks_11 rfl (lv_at hl 0 rfl) ?_
  obtain ⟨r5, hr6, h⟩ := ob h
  refine px_Vp (As := []) (rest := [.long ((31 : Int64) * r3)]) (gs := ([gO E b_o τ_o] : List va_W)) (gc := ([gO E b_o τ_o] : List va_W)) ⟨hx, hb, hml, hown, hts⟩ (mV_editShare l E b_o   (τ_o) r5 hr6) (cwV 0 hts (ws_v q965 q966 q967 q18 q968) rfl rfl rfl hdV_X8_editShare (by rw [hR]; first | exact ⟨Nat.le_of_ble_eq_true rfl, Nat.le_of_ble_eq_true rfl⟩ | exact ⟨by show _ ≤ (2637 : Nat); omega, by show _ ≤ (15822 : Nat); omega⟩)) hK hN hP hD [0] rfl (by decide) 0 8 rfl rfl rfl rfl hl.1 rfl (Nat.le_of_ble_eq_true rfl) dL_asks_12 (by rw [hR]; first | exact ⟨Nat.le_of_ble_eq_true rfl, Nat.le_of_ble_eq_true rfl⟩ | exact ⟨by show _ ≤ (2637 : Nat); omega, by show _ ≤ (15822 : Nat); omega⟩) ?_
  refine W.eq (g2 := F0 m 15 ls [.float r5, .long ((31 : Int64) * r3)]) rfl ?_
  obtain ⟨r7, hr8, h⟩ := ob h
  refine px_Sp (As := [.float r5]) (rest := [.long ((31 : Int64) * r3)]) (gs := ([gO E b_o τ_o] : List va_W)) (gc := ([] : List va_W)) ⟨hx, hb, hml, hown, hts⟩ (kJxf58ca_floatToIntBits_5c35a l E   (r5)  r7 hr8) (va_cwS 1 hts (ws_s q969 q970 q44 q971) rfl rfl rfl hdS_Jxf58ca_floatToIntBits_5c35a (by rw [hR]; first | exact ⟨Nat.le_of_ble_eq_true rfl, Nat.le_of_ble_eq_true rfl⟩ | exact ⟨by show _ ≤ (2637 : Nat); omega, by show _ ≤ (15822 : Nat); omega⟩)) hK hN hP hD [] rfl (by decide) rfl hl.1 rfl (Nat.le_of_ble_eq_true rfl) dL_asks_15 (by rw [hR]; first | exact ⟨Nat.le_of_ble_eq_true rfl, Nat.le_of_ble_eq_true rfl⟩ | exact ⟨by show _ ≤ (2637 : Nat); omega, by show _ ≤ (15822 : Nat); omega⟩) ?_
  refine W.eq (g2 := F0 m 18 ls [.int r7, .long ((31 : Int64) * r3)]) rfl ?_
  refine lv_i2l (v := (r7).toInt64) hx hb dL_asks_18 rfl ?_
  refine lv_ladd hx hb dL_asks_19 ?_
  refine lv_aload_n hx hb dL_asks_20 rfl (lv_at hl 0 rfl) ?_
  obtain ⟨r9, hr10, h⟩ := ob h
  refine px_Vp (As := []) (rest := [.long (((31 : Int64) * r3) + ((r7).toInt64))]) (gs := ([gO E b_o τ_o] : List va_W)) (gc := ([gO E b_o τ_o] : List va_W)) ⟨hx, hb, hml, hown, hts⟩ (mV_isWell l E b_o   (τ_o) r9 hr10) (cwV 0 hts (ws_v q979 q980 q981 q18 q982) rfl rfl rfl hdV_X8_isWell (by rw [hR]; first | exact ⟨Nat.le_of_ble_eq_true rfl, Nat.le_of_ble_eq_true rfl⟩ | exact ⟨by show _ ≤ (2637 : Nat); omega, by show _ ≤ (15822 : Nat); omega⟩)) hK hN hP hD [0] rfl (by decide) 0 8 rfl rfl rfl rfl hl.1 rfl (Nat.le_of_ble_eq_true rfl) dL_asks_21 (by rw [hR]; first | exact ⟨Nat.le_of_ble_eq_true rfl, Nat.le_of_ble_eq_true rfl⟩ | exact ⟨by show _ ≤ (2637 : Nat); omega, by show _ ≤ (15822 : Nat); omega⟩) ?_
  refine W.eq (g2 := F0 m 24 ls [.int (b2i r9), .long (((31 : Int64) * r3) + ((r7).toInt64))]) rfl ?_
  refine lv_if_eq (tgt := 31) hx hb dL_asks_24 (by decide) (fun c11 => ?_) (fun c11 => ?_)
  · rw [if_pos c11] at h
    refine lv_iconst (v := (nI 0)) hx hb dL_asks_31 (by decide) ?_
    refine lv_i2l (v := ((nI 0)).toInt64) hx hb dL_asks_32 rfl ?_
    refine lv_ladd hx hb dL_asks_33 ?_
    refine lv_lstore_n (lv' := [(1, .long ((((31 : Int64) * r3) + ((r7).toInt64)) + (((nI 0)).toInt64))), (0, .ref (b_o 0 0))]) hx hb dL_asks_34 rfl hl (by decide) rfl (fun ls hl => ?_)
    refine lv_iconst (v := (nI 0)) hx hb dL_asks_35 (by decide) ?_
    refine lv_istore_n (lv' := [(3, .int (nI 0)), (1, .long ((((31 : Int64) * r3) + ((r7).toInt64)) + (((nI 0)).toInt64))), (0, .ref (b_o 0 0))]) hx hb dL_asks_36 rfl hl (by decide) rfl (fun ls hl => ?_)
    exact L37 10 (((((31 : Int64) * r3) + ((r7).toInt64)) + (((nI 0)).toInt64))) ((nI 0)) (τ_o) _ _ (by omega) (by omega) H locs ls hP hD hS (lv_sub hl [2, 1, 0] rfl) h
  · rw [if_neg c11] at h
    refine lv_iconst (v := (nI 1)) hx hb dL_asks_27 (by decide) ?_
    refine lv_goto (tgt := 32) hx hb dL_asks_28 (by decide) ?_
    refine lv_i2l (v := ((nI 1)).toInt64) hx hb dL_asks_32 rfl ?_
    refine lv_ladd hx hb dL_asks_33 ?_
    refine lv_lstore_n (lv' := [(1, .long ((((31 : Int64) * r3) + ((r7).toInt64)) + (((nI 1)).toInt64))), (0, .ref (b_o 0 0))]) hx hb dL_asks_34 rfl hl (by decide) rfl (fun ls hl => ?_)
    refine lv_iconst (v := (nI 0)) hx hb dL_asks_35 (by decide) ?_
    refine lv_istore_n (lv' := [(3, .int (nI 0)), (1, .long ((((31 : Int64) * r3) + ((r7).toInt64)) + (((nI 1)).toInt64))), (0, .ref (b_o 0 0))]) hx hb dL_asks_36 rfl hl (by decide) rfl (fun ls hl => ?_)
    exact L37 10 (((((31 : Int64) * r3) + ((r7).toInt64)) + (((nI 1)).toInt64))) ((nI 0)) (τ_o) _ _ (by omega) (by omega) H locs ls hP hD hS (lv_sub hl [2, 1, 0] rfl) h
def fL_refused_L1092  (τ_o : TO) : Option (Bool × TO) := (some (false, τ_o))
def fL_refused_L987  (x1 : Int64) (y0 : Int32) (τ_o : TO) : Option (Bool × TO) := (if y0 = 0 then (fL_refused_L1092 (τ_o)) else ((fL_reads ((sLen.getD 13 0)) ((fun j => (sByt.getD 13 []).getD j 0)) (τ_o)).bind fun (r314, w315) => (if r314 = (-1001 : Int32) then ((t_errorPosition (w315)).bind fun r318 => (if r318 = 0 then ((fL_reads ((sLen.getD 14 0)) ((fun j => (sByt.getD 14 []).getD j 0)) (w315)).bind fun (r321, w322) => (if r321 = (-1001 : Int32) then ((t_errorPosition (w322)).bind fun r325 => (if r325 = (-1 : Int32) then ((fL_reads ((sLen.getD 15 0)) ((fun j => (sByt.getD 15 []).getD j 0)) (w322)).bind fun (r328, w329) => (if r328 = (-1002 : Int32) then ((fL_is ((nI 1)) ((nI 5)) (w329)).bind fun (r332, w333) => (if (b2i r332) = 0 then (fL_refused_L1092 (w333)) else ((fL_reads ((sLen.getD 16 0)) ((fun j => (sByt.getD 16 []).getD j 0)) (w333)).bind fun (r336, w337) => (if r336 = (-1002 : Int32) then ((fL_is ((nI 3)) ((nI 0)) (w337)).bind fun (r340, w341) => (if (b2i r340) = 0 then (fL_refused_L1092 (w341)) else ((fL_asks (w341)).bind fun (r344, w345) => (if (lg_cmp r344 x1) = 0 then (some (true, w345)) else (fL_refused_L1092 (w345)))))) else (fL_refused_L1092 (w337)))))) else (fL_refused_L1092 (w329)))) else (fL_refused_L1092 (w322)))) else (fL_refused_L1092 (w322)))) else (fL_refused_L1092 (w315)))) else (fL_refused_L1092 (w315)))))
def fL_refused_L986  (x1 : Int64) (τ_o : TO) : Option (Bool × TO) := (fL_refused_L987 (x1) ((nI 0)) (τ_o))
def fL_refused_L509  (x1 : Int64) (x3 : Int32) (x4 : Int32) (y0 : Int32) (τ_o : TO) : Option (Bool × TO) := (if y0 = 0 then (fL_refused_L986 (x1) (τ_o)) else ((t_tip (x4) (τ_o)).bind fun (r165, w166) => (if r165 = (-1001 : Int32) then ((t_tip ((-1 : Int32)) (w166)).bind fun (r169, w170) => (if r169 = (-1001 : Int32) then ((t_amount (x3) ((nI 0)) (w170)).bind fun (r173, w174) => (if r173 = (-1001 : Int32) then ((t_amount ((nI 0)) ((nI 6)) (w174)).bind fun (r177, w178) => (if r177 = (-1001 : Int32) then ((t_commitOf (x3) ((nI 9)) (w178)).bind fun (r181, w182) => (if r181 = (-1001 : Int32) then ((t_commitOf ((nI 0)) ((nI 6)) (w182)).bind fun (r185, w186) => (if r185 = (-1002 : Int32) then ((t_commitOf ((nI 0)) ((-1 : Int32)) (w186)).bind fun (r189, w190) => (if r189 = (-1002 : Int32) then ((t_conflicts (x4) ((nI 0)) (w190)).bind fun (r193, w194) => (if r193 = (-1001 : Int32) then ((t_conflicts ((nI 0)) ((-1 : Int32)) (w194)).bind fun (r197, w198) => (if r197 = (-1001 : Int32) then ((t_in (x3) ((nI 0)) (w198)).bind fun (r201, w202) => (if r201 = (-1001 : Int32) then ((t_in ((nI 0)) ((-1 : Int32)) (w202)).bind fun (r205, w206) => (if r205 = (-1001 : Int32) then ((t_base (x3) ((nI 0)) (w206)).bind fun (r209, w210) => (if r209 = (-1001 : Int32) then ((t_baseAgain ((nI 0)) (x3) (w210)).bind fun (r213, w214) => (if r213 = (-1001 : Int32) then ((t_difference ((-1 : Int32)) ((nI 0)) (w214)).bind fun (r217, w218) => (if r217 = (-1001 : Int32) then ((t_onLine (x4) ((nI 0)) (w218)).bind fun (r221, w222) => (if r221 = (-1001 : Int32) then ((t_onLine ((nI 0)) ((-1 : Int32)) (w222)).bind fun (r225, w226) => (if r225 = (-1002 : Int32) then ((t_onLine ((nI 0)) ((nI 24)) (w226)).bind fun (r229, w230) => (if r229 = (-1002 : Int32) then ((t_halve (x4) ((nI 0)) ((nI 100)) ((nI 1)) (w230)).bind fun (r233, w234) => (if r233 = (-1001 : Int32) then ((t_halve ((nI 0)) ((nI 6)) ((nI 100)) ((nI 1)) (w234)).bind fun (r237, w238) => (if r237 = (-1001 : Int32) then ((t_halve ((nI 0)) ((nI 0)) ((nI 100)) ((nI 0)) (w238)).bind fun (r241, w242) => (if r241 = (-1002 : Int32) then ((t_halve ((nI 0)) ((nI 0)) ((-1 : Int32)) ((nI 0)) (w242)).bind fun (r245, w246) => (if r245 = (-1002 : Int32) then ((t_halve ((nI 0)) ((nI 0)) ((nI 99)) ((nI 1)) (w246)).bind fun (r249, w250) => (if r249 = (-1003 : Int32) then ((t_firstBad (x4) ((nI 0)) ((nI 100)) (w250)).bind fun (r253, w254) => (if r253 = (-1001 : Int32) then ((t_firstBad ((nI 0)) ((nI 0)) ((nI 100)) (w254)).bind fun (r257, w258) => (if r257 = (-1002 : Int32) then ((t_firstBad ((nI 0)) ((nI 0)) ((nI 99)) (w258)).bind fun (r261, w262) => (if r261 = (-1003 : Int32) then ((t_blame (x4) ((nI 0)) (w262)).bind fun (r265, w266) => (if r265 = (-1001 : Int32) then ((t_blame ((nI 0)) ((-1 : Int32)) (w266)).bind fun (r269, w270) => (if r269 = (-1001 : Int32) then ((t_taste (x3) (w270)).bind fun (r273, w274) => (if (Op.cmpValue (FP.fcmp r273 (3296346112 : UInt32)) CmpOp.l) = 0 then ((t_tasteBits ((-1 : Int32)) (w274)).bind fun (r277, w278) => (if r277 = (-1001 : Int32) then ((t_tastiest (x4) (w278)).bind fun (r281, w282) => (if r281 = (-1001 : Int32) then ((t_inBundle ((nI 4)) (w282)).bind fun (r285, w286) => (if r285 = (-1001 : Int32) then ((t_inBundle ((-1 : Int32)) (w286)).bind fun (r289, w290) => (if r289 = (-1001 : Int32) then ((t_line (x3) (w290)).bind fun (r293, w294) => (if r293 = (-1001 : Int32) then ((t_character ((-1 : Int32)) (w294)).bind fun (r297, w298) => (if r297 = (-1001 : Int32) then ((t_character ((nI 40)) (w298)).bind fun (r301, w302) => (if r301 = (-1001 : Int32) then ((t_account ((nI 11)) (w302)).bind fun (r305, w306) => (if r305 = (-1001 : Int32) then ((t_account ((-1 : Int32)) (w306)).bind fun (r309, w310) => (if r309 = (-1001 : Int32) then (fL_refused_L987 (x1) ((nI 1)) (w310)) else (fL_refused_L986 (x1) (w310)))) else (fL_refused_L986 (x1) (w306)))) else (fL_refused_L986 (x1) (w302)))) else (fL_refused_L986 (x1) (w298)))) else (fL_refused_L986 (x1) (w294)))) else (fL_refused_L986 (x1) (w290)))) else (fL_refused_L986 (x1) (w286)))) else (fL_refused_L986 (x1) (w282)))) else (fL_refused_L986 (x1) (w278)))) else (fL_refused_L986 (x1) (w274)))) else (fL_refused_L986 (x1) (w270)))) else (fL_refused_L986 (x1) (w266)))) else (fL_refused_L986 (x1) (w262)))) else (fL_refused_L986 (x1) (w258)))) else (fL_refused_L986 (x1) (w254)))) else (fL_refused_L986 (x1) (w250)))) else (fL_refused_L986 (x1) (w246)))) else (fL_refused_L986 (x1) (w242)))) else (fL_refused_L986 (x1) (w238)))) else (fL_refused_L986 (x1) (w234)))) else (fL_refused_L986 (x1) (w230)))) else (fL_refused_L986 (x1) (w226)))) else (fL_refused_L986 (x1) (w222)))) else (fL_refused_L986 (x1) (w218)))) else (fL_refused_L986 (x1) (w214)))) else (fL_refused_L986 (x1) (w210)))) else (fL_refused_L986 (x1) (w206)))) else (fL_refused_L986 (x1) (w202)))) else (fL_refused_L986 (x1) (w198)))) else (fL_refused_L986 (x1) (w194)))) else (fL_refused_L986 (x1) (w190)))) else (fL_refused_L986 (x1) (w186)))) else (fL_refused_L986 (x1) (w182)))) else (fL_refused_L986 (x1) (w178)))) else (fL_refused_L986 (x1) (w174)))) else (fL_refused_L986 (x1) (w170)))) else (fL_refused_L986 (x1) (w166)))))
def fL_refused_L508  (x1 : Int64) (x3 : Int32) (x4 : Int32) (τ_o : TO) : Option (Bool × TO) := (fL_refused_L509 (x1) (x3) (x4) ((nI 0)) (τ_o))
def fL_refused  (τ_o : TO) : Option (Bool × TO) := ((fL_asks (τ_o)).bind fun (r1, w2) => ((t_account ((nI 0)) (w2)).bind fun (r4, w5) => ((t_account ((nI 1)) (w5)).bind fun (r7, w8) => ((t_tip ((nI 0)) (w8)).bind fun (r10, w11) => ((t_amount (r10) ((nI 2)) (w11)).bind fun (r13, w14) => ((t_edit (r7) ((nI 0)) ((nI 100)) (w14)).bind fun (r16, w17) => (if r16 = (-1001 : Int32) then ((t_edit ((nI 0)) ((nI 6)) ((nI 100)) (w17)).bind fun (r20, w21) => (if r20 = (-1001 : Int32) then ((t_edit ((nI 0)) ((-1 : Int32)) ((nI 5)) (w21)).bind fun (r24, w25) => (if r24 = (-1001 : Int32) then ((t_edit ((nI 0)) ((nI 0)) ((nI 100)) (w25)).bind fun (r28, w29) => (if r28 = (-1002 : Int32) then ((t_edit ((nI 0)) ((nI 0)) ((-1 : Int32)) (w29)).bind fun (r32, w33) => (if r32 = (-1002 : Int32) then ((t_edit ((nI 0)) ((nI 2)) (r13) (w33)).bind fun (r36, w37) => (if r36 = (-1003 : Int32) then ((fL_is ((nI 2)) (r13) (w37)).bind fun (r40, w41) => (if (b2i r40) = 0 then (fL_refused_L508 (r1) (r4) (r7) (w41)) else ((t_fork (r7) (w41)).bind fun (r44, w45) => (if r44 = (-1001 : Int32) then ((t_fork ((-1 : Int32)) (w45)).bind fun (r48, w49) => (if r48 = (-1001 : Int32) then ((t_reset (r7) ((nI 0)) (w49)).bind fun (r52, w53) => (if r52 = (-1001 : Int32) then ((t_reset ((nI 0)) (r4) (w53)).bind fun (r56, w57) => (if r56 = (-1001 : Int32) then ((t_reset ((nI 0)) (r10) (w57)).bind fun (r60, w61) => (if r60 = (-1002 : Int32) then ((fL_is ((nI 3)) (r10) (w61)).bind fun (r64, w65) => (if (b2i r64) = 0 then (fL_refused_L508 (r1) (r4) (r7) (w65)) else ((t_merge (r7) ((nI 0)) ((nI 9)) (w65)).bind fun (r68, w69) => (if r68 = (-1001 : Int32) then ((t_merge ((nI 0)) ((-1 : Int32)) ((nI 9)) (w69)).bind fun (r72, w73) => (if r72 = (-1001 : Int32) then ((t_merge ((nI 0)) ((nI 0)) ((nI 4)) (w73)).bind fun (r76, w77) => (if r76 = (-1002 : Int32) then ((t_merge ((nI 0)) ((nI 0)) ((-1 : Int32)) (w77)).bind fun (r80, w81) => (if r80 = (-1002 : Int32) then ((t_merge ((nI 0)) ((nI 0)) ((nI 0)) (w81)).bind fun (r84, w85) => (if r84 = (-1003 : Int32) then ((fL_is ((nI 4)) (r10) (w85)).bind fun (r88, w89) => (if (b2i r88) = 0 then (fL_refused_L508 (r1) (r4) (r7) (w89)) else ((t_pick (r7) ((nI 0)) ((nI 9)) (w89)).bind fun (r92, w93) => (if r92 = (-1001 : Int32) then ((t_pick ((nI 0)) (r4) ((nI 9)) (w93)).bind fun (r96, w97) => (if r96 = (-1001 : Int32) then ((t_pick ((nI 0)) ((nI 0)) ((nI 4)) (w97)).bind fun (r100, w101) => (if r100 = (-1002 : Int32) then ((t_pick ((nI 0)) (r10) ((nI 0)) (w101)).bind fun (r104, w105) => (if r104 = (-1003 : Int32) then ((fL_is ((nI 4)) (r10) (w105)).bind fun (r108, w109) => (if (b2i r108) = 0 then (fL_refused_L508 (r1) (r4) (r7) (w109)) else ((t_revert (r7) ((nI 0)) ((nI 9)) (w109)).bind fun (r112, w113) => (if r112 = (-1001 : Int32) then ((t_revert ((nI 0)) ((-1 : Int32)) ((nI 9)) (w113)).bind fun (r116, w117) => (if r116 = (-1001 : Int32) then ((t_revert ((nI 0)) ((nI 0)) ((nI 4)) (w117)).bind fun (r120, w121) => (if r120 = (-1002 : Int32) then ((t_revert ((nI 0)) ((nI 0)) ((nI 0)) (w121)).bind fun (r124, w125) => (if r124 = (-1003 : Int32) then ((fL_is ((nI 6)) ((nI 0)) (w125)).bind fun (r128, w129) => (if (b2i r128) = 0 then (fL_refused_L508 (r1) (r4) (r7) (w129)) else ((t_bundle ((nI 3)) (w129)).bind fun (r132, w133) => (if r132 = (-1001 : Int32) then ((t_bundle ((-1 : Int32)) (w133)).bind fun (r136, w137) => (if r136 = (-1001 : Int32) then ((t_put ((nI 4)) ((nI 0)) (w137)).bind fun (r140, w141) => (if r140 = (-1001 : Int32) then ((t_put ((nI 0)) (r4) (w141)).bind fun (r144, w145) => (if r144 = (-1001 : Int32) then ((t_put ((-1 : Int32)) ((nI 0)) (w145)).bind fun (r148, w149) => (if r148 = (-1001 : Int32) then ((t_play (r7) ((nI 9)) (w149)).bind fun (r152, w153) => (if r152 = (-1001 : Int32) then ((t_play ((nI 0)) ((nI 4)) (w153)).bind fun (r156, w157) => (if r156 = (-1002 : Int32) then ((t_play ((nI 0)) ((-1 : Int32)) (w157)).bind fun (r160, w161) => (if r160 = (-1002 : Int32) then (fL_refused_L509 (r1) (r4) (r7) ((nI 1)) (w161)) else (fL_refused_L508 (r1) (r4) (r7) (w161)))) else (fL_refused_L508 (r1) (r4) (r7) (w157)))) else (fL_refused_L508 (r1) (r4) (r7) (w153)))) else (fL_refused_L508 (r1) (r4) (r7) (w149)))) else (fL_refused_L508 (r1) (r4) (r7) (w145)))) else (fL_refused_L508 (r1) (r4) (r7) (w141)))) else (fL_refused_L508 (r1) (r4) (r7) (w137)))) else (fL_refused_L508 (r1) (r4) (r7) (w133)))))) else (fL_refused_L508 (r1) (r4) (r7) (w125)))) else (fL_refused_L508 (r1) (r4) (r7) (w121)))) else (fL_refused_L508 (r1) (r4) (r7) (w117)))) else (fL_refused_L508 (r1) (r4) (r7) (w113)))))) else (fL_refused_L508 (r1) (r4) (r7) (w105)))) else (fL_refused_L508 (r1) (r4) (r7) (w101)))) else (fL_refused_L508 (r1) (r4) (r7) (w97)))) else (fL_refused_L508 (r1) (r4) (r7) (w93)))))) else (fL_refused_L508 (r1) (r4) (r7) (w85)))) else (fL_refused_L508 (r1) (r4) (r7) (w81)))) else (fL_refused_L508 (r1) (r4) (r7) (w77)))) else (fL_refused_L508 (r1) (r4) (r7) (w73)))) else (fL_refused_L508 (r1) (r4) (r7) (w69)))))) else (fL_refused_L508 (r1) (r4) (r7) (w61)))) else (fL_refused_L508 (r1) (r4) (r7) (w57)))) else (fL_refused_L508 (r1) (r4) (r7) (w53)))) else (fL_refused_L508 (r1) (r4) (r7) (w49)))) else (fL_refused_L508 (r1) (r4) (r7) (w45)))))) else (fL_refused_L508 (r1) (r4) (r7) (w37)))) else (fL_refused_L508 (r1) (r4) (r7) (w33)))) else (fL_refused_L508 (r1) (r4) (r7) (w29)))) else (fL_refused_L508 (r1) (r4) (r7) (w25)))) else (fL_refused_L508 (r1) (r4) (r7) (w21)))) else (fL_refused_L508 (r1) (r4) (r7) (w17)))))))))
set_option maxHeartbeats 4000000 in
set_option maxRecDepth 100000 in
theorem mL_refused (l : Launch) (hlt : l.stackTraces = false) (E : PE) (X : PX) (L : LX) (b_o : Nat → Nat → Nat)   (τ_o : TO) (r : Bool) (z_o_τ : TO) (h : fL_refused τ_o = some (r, z_o_τ)) : MZ l yL_refused cL_refused 8 (some .boolean) { frames := 10, cells := 5655, slots := 33930, locals := 211 } E X L [.ref (b_o 0 0)] ([gO E b_o τ_o] : List va_W).flatten 5655 33930 (some (.int (b2i r))) ([gO E b_o z_o_τ] : List va_W).flatten := by
  refine px_startZ (by decide +kernel) (Nat.le_of_ble_eq_true rfl) ?_
  intro p e s m args below meth c R Q A ls hC hX hL hA0 hQ
  obtain ⟨hx, hb, hr, hml, hts, hown, hlocks, hR, hK, hN, hP, hD, hA, hl, hin⟩ := hC
  have hl : lv_has ls 8 [(0, .ref (b_o 0 0))] := hl
  suffices key : ∀ (H : Heap) (locs : List Loc), va_P E.1 vwCl ([gO E b_o τ_o] : List va_W).flatten H → va_S A s.heap H locs → W p l e R s m args below meth c H locs 0 0 Q (F0 m 0 ls []) from key s.heap [] hP va_S.rf
  unfold fL_refused at h
  have L1092 : ∀  (τ_o : TO) (cc ss : Nat), cc + 0 * 0 + 0 ≤ 5655 → ss + 0 * 0 + 0 ≤ 33930 → ∀ (H : Heap) (locs : List Loc) (ls : Array Slot), va_P E.1 vwCl ([gO E b_o τ_o] : List va_W).flatten H → va_D A ([gO E b_o τ_o] : List va_W).flatten → va_S A s.heap H locs → lv_has ls 8 [] → fL_refused_L1092 τ_o = some (r, z_o_τ) → W p l e R s m args below meth c H locs cc ss Q (F0 m 1092 ls []) := by
    intro τ_o cc ss hcc hss H locs ls hP hD hS hl h
    unfold fL_refused_L1092 at h
    refine lv_iconst (v := (nI 0)) hx hb dL_refused_1092 (by decide) ?_
    cases h
    refine W.eq (g2 := F0 m 1093 ls [.int (b2i false)]) rfl ?_
    refine W.widen (k := 5655) (n := 33930) (by omega) (by omega) ?_
    exact px_eWz (b2i_n _) hA0 hQ hP hD hS hx hb hr hlocks dL_refused_1093
  have L987 : ∀  (x1 : Int64) (y0 : Int32) (τ_o : TO) (cc ss : Nat), cc + 0 * 0 + 2893 ≤ 5655 → ss + 0 * 0 + 17358 ≤ 33930 → ∀ (H : Heap) (locs : List Loc) (ls : Array Slot), va_P E.1 vwCl ([gO E b_o τ_o] : List va_W).flatten H → va_D A ([gO E b_o τ_o] : List va_W).flatten → va_S A s.heap H locs → lv_has ls 8 [(0, .ref (b_o 0 0)), (1, .long x1)] → fL_refused_L987 x1 y0 τ_o = some (r, z_o_τ) → W p l e R s m args below meth c H locs cc ss Q (F0 m 987 ls [.int y0]) := by
    intro x1 y0 τ_o cc ss hcc hss H locs ls hP hD hS hl h
    unfold fL_refused_L987 at h
    refine lv_istore (lv' := [(7, .int y0), (0, .ref (b_o 0 0)), (1, .long x1)]) hx hb dL_refused_987 hl (by decide) rfl (fun ls hl => ?_)
    refine lv_iload hx hb dL_refused_989 (lv_at hl 0 rfl) ?_
    refine lv_if_eq (tgt := 1092) hx hb dL_refused_991 (by decide) (fun c313 => ?_) (fun c313 => ?_)
    · rw [if_pos c313] at h
      exact L1092 (τ_o) _ _ (by omega) (by omega) H locs ls hP hD hS (lv_sub hl [] rfl) h
    · rw [if_neg c313] at h
      refine lv_aload_n hx hb dL_refused_994 rfl (lv_at hl 1 rfl) ?_
      refine px_ldcSW (i := 13) (tx := "q") hx hb hown hX rfl dL_refused_995 ?_
      obtain ⟨⟨r314, w315⟩, hr316, h⟩ := ob h
      dsimp only at h
      refine px_SZ (As := [.ref (b_o 0 0), .ref (X.1 13)]) (rest := []) (gs := ([gO E b_o τ_o] : List va_W)) (gr := ([] : List va_W)) (gc := ([gO E b_o τ_o] : List va_W)) (g1 := ([gO E b_o w315] : List va_W)) (g2 := ([gO E b_o w315] : List va_W)) ⟨hx, hb, hml, hown, hts⟩ (mL_reads l hlt E X L b_o ((sLen.getD 13 0)) ((fun j => (sByt.getD 13 []).getD j 0)) (X.1 13) (X.2.1 13) (px_ct (by decide)) (by decide) (τ_o) r314 w315 hr316) (va_cwS 2 hts (ws_s q1417 q1418 q17 q1419) rfl rfl rfl hdS_L_reads (by rw [hR]; first | exact ⟨Nat.le_of_ble_eq_true rfl, Nat.le_of_ble_eq_true rfl⟩ | exact ⟨by show _ ≤ (5655 : Nat); omega, by show _ ≤ (33930 : Nat); omega⟩)) hK hN hX hL hP hD hS hA [] [0] [0] rfl rfl (by decide) (by decide) rfl (by decide) rfl hl.1 rfl (Nat.le_of_ble_eq_true rfl) dL_refused_998 (by rw [hR]; first | exact ⟨Nat.le_of_ble_eq_true rfl, Nat.le_of_ble_eq_true rfl⟩ | exact ⟨by show _ ≤ (5655 : Nat); omega, by show _ ≤ (33930 : Nat); omega⟩) (fun H locs hP hD hS => ?_)
      refine W.eq (g2 := F0 m 1001 ls [.int r314]) rfl ?_
      refine lv_sipush (v := (-1001 : Int32)) hx hb dL_refused_1001 (by decide) ?_
      refine lv_icmp_ne (tgt := 1092) hx hb dL_refused_1004 (by decide) (fun c317 => ?_) (fun c317 => ?_)
      · rw [if_neg c317] at h
        exact L1092 (w315) _ _ (by omega) (by omega) H locs ls hP hD hS (lv_sub hl [] rfl) h
      · rw [if_pos c317] at h
        refine lv_aload_n hx hb dL_refused_1007 rfl (lv_at hl 1 rfl) ?_
        obtain ⟨r318, hr319, h⟩ := ob h
        refine px_Vp (As := []) (rest := []) (gs := ([gO E b_o w315] : List va_W)) (gc := ([gO E b_o w315] : List va_W)) ⟨hx, hb, hml, hown, hts⟩ (mV_errorPosition l E b_o   (w315) r318 hr319) (cwV 0 hts (ws_v q248 q249 q250 q18 q251) rfl rfl rfl hdV_X8_errorPosition (by rw [hR]; first | exact ⟨Nat.le_of_ble_eq_true rfl, Nat.le_of_ble_eq_true rfl⟩ | exact ⟨by show _ ≤ (5655 : Nat); omega, by show _ ≤ (33930 : Nat); omega⟩)) hK hN hP hD [0] rfl (by decide) 0 8 rfl rfl rfl rfl hl.1 rfl (Nat.le_of_ble_eq_true rfl) dL_refused_1008 (by rw [hR]; first | exact ⟨Nat.le_of_ble_eq_true rfl, Nat.le_of_ble_eq_true rfl⟩ | exact ⟨by show _ ≤ (5655 : Nat); omega, by show _ ≤ (33930 : Nat); omega⟩) ?_
        refine W.eq (g2 := F0 m 1011 ls [.int r318]) rfl ?_
        refine lv_if_ne (tgt := 1092) hx hb dL_refused_1011 (by decide) (fun c320 => ?_) (fun c320 => ?_)
        · rw [if_neg c320] at h
          exact L1092 (w315) _ _ (by omega) (by omega) H locs ls hP hD hS (lv_sub hl [] rfl) h
        · rw [if_pos c320] at h
          refine lv_aload_n hx hb dL_refused_1014 rfl (lv_at hl 1 rfl) ?_
          refine px_ldcSW (i := 14) (tx := "f0;f9") hx hb hown hX rfl dL_refused_1015 ?_
          obtain ⟨⟨r321, w322⟩, hr323, h⟩ := ob h
          dsimp only at h
          refine px_SZ (As := [.ref (b_o 0 0), .ref (X.1 14)]) (rest := []) (gs := ([gO E b_o w315] : List va_W)) (gr := ([] : List va_W)) (gc := ([gO E b_o w315] : List va_W)) (g1 := ([gO E b_o w322] : List va_W)) (g2 := ([gO E b_o w322] : List va_W)) ⟨hx, hb, hml, hown, hts⟩ (mL_reads l hlt E X L b_o ((sLen.getD 14 0)) ((fun j => (sByt.getD 14 []).getD j 0)) (X.1 14) (X.2.1 14) (px_ct (by decide)) (by decide) (w315) r321 w322 hr323) (va_cwS 2 hts (ws_s q1417 q1418 q17 q1419) rfl rfl rfl hdS_L_reads (by rw [hR]; first | exact ⟨Nat.le_of_ble_eq_true rfl, Nat.le_of_ble_eq_true rfl⟩ | exact ⟨by show _ ≤ (5655 : Nat); omega, by show _ ≤ (33930 : Nat); omega⟩)) hK hN hX hL hP hD hS hA [] [0] [0] rfl rfl (by decide) (by decide) rfl (by decide) rfl hl.1 rfl (Nat.le_of_ble_eq_true rfl) dL_refused_1018 (by rw [hR]; first | exact ⟨Nat.le_of_ble_eq_true rfl, Nat.le_of_ble_eq_true rfl⟩ | exact ⟨by show _ ≤ (5655 : Nat); omega, by show _ ≤ (33930 : Nat); omega⟩) (fun H locs hP hD hS => ?_)
          refine W.eq (g2 := F0 m 1021 ls [.int r321]) rfl ?_
          refine lv_sipush (v := (-1001 : Int32)) hx hb dL_refused_1021 (by decide) ?_
          refine lv_icmp_ne (tgt := 1092) hx hb dL_refused_1024 (by decide) (fun c324 => ?_) (fun c324 => ?_)
          · rw [if_neg c324] at h
            exact L1092 (w322) _ _ (by omega) (by omega) H locs ls hP hD hS (lv_sub hl [] rfl) h
          · rw [if_pos c324] at h
            refine lv_aload_n hx hb dL_refused_1027 rfl (lv_at hl 1 rfl) ?_
            obtain ⟨r325, hr326, h⟩ := ob h
            refine px_Vp (As := []) (rest := []) (gs := ([gO E b_o w322] : List va_W)) (gc := ([gO E b_o w322] : List va_W)) ⟨hx, hb, hml, hown, hts⟩ (mV_errorPosition l E b_o   (w322) r325 hr326) (cwV 0 hts (ws_v q248 q249 q250 q18 q251) rfl rfl rfl hdV_X8_errorPosition (by rw [hR]; first | exact ⟨Nat.le_of_ble_eq_true rfl, Nat.le_of_ble_eq_true rfl⟩ | exact ⟨by show _ ≤ (5655 : Nat); omega, by show _ ≤ (33930 : Nat); omega⟩)) hK hN hP hD [0] rfl (by decide) 0 8 rfl rfl rfl rfl hl.1 rfl (Nat.le_of_ble_eq_true rfl) dL_refused_1028 (by rw [hR]; first | exact ⟨Nat.le_of_ble_eq_true rfl, Nat.le_of_ble_eq_true rfl⟩ | exact ⟨by show _ ≤ (5655 : Nat); omega, by show _ ≤ (33930 : Nat); omega⟩) ?_
            refine W.eq (g2 := F0 m 1031 ls [.int r325]) rfl ?_
            refine lv_iconst (v := (-1 : Int32)) hx hb dL_refused_1031 (by decide) ?_
            refine lv_icmp_ne (tgt := 1092) hx hb dL_refused_1032 (by decide) (fun c327 => ?_) (fun c327 => ?_)
            · rw [if_neg c327] at h
              exact L1092 (w322) _ _ (by omega) (by omega) H locs ls hP hD hS (lv_sub hl [] rfl) h
            · rw [if_pos c327] at h
              refine lv_aload_n hx hb dL_refused_1035 rfl (lv_at hl 1 rfl) ?_
              refine px_ldcSW (i := 15) (tx := "f0;f0;f0;f0;f0") hx hb hown hX rfl dL_refused_1036 ?_
              obtain ⟨⟨r328, w329⟩, hr330, h⟩ := ob h
              dsimp only at h
              refine px_SZ (As := [.ref (b_o 0 0), .ref (X.1 15)]) (rest := []) (gs := ([gO E b_o w322] : List va_W)) (gr := ([] : List va_W)) (gc := ([gO E b_o w322] : List va_W)) (g1 := ([gO E b_o w329] : List va_W)) (g2 := ([gO E b_o w329] : List va_W)) ⟨hx, hb, hml, hown, hts⟩ (mL_reads l hlt E X L b_o ((sLen.getD 15 0)) ((fun j => (sByt.getD 15 []).getD j 0)) (X.1 15) (X.2.1 15) (px_ct (by decide)) (by decide) (w322) r328 w329 hr330) (va_cwS 2 hts (ws_s q1417 q1418 q17 q1419) rfl rfl rfl hdS_L_reads (by rw [hR]; first | exact ⟨Nat.le_of_ble_eq_true rfl, Nat.le_of_ble_eq_true rfl⟩ | exact ⟨by show _ ≤ (5655 : Nat); omega, by show _ ≤ (33930 : Nat); omega⟩)) hK hN hX hL hP hD hS hA [] [0] [0] rfl rfl (by decide) (by decide) rfl (by decide) rfl hl.1 rfl (Nat.le_of_ble_eq_true rfl) dL_refused_1039 (by rw [hR]; first | exact ⟨Nat.le_of_ble_eq_true rfl, Nat.le_of_ble_eq_true rfl⟩ | exact ⟨by show _ ≤ (5655 : Nat); omega, by show _ ≤ (33930 : Nat); omega⟩) (fun H locs hP hD hS => ?_)
              refine W.eq (g2 := F0 m 1042 ls [.int r328]) rfl ?_
              refine lv_sipush (v := (-1002 : Int32)) hx hb dL_refused_1042 (by decide) ?_
              refine lv_icmp_ne (tgt := 1092) hx hb dL_refused_1045 (by decide) (fun c331 => ?_) (fun c331 => ?_)
              · rw [if_neg c331] at h
                exact L1092 (w329) _ _ (by omega) (by omega) H locs ls hP hD hS (lv_sub hl [] rfl) h
              · rw [if_pos c331] at h
                refine lv_aload_n hx hb dL_refused_1048 rfl (lv_at hl 1 rfl) ?_
                refine lv_iconst (v := (nI 1)) hx hb dL_refused_1049 (by decide) ?_
                refine lv_iconst (v := (nI 5)) hx hb dL_refused_1050 (by decide) ?_
                obtain ⟨⟨r332, w333⟩, hr334, h⟩ := ob h
                dsimp only at h
                refine px_SZ (As := [.ref (b_o 0 0), .int (nI 1), .int (nI 5)]) (rest := []) (gs := ([gO E b_o w329] : List va_W)) (gr := ([] : List va_W)) (gc := ([gO E b_o w329] : List va_W)) (g1 := ([gO E b_o w333] : List va_W)) (g2 := ([gO E b_o w333] : List va_W)) ⟨hx, hb, hml, hown, hts⟩ (mL_is l hlt E X L b_o ((nI 1)) ((nI 5))  (w329) r332 w333 hr334) (va_cwS 3 hts (ws_s q909 q910 q17 q911) rfl rfl rfl hdS_L_is (by rw [hR]; first | exact ⟨Nat.le_of_ble_eq_true rfl, Nat.le_of_ble_eq_true rfl⟩ | exact ⟨by show _ ≤ (5655 : Nat); omega, by show _ ≤ (33930 : Nat); omega⟩)) hK hN hX hL hP hD hS hA [] [0] [0] rfl rfl (by decide) (by decide) rfl (by decide) rfl hl.1 rfl (Nat.le_of_ble_eq_true rfl) dL_refused_1051 (by rw [hR]; first | exact ⟨Nat.le_of_ble_eq_true rfl, Nat.le_of_ble_eq_true rfl⟩ | exact ⟨by show _ ≤ (5655 : Nat); omega, by show _ ≤ (33930 : Nat); omega⟩) (fun H locs hP hD hS => ?_)
                refine W.eq (g2 := F0 m 1054 ls [.int (b2i r332)]) rfl ?_
                refine lv_if_eq (tgt := 1092) hx hb dL_refused_1054 (by decide) (fun c335 => ?_) (fun c335 => ?_)
                · rw [if_pos c335] at h
                  exact L1092 (w333) _ _ (by omega) (by omega) H locs ls hP hD hS (lv_sub hl [] rfl) h
                · rw [if_neg c335] at h
                  refine lv_aload_n hx hb dL_refused_1057 rfl (lv_at hl 1 rfl) ?_
                  refine px_ldcSW (i := 16) (tx := "r0=0;r0=0") hx hb hown hX rfl dL_refused_1058 ?_
                  obtain ⟨⟨r336, w337⟩, hr338, h⟩ := ob h
                  dsimp only at h
                  refine px_SZ (As := [.ref (b_o 0 0), .ref (X.1 16)]) (rest := []) (gs := ([gO E b_o w333] : List va_W)) (gr := ([] : List va_W)) (gc := ([gO E b_o w333] : List va_W)) (g1 := ([gO E b_o w337] : List va_W)) (g2 := ([gO E b_o w337] : List va_W)) ⟨hx, hb, hml, hown, hts⟩ (mL_reads l hlt E X L b_o ((sLen.getD 16 0)) ((fun j => (sByt.getD 16 []).getD j 0)) (X.1 16) (X.2.1 16) (px_ct (by decide)) (by decide) (w333) r336 w337 hr338) (va_cwS 2 hts (ws_s q1417 q1418 q17 q1419) rfl rfl rfl hdS_L_reads (by rw [hR]; first | exact ⟨Nat.le_of_ble_eq_true rfl, Nat.le_of_ble_eq_true rfl⟩ | exact ⟨by show _ ≤ (5655 : Nat); omega, by show _ ≤ (33930 : Nat); omega⟩)) hK hN hX hL hP hD hS hA [] [0] [0] rfl rfl (by decide) (by decide) rfl (by decide) rfl hl.1 rfl (Nat.le_of_ble_eq_true rfl) dL_refused_1061 (by rw [hR]; first | exact ⟨Nat.le_of_ble_eq_true rfl, Nat.le_of_ble_eq_true rfl⟩ | exact ⟨by show _ ≤ (5655 : Nat); omega, by show _ ≤ (33930 : Nat); omega⟩) (fun H locs hP hD hS => ?_)
                  refine W.eq (g2 := F0 m 1064 ls [.int r336]) rfl ?_
                  refine lv_sipush (v := (-1002 : Int32)) hx hb dL_refused_1064 (by decide) ?_
                  refine lv_icmp_ne (tgt := 1092) hx hb dL_refused_1067 (by decide) (fun c339 => ?_) (fun c339 => ?_)
                  · rw [if_neg c339] at h
                    exact L1092 (w337) _ _ (by omega) (by omega) H locs ls hP hD hS (lv_sub hl [] rfl) h
                  · rw [if_pos c339] at h
                    refine lv_aload_n hx hb dL_refused_1070 rfl (lv_at hl 1 rfl) ?_
                    refine lv_iconst (v := (nI 3)) hx hb dL_refused_1071 (by decide) ?_
                    refine lv_iconst (v := (nI 0)) hx hb dL_refused_1072 (by decide) ?_
                    obtain ⟨⟨r340, w341⟩, hr342, h⟩ := ob h
                    dsimp only at h
                    refine px_SZ (As := [.ref (b_o 0 0), .int (nI 3), .int (nI 0)]) (rest := []) (gs := ([gO E b_o w337] : List va_W)) (gr := ([] : List va_W)) (gc := ([gO E b_o w337] : List va_W)) (g1 := ([gO E b_o w341] : List va_W)) (g2 := ([gO E b_o w341] : List va_W)) ⟨hx, hb, hml, hown, hts⟩ (mL_is l hlt E X L b_o ((nI 3)) ((nI 0))  (w337) r340 w341 hr342) (va_cwS 3 hts (ws_s q909 q910 q17 q911) rfl rfl rfl hdS_L_is (by rw [hR]; first | exact ⟨Nat.le_of_ble_eq_true rfl, Nat.le_of_ble_eq_true rfl⟩ | exact ⟨by show _ ≤ (5655 : Nat); omega, by show _ ≤ (33930 : Nat); omega⟩)) hK hN hX hL hP hD hS hA [] [0] [0] rfl rfl (by decide) (by decide) rfl (by decide) rfl hl.1 rfl (Nat.le_of_ble_eq_true rfl) dL_refused_1073 (by rw [hR]; first | exact ⟨Nat.le_of_ble_eq_true rfl, Nat.le_of_ble_eq_true rfl⟩ | exact ⟨by show _ ≤ (5655 : Nat); omega, by show _ ≤ (33930 : Nat); omega⟩) (fun H locs hP hD hS => ?_)
                    refine W.eq (g2 := F0 m 1076 ls [.int (b2i r340)]) rfl ?_
                    refine lv_if_eq (tgt := 1092) hx hb dL_refused_1076 (by decide) (fun c343 => ?_) (fun c343 => ?_)
                    · rw [if_pos c343] at h
                      exact L1092 (w341) _ _ (by omega) (by omega) H locs ls hP hD hS (lv_sub hl [] rfl) h
                    · rw [if_neg c343] at h
                      refine lv_aload_n hx hb dL_refused_1079 rfl (lv_at hl 1 rfl) ?_
                      obtain ⟨⟨r344, w345⟩, hr346, h⟩ := ob h
                      dsimp only at h
                      refine px_SZ (As := [.ref (b_o 0 0)]) (rest := []) (gs := ([gO E b_o w341] : List va_W)) (gr := ([] : List va_W)) (gc := ([gO E b_o w341] : List va_W)) (g1 := ([gO E b_o w345] : List va_W)) (g2 := ([gO E b_o w345] : List va_W)) ⟨hx, hb, hml, hown, hts⟩ (mL_asks l hlt E X L b_o   (w341) r344 w345 hr346) (va_cwS 1 hts (ws_s q942 q943 q17 q944) rfl rfl rfl hdS_L_asks (by rw [hR]; first | exact ⟨Nat.le_of_ble_eq_true rfl, Nat.le_of_ble_eq_true rfl⟩ | exact ⟨by show _ ≤ (5655 : Nat); omega, by show _ ≤ (33930 : Nat); omega⟩)) hK hN hX hL hP hD hS hA [] [0] [0] rfl rfl (by decide) (by decide) rfl (by decide) rfl hl.1 rfl (Nat.le_of_ble_eq_true rfl) dL_refused_1080 (by rw [hR]; first | exact ⟨Nat.le_of_ble_eq_true rfl, Nat.le_of_ble_eq_true rfl⟩ | exact ⟨by show _ ≤ (5655 : Nat); omega, by show _ ≤ (33930 : Nat); omega⟩) (fun H locs hP hD hS => ?_)
                      refine W.eq (g2 := F0 m 1083 ls [.long r344]) rfl ?_
                      refine lv_lload_n hx hb dL_refused_1083 rfl (lv_at hl 2 rfl) ?_
                      refine W.lcmp hx hb dL_refused_1084 ?_
                      refine lv_if_ne (tgt := 1092) hx hb dL_refused_1085 (by decide) (fun c347 => ?_) (fun c347 => ?_)
                      · rw [if_neg c347] at h
                        exact L1092 (w345) _ _ (by omega) (by omega) H locs ls hP hD hS (lv_sub hl [] rfl) h
                      · rw [if_pos c347] at h
                        refine lv_iconst (v := (nI 1)) hx hb dL_refused_1088 (by decide) ?_
                        refine lv_goto (tgt := 1093) hx hb dL_refused_1089 (by decide) ?_
                        cases h
                        refine W.eq (g2 := F0 m 1093 ls [.int (b2i true)]) rfl ?_
                        refine W.widen (k := 5655) (n := 33930) (by omega) (by omega) ?_
                        exact px_eWz (b2i_n _) hA0 hQ hP hD hS hx hb hr hlocks dL_refused_1093
  have L986 : ∀  (x1 : Int64) (τ_o : TO) (cc ss : Nat), cc + 0 * 0 + 2893 ≤ 5655 → ss + 0 * 0 + 17358 ≤ 33930 → ∀ (H : Heap) (locs : List Loc) (ls : Array Slot), va_P E.1 vwCl ([gO E b_o τ_o] : List va_W).flatten H → va_D A ([gO E b_o τ_o] : List va_W).flatten → va_S A s.heap H locs → lv_has ls 8 [(0, .ref (b_o 0 0)), (1, .long x1)] → fL_refused_L986 x1 τ_o = some (r, z_o_τ) → W p l e R s m args below meth c H locs cc ss Q (F0 m 986 ls []) := by
    intro x1 τ_o cc ss hcc hss H locs ls hP hD hS hl h
    unfold fL_refused_L986 at h
    refine lv_iconst (v := (nI 0)) hx hb dL_refused_986 (by decide) ?_
    exact L987 (x1) ((nI 0)) (τ_o) _ _ (by omega) (by omega) H locs ls hP hD hS (lv_sub hl [0, 1] rfl) h
  have L509 : ∀  (x1 : Int64) (x3 : Int32) (x4 : Int32) (y0 : Int32) (τ_o : TO) (cc ss : Nat), cc + 0 * 0 + 2971 ≤ 5655 → ss + 0 * 0 + 17826 ≤ 33930 → ∀ (H : Heap) (locs : List Loc) (ls : Array Slot), va_P E.1 vwCl ([gO E b_o τ_o] : List va_W).flatten H → va_D A ([gO E b_o τ_o] : List va_W).flatten → va_S A s.heap H locs → lv_has ls 8 [(0, .ref (b_o 0 0)), (1, .long x1), (3, .int x3), (4, .int x4)] → fL_refused_L509 x1 x3 x4 y0 τ_o = some (r, z_o_τ) → W p l e R s m args below meth c H locs cc ss Q (F0 m 509 ls [.int y0]) := by
    intro x1 x3 x4 y0 τ_o cc ss hcc hss H locs ls hP hD hS hl h
    unfold fL_refused_L509 at h
    refine lv_istore (lv' := [(7, .int y0), (0, .ref (b_o 0 0)), (1, .long x1), (3, .int x3), (4, .int x4)]) hx hb dL_refused_509 hl (by decide) rfl (fun ls hl => ?_)
    refine lv_iload hx hb dL_refused_511 (lv_at hl 0 rfl) ?_
    refine lv_if_eq (tgt := 986) hx hb dL_refused_513 (by decide) (fun c164 => ?_) (fun c164 => ?_)
    · rw [if_pos c164] at h
      exact L986 (x1) (τ_o) _ _ (by omega) (by omega) H locs ls hP hD hS (lv_sub hl [1, 2] rfl) h
    · rw [if_neg c164] at h
      refine lv_aload_n hx hb dL_refused_516 rfl (lv_at hl 1 rfl) ?_
      refine lv_iload hx hb dL_refused_517 (lv_at hl 4 rfl) ?_
      obtain ⟨⟨r165, w166⟩, hr167, h⟩ := ob h
      dsimp only at h
      refine px_SL (As := [.ref (b_o 0 0), .int x4]) (rest := []) (gs := ([gO E b_o τ_o] : List va_W)) (gr := ([] : List va_W)) (gc := ([gO E b_o τ_o] : List va_W)) (g1 := ([gO E b_o w166] : List va_W)) (g2 := ([gO E b_o w166] : List va_W)) ⟨hx, hb, hml, hown, hts⟩ (mT_tip l hlt E X L b_o (x4)  (τ_o) r165 w166 hr167) (vx_cwSW 2 hts (wsw_s q494 q495 q17 q496) rfl rfl rfl hdS_L_tip (by rw [hR]; first | exact ⟨Nat.le_of_ble_eq_true rfl, Nat.le_of_ble_eq_true rfl⟩ | exact ⟨by show _ ≤ (5655 : Nat); omega, by show _ ≤ (33930 : Nat); omega⟩)) hK hN hX hL hP hD hS hA [] [0] [0] rfl rfl (by decide) (by decide) rfl (by decide) rfl hl.1 rfl (Nat.le_of_ble_eq_true rfl) dL_refused_519 (by rw [hR]; first | exact ⟨Nat.le_of_ble_eq_true rfl, Nat.le_of_ble_eq_true rfl⟩ | exact ⟨by show _ ≤ (5655 : Nat); omega, by show _ ≤ (33930 : Nat); omega⟩) (fun H locs hP hD hS => ?_)
      refine W.eq (g2 := F0 m 522 ls [.int r165]) rfl ?_
      refine lv_sipush (v := (-1001 : Int32)) hx hb dL_refused_522 (by decide) ?_
      refine lv_icmp_ne (tgt := 986) hx hb dL_refused_525 (by decide) (fun c168 => ?_) (fun c168 => ?_)
      · rw [if_neg c168] at h
        exact L986 (x1) (w166) _ _ (by omega) (by omega) H locs ls hP hD hS (lv_sub hl [1, 2] rfl) h
      · rw [if_pos c168] at h
        refine lv_aload_n hx hb dL_refused_528 rfl (lv_at hl 1 rfl) ?_
        refine lv_iconst (v := (-1 : Int32)) hx hb dL_refused_529 (by decide) ?_
        obtain ⟨⟨r169, w170⟩, hr171, h⟩ := ob h
        dsimp only at h
        refine px_SL (As := [.ref (b_o 0 0), .int (-1 : Int32)]) (rest := []) (gs := ([gO E b_o w166] : List va_W)) (gr := ([] : List va_W)) (gc := ([gO E b_o w166] : List va_W)) (g1 := ([gO E b_o w170] : List va_W)) (g2 := ([gO E b_o w170] : List va_W)) ⟨hx, hb, hml, hown, hts⟩ (mT_tip l hlt E X L b_o ((-1 : Int32))  (w166) r169 w170 hr171) (vx_cwSW 2 hts (wsw_s q494 q495 q17 q496) rfl rfl rfl hdS_L_tip (by rw [hR]; first | exact ⟨Nat.le_of_ble_eq_true rfl, Nat.le_of_ble_eq_true rfl⟩ | exact ⟨by show _ ≤ (5655 : Nat); omega, by show _ ≤ (33930 : Nat); omega⟩)) hK hN hX hL hP hD hS hA [] [0] [0] rfl rfl (by decide) (by decide) rfl (by decide) rfl hl.1 rfl (Nat.le_of_ble_eq_true rfl) dL_refused_530 (by rw [hR]; first | exact ⟨Nat.le_of_ble_eq_true rfl, Nat.le_of_ble_eq_true rfl⟩ | exact ⟨by show _ ≤ (5655 : Nat); omega, by show _ ≤ (33930 : Nat); omega⟩) (fun H locs hP hD hS => ?_)
        refine W.eq (g2 := F0 m 533 ls [.int r169]) rfl ?_
        refine lv_sipush (v := (-1001 : Int32)) hx hb dL_refused_533 (by decide) ?_
        refine lv_icmp_ne (tgt := 986) hx hb dL_refused_536 (by decide) (fun c172 => ?_) (fun c172 => ?_)
        · rw [if_neg c172] at h
          exact L986 (x1) (w170) _ _ (by omega) (by omega) H locs ls hP hD hS (lv_sub hl [1, 2] rfl) h
        · rw [if_pos c172] at h
          refine lv_aload_n hx hb dL_refused_539 rfl (lv_at hl 1 rfl) ?_
          refine lv_iload_n hx hb dL_refused_540 rfl (lv_at hl 3 rfl) ?_
          refine lv_iconst (v := (nI 0)) hx hb dL_refused_541 (by decide) ?_
          obtain ⟨⟨r173, w174⟩, hr175, h⟩ := ob h
          dsimp only at h
          refine px_SL (As := [.ref (b_o 0 0), .int x3, .int (nI 0)]) (rest := []) (gs := ([gO E b_o w170] : List va_W)) (gr := ([] : List va_W)) (gc := ([gO E b_o w170] : List va_W)) (g1 := ([gO E b_o w174] : List va_W)) (g2 := ([gO E b_o w174] : List va_W)) ⟨hx, hb, hml, hown, hts⟩ (mT_amount l hlt E X L b_o (x3) ((nI 0))  (w170) r173 w174 hr175) (vx_cwSW 3 hts (wsw_s q998 q999 q17 q1000) rfl rfl rfl hdS_L_amount (by rw [hR]; first | exact ⟨Nat.le_of_ble_eq_true rfl, Nat.le_of_ble_eq_true rfl⟩ | exact ⟨by show _ ≤ (5655 : Nat); omega, by show _ ≤ (33930 : Nat); omega⟩)) hK hN hX hL hP hD hS hA [] [0] [0] rfl rfl (by decide) (by decide) rfl (by decide) rfl hl.1 rfl (Nat.le_of_ble_eq_true rfl) dL_refused_542 (by rw [hR]; first | exact ⟨Nat.le_of_ble_eq_true rfl, Nat.le_of_ble_eq_true rfl⟩ | exact ⟨by show _ ≤ (5655 : Nat); omega, by show _ ≤ (33930 : Nat); omega⟩) (fun H locs hP hD hS => ?_)
          refine W.eq (g2 := F0 m 545 ls [.int r173]) rfl ?_
          refine lv_sipush (v := (-1001 : Int32)) hx hb dL_refused_545 (by decide) ?_
          refine lv_icmp_ne (tgt := 986) hx hb dL_refused_548 (by decide) (fun c176 => ?_) (fun c176 => ?_)
          · rw [if_neg c176] at h
            exact L986 (x1) (w174) _ _ (by omega) (by omega) H locs ls hP hD hS (lv_sub hl [1, 2] rfl) h
          · rw [if_pos c176] at h
            refine lv_aload_n hx hb dL_refused_551 rfl (lv_at hl 1 rfl) ?_
            refine lv_iconst (v := (nI 0)) hx hb dL_refused_552 (by decide) ?_
            refine lv_bipush (v := (nI 6)) hx hb dL_refused_553 (by decide) ?_
            obtain ⟨⟨r177, w178⟩, hr179, h⟩ := ob h
            dsimp only at h
            refine px_SL (As := [.ref (b_o 0 0), .int (nI 0), .int (nI 6)]) (rest := []) (gs := ([gO E b_o w174] : List va_W)) (gr := ([] : List va_W)) (gc := ([gO E b_o w174] : List va_W)) (g1 := ([gO E b_o w178] : List va_W)) (g2 := ([gO E b_o w178] : List va_W)) ⟨hx, hb, hml, hown, hts⟩ (mT_amount l hlt E X L b_o ((nI 0)) ((nI 6))  (w174) r177 w178 hr179) (vx_cwSW 3 hts (wsw_s q998 q999 q17 q1000) rfl rfl rfl hdS_L_amount (by rw [hR]; first | exact ⟨Nat.le_of_ble_eq_true rfl, Nat.le_of_ble_eq_true rfl⟩ | exact ⟨by show _ ≤ (5655 : Nat); omega, by show _ ≤ (33930 : Nat); omega⟩)) hK hN hX hL hP hD hS hA [] [0] [0] rfl rfl (by decide) (by decide) rfl (by decide) rfl hl.1 rfl (Nat.le_of_ble_eq_true rfl) dL_refused_555 (by rw [hR]; first | exact ⟨Nat.le_of_ble_eq_true rfl, Nat.le_of_ble_eq_true rfl⟩ | exact ⟨by show _ ≤ (5655 : Nat); omega, by show _ ≤ (33930 : Nat); omega⟩) (fun H locs hP hD hS => ?_)
            refine W.eq (g2 := F0 m 558 ls [.int r177]) rfl ?_
            refine lv_sipush (v := (-1001 : Int32)) hx hb dL_refused_558 (by decide) ?_
            refine lv_icmp_ne (tgt := 986) hx hb dL_refused_561 (by decide) (fun c180 => ?_) (fun c180 => ?_)
            · rw [if_neg c180] at h
              exact L986 (x1) (w178) _ _ (by omega) (by omega) H locs ls hP hD hS (lv_sub hl [1, 2] rfl) h
            · rw [if_pos c180] at h
              refine lv_aload_n hx hb dL_refused_564 rfl (lv_at hl 1 rfl) ?_
              refine lv_iload_n hx hb dL_refused_565 rfl (lv_at hl 3 rfl) ?_
              refine lv_bipush (v := (nI 9)) hx hb dL_refused_566 (by decide) ?_
              obtain ⟨⟨r181, w182⟩, hr183, h⟩ := ob h
              dsimp only at h
              refine px_SL (As := [.ref (b_o 0 0), .int x3, .int (nI 9)]) (rest := []) (gs := ([gO E b_o w178] : List va_W)) (gr := ([] : List va_W)) (gc := ([gO E b_o w178] : List va_W)) (g1 := ([gO E b_o w182] : List va_W)) (g2 := ([gO E b_o w182] : List va_W)) ⟨hx, hb, hml, hown, hts⟩ (mT_commitOf l hlt E X L b_o (x3) ((nI 9))  (w178) r181 w182 hr183) (vx_cwSW 3 hts (wsw_s q508 q509 q17 q510) rfl rfl rfl hdS_L_commitOf (by rw [hR]; first | exact ⟨Nat.le_of_ble_eq_true rfl, Nat.le_of_ble_eq_true rfl⟩ | exact ⟨by show _ ≤ (5655 : Nat); omega, by show _ ≤ (33930 : Nat); omega⟩)) hK hN hX hL hP hD hS hA [] [0] [0] rfl rfl (by decide) (by decide) rfl (by decide) rfl hl.1 rfl (Nat.le_of_ble_eq_true rfl) dL_refused_568 (by rw [hR]; first | exact ⟨Nat.le_of_ble_eq_true rfl, Nat.le_of_ble_eq_true rfl⟩ | exact ⟨by show _ ≤ (5655 : Nat); omega, by show _ ≤ (33930 : Nat); omega⟩) (fun H locs hP hD hS => ?_)
              refine W.eq (g2 := F0 m 571 ls [.int r181]) rfl ?_
              refine lv_sipush (v := (-1001 : Int32)) hx hb dL_refused_571 (by decide) ?_
              refine lv_icmp_ne (tgt := 986) hx hb dL_refused_574 (by decide) (fun c184 => ?_) (fun c184 => ?_)
              · rw [if_neg c184] at h
                exact L986 (x1) (w182) _ _ (by omega) (by omega) H locs ls hP hD hS (lv_sub hl [1, 2] rfl) h
              · rw [if_pos c184] at h
                refine lv_aload_n hx hb dL_refused_577 rfl (lv_at hl 1 rfl) ?_
                refine lv_iconst (v := (nI 0)) hx hb dL_refused_578 (by decide) ?_
                refine lv_bipush (v := (nI 6)) hx hb dL_refused_579 (by decide) ?_
                obtain ⟨⟨r185, w186⟩, hr187, h⟩ := ob h
                dsimp only at h
                refine px_SL (As := [.ref (b_o 0 0), .int (nI 0), .int (nI 6)]) (rest := []) (gs := ([gO E b_o w182] : List va_W)) (gr := ([] : List va_W)) (gc := ([gO E b_o w182] : List va_W)) (g1 := ([gO E b_o w186] : List va_W)) (g2 := ([gO E b_o w186] : List va_W)) ⟨hx, hb, hml, hown, hts⟩ (mT_commitOf l hlt E X L b_o ((nI 0)) ((nI 6))  (w182) r185 w186 hr187) (vx_cwSW 3 hts (wsw_s q508 q509 q17 q510) rfl rfl rfl hdS_L_commitOf (by rw [hR]; first | exact ⟨Nat.le_of_ble_eq_true rfl, Nat.le_of_ble_eq_true rfl⟩ | exact ⟨by show _ ≤ (5655 : Nat); omega, by show _ ≤ (33930 : Nat); omega⟩)) hK hN hX hL hP hD hS hA [] [0] [0] rfl rfl (by decide) (by decide) rfl (by decide) rfl hl.1 rfl (Nat.le_of_ble_eq_true rfl) dL_refused_581 (by rw [hR]; first | exact ⟨Nat.le_of_ble_eq_true rfl, Nat.le_of_ble_eq_true rfl⟩ | exact ⟨by show _ ≤ (5655 : Nat); omega, by show _ ≤ (33930 : Nat); omega⟩) (fun H locs hP hD hS => ?_)
                refine W.eq (g2 := F0 m 584 ls [.int r185]) rfl ?_
                refine lv_sipush (v := (-1002 : Int32)) hx hb dL_refused_584 (by decide) ?_
                refine lv_icmp_ne (tgt := 986) hx hb dL_refused_587 (by decide) (fun c188 => ?_) (fun c188 => ?_)
                · rw [if_neg c188] at h
                  exact L986 (x1) (w186) _ _ (by omega) (by omega) H locs ls hP hD hS (lv_sub hl [1, 2] rfl) h
                · rw [if_pos c188] at h
                  refine lv_aload_n hx hb dL_refused_590 rfl (lv_at hl 1 rfl) ?_
                  refine lv_iconst (v := (nI 0)) hx hb dL_refused_591 (by decide) ?_
                  refine lv_iconst (v := (-1 : Int32)) hx hb dL_refused_592 (by decide) ?_
                  obtain ⟨⟨r189, w190⟩, hr191, h⟩ := ob h
                  dsimp only at h
                  refine px_SL (As := [.ref (b_o 0 0), .int (nI 0), .int (-1 : Int32)]) (rest := []) (gs := ([gO E b_o w186] : List va_W)) (gr := ([] : List va_W)) (gc := ([gO E b_o w186] : List va_W)) (g1 := ([gO E b_o w190] : List va_W)) (g2 := ([gO E b_o w190] : List va_W)) ⟨hx, hb, hml, hown, hts⟩ (mT_commitOf l hlt E X L b_o ((nI 0)) ((-1 : Int32))  (w186) r189 w190 hr191) (vx_cwSW 3 hts (wsw_s q508 q509 q17 q510) rfl rfl rfl hdS_L_commitOf (by rw [hR]; first | exact ⟨Nat.le_of_ble_eq_true rfl, Nat.le_of_ble_eq_true rfl⟩ | exact ⟨by show _ ≤ (5655 : Nat); omega, by show _ ≤ (33930 : Nat); omega⟩)) hK hN hX hL hP hD hS hA [] [0] [0] rfl rfl (by decide) (by decide) rfl (by decide) rfl hl.1 rfl (Nat.le_of_ble_eq_true rfl) dL_refused_593 (by rw [hR]; first | exact ⟨Nat.le_of_ble_eq_true rfl, Nat.le_of_ble_eq_true rfl⟩ | exact ⟨by show _ ≤ (5655 : Nat); omega, by show _ ≤ (33930 : Nat); omega⟩) (fun H locs hP hD hS => ?_)
                  refine W.eq (g2 := F0 m 596 ls [.int r189]) rfl ?_
                  refine lv_sipush (v := (-1002 : Int32)) hx hb dL_refused_596 (by decide) ?_
                  refine lv_icmp_ne (tgt := 986) hx hb dL_refused_599 (by decide) (fun c192 => ?_) (fun c192 => ?_)
                  · rw [if_neg c192] at h
                    exact L986 (x1) (w190) _ _ (by omega) (by omega) H locs ls hP hD hS (lv_sub hl [1, 2] rfl) h
                  · rw [if_pos c192] at h
                    refine lv_aload_n hx hb dL_refused_602 rfl (lv_at hl 1 rfl) ?_
                    refine lv_iload hx hb dL_refused_603 (lv_at hl 4 rfl) ?_
                    refine lv_iconst (v := (nI 0)) hx hb dL_refused_605 (by decide) ?_
                    obtain ⟨⟨r193, w194⟩, hr195, h⟩ := ob h
                    dsimp only at h
                    refine px_SL (As := [.ref (b_o 0 0), .int x4, .int (nI 0)]) (rest := []) (gs := ([gO E b_o w190] : List va_W)) (gr := ([] : List va_W)) (gc := ([gO E b_o w190] : List va_W)) (g1 := ([gO E b_o w194] : List va_W)) (g2 := ([gO E b_o w194] : List va_W)) ⟨hx, hb, hml, hown, hts⟩ (mT_conflicts l hlt E X L b_o (x4) ((nI 0))  (w190) r193 w194 hr195) (vx_cwSW 3 hts (wsw_s q1111 q1112 q17 q1113) rfl rfl rfl hdS_L_conflicts (by rw [hR]; first | exact ⟨Nat.le_of_ble_eq_true rfl, Nat.le_of_ble_eq_true rfl⟩ | exact ⟨by show _ ≤ (5655 : Nat); omega, by show _ ≤ (33930 : Nat); omega⟩)) hK hN hX hL hP hD hS hA [] [0] [0] rfl rfl (by decide) (by decide) rfl (by decide) rfl hl.1 rfl (Nat.le_of_ble_eq_true rfl) dL_refused_606 (by rw [hR]; first | exact ⟨Nat.le_of_ble_eq_true rfl, Nat.le_of_ble_eq_true rfl⟩ | exact ⟨by show _ ≤ (5655 : Nat); omega, by show _ ≤ (33930 : Nat); omega⟩) (fun H locs hP hD hS => ?_)
                    refine W.eq (g2 := F0 m 609 ls [.int r193]) rfl ?_
                    refine lv_sipush (v := (-1001 : Int32)) hx hb dL_refused_609 (by decide) ?_
                    refine lv_icmp_ne (tgt := 986) hx hb dL_refused_612 (by decide) (fun c196 => ?_) (fun c196 => ?_)
                    · rw [if_neg c196] at h
                      exact L986 (x1) (w194) _ _ (by omega) (by omega) H locs ls hP hD hS (lv_sub hl [1, 2] rfl) h
                    · rw [if_pos c196] at h
                      refine lv_aload_n hx hb dL_refused_615 rfl (lv_at hl 1 rfl) ?_
                      refine lv_iconst (v := (nI 0)) hx hb dL_refused_616 (by decide) ?_
                      refine lv_iconst (v := (-1 : Int32)) hx hb dL_refused_617 (by decide) ?_
                      obtain ⟨⟨r197, w198⟩, hr199, h⟩ := ob h
                      dsimp only at h
                      refine px_SL (As := [.ref (b_o 0 0), .int (nI 0), .int (-1 : Int32)]) (rest := []) (gs := ([gO E b_o w194] : List va_W)) (gr := ([] : List va_W)) (gc := ([gO E b_o w194] : List va_W)) (g1 := ([gO E b_o w198] : List va_W)) (g2 := ([gO E b_o w198] : List va_W)) ⟨hx, hb, hml, hown, hts⟩ (mT_conflicts l hlt E X L b_o ((nI 0)) ((-1 : Int32))  (w194) r197 w198 hr199) (vx_cwSW 3 hts (wsw_s q1111 q1112 q17 q1113) rfl rfl rfl hdS_L_conflicts (by rw [hR]; first | exact ⟨Nat.le_of_ble_eq_true rfl, Nat.le_of_ble_eq_true rfl⟩ | exact ⟨by show _ ≤ (5655 : Nat); omega, by show _ ≤ (33930 : Nat); omega⟩)) hK hN hX hL hP hD hS hA [] [0] [0] rfl rfl (by decide) (by decide) rfl (by decide) rfl hl.1 rfl (Nat.le_of_ble_eq_true rfl) dL_refused_618 (by rw [hR]; first | exact ⟨Nat.le_of_ble_eq_true rfl, Nat.le_of_ble_eq_true rfl⟩ | exact ⟨by show _ ≤ (5655 : Nat); omega, by show _ ≤ (33930 : Nat); omega⟩) (fun H locs hP hD hS => ?_)
                      refine W.eq (g2 := F0 m 621 ls [.int r197]) rfl ?_
                      refine lv_sipush (v := (-1001 : Int32)) hx hb dL_refused_621 (by decide) ?_
                      refine lv_icmp_ne (tgt := 986) hx hb dL_refused_624 (by decide) (fun c200 => ?_) (fun c200 => ?_)
                      · rw [if_neg c200] at h
                        exact L986 (x1) (w198) _ _ (by omega) (by omega) H locs ls hP hD hS (lv_sub hl [1, 2] rfl) h
                      · rw [if_pos c200] at h
                        refine lv_aload_n hx hb dL_refused_627 rfl (lv_at hl 1 rfl) ?_
                        refine lv_iload_n hx hb dL_refused_628 rfl (lv_at hl 3 rfl) ?_
                        refine lv_iconst (v := (nI 0)) hx hb dL_refused_629 (by decide) ?_
                        obtain ⟨⟨r201, w202⟩, hr203, h⟩ := ob h
                        dsimp only at h
                        refine px_SL (As := [.ref (b_o 0 0), .int x3, .int (nI 0)]) (rest := []) (gs := ([gO E b_o w198] : List va_W)) (gr := ([] : List va_W)) (gc := ([gO E b_o w198] : List va_W)) (g1 := ([gO E b_o w202] : List va_W)) (g2 := ([gO E b_o w202] : List va_W)) ⟨hx, hb, hml, hown, hts⟩ (mT_in l hlt E X L b_o (x3) ((nI 0))  (w198) r201 w202 hr203) (vx_cwSW 3 hts (wsw_s q1024 q1025 q17 q1026) rfl rfl rfl hdS_L_in (by rw [hR]; first | exact ⟨Nat.le_of_ble_eq_true rfl, Nat.le_of_ble_eq_true rfl⟩ | exact ⟨by show _ ≤ (5655 : Nat); omega, by show _ ≤ (33930 : Nat); omega⟩)) hK hN hX hL hP hD hS hA [] [0] [0] rfl rfl (by decide) (by decide) rfl (by decide) rfl hl.1 rfl (Nat.le_of_ble_eq_true rfl) dL_refused_630 (by rw [hR]; first | exact ⟨Nat.le_of_ble_eq_true rfl, Nat.le_of_ble_eq_true rfl⟩ | exact ⟨by show _ ≤ (5655 : Nat); omega, by show _ ≤ (33930 : Nat); omega⟩) (fun H locs hP hD hS => ?_)
                        refine W.eq (g2 := F0 m 633 ls [.int r201]) rfl ?_
                        refine lv_sipush (v := (-1001 : Int32)) hx hb dL_refused_633 (by decide) ?_
                        refine lv_icmp_ne (tgt := 986) hx hb dL_refused_636 (by decide) (fun c204 => ?_) (fun c204 => ?_)
                        · rw [if_neg c204] at h
                          exact L986 (x1) (w202) _ _ (by omega) (by omega) H locs ls hP hD hS (lv_sub hl [1, 2] rfl) h
                        · rw [if_pos c204] at h
                          refine lv_aload_n hx hb dL_refused_639 rfl (lv_at hl 1 rfl) ?_
                          refine lv_iconst (v := (nI 0)) hx hb dL_refused_640 (by decide) ?_
                          refine lv_iconst (v := (-1 : Int32)) hx hb dL_refused_641 (by decide) ?_
                          obtain ⟨⟨r205, w206⟩, hr207, h⟩ := ob h
                          dsimp only at h
                          refine px_SL (As := [.ref (b_o 0 0), .int (nI 0), .int (-1 : Int32)]) (rest := []) (gs := ([gO E b_o w202] : List va_W)) (gr := ([] : List va_W)) (gc := ([gO E b_o w202] : List va_W)) (g1 := ([gO E b_o w206] : List va_W)) (g2 := ([gO E b_o w206] : List va_W)) ⟨hx, hb, hml, hown, hts⟩ (mT_in l hlt E X L b_o ((nI 0)) ((-1 : Int32))  (w202) r205 w206 hr207) (vx_cwSW 3 hts (wsw_s q1024 q1025 q17 q1026) rfl rfl rfl hdS_L_in (by rw [hR]; first | exact ⟨Nat.le_of_ble_eq_true rfl, Nat.le_of_ble_eq_true rfl⟩ | exact ⟨by show _ ≤ (5655 : Nat); omega, by show _ ≤ (33930 : Nat); omega⟩)) hK hN hX hL hP hD hS hA [] [0] [0] rfl rfl (by decide) (by decide) rfl (by decide) rfl hl.1 rfl (Nat.le_of_ble_eq_true rfl) dL_refused_642 (by rw [hR]; first | exact ⟨Nat.le_of_ble_eq_true rfl, Nat.le_of_ble_eq_true rfl⟩ | exact ⟨by show _ ≤ (5655 : Nat); omega, by show _ ≤ (33930 : Nat); omega⟩) (fun H locs hP hD hS => ?_)
                          refine W.eq (g2 := F0 m 645 ls [.int r205]) rfl ?_
                          refine lv_sipush (v := (-1001 : Int32)) hx hb dL_refused_645 (by decide) ?_
                          refine lv_icmp_ne (tgt := 986) hx hb dL_refused_648 (by decide) (fun c208 => ?_) (fun c208 => ?_)
                          · rw [if_neg c208] at h
                            exact L986 (x1) (w206) _ _ (by omega) (by omega) H locs ls hP hD hS (lv_sub hl [1, 2] rfl) h
                          · rw [if_pos c208] at h
                            refine lv_aload_n hx hb dL_refused_651 rfl (lv_at hl 1 rfl) ?_
                            refine lv_iload_n hx hb dL_refused_652 rfl (lv_at hl 3 rfl) ?_
                            refine lv_iconst (v := (nI 0)) hx hb dL_refused_653 (by decide) ?_
                            obtain ⟨⟨r209, w210⟩, hr211, h⟩ := ob h
                            dsimp only at h
                            refine px_SL (As := [.ref (b_o 0 0), .int x3, .int (nI 0)]) (rest := []) (gs := ([gO E b_o w206] : List va_W)) (gr := ([] : List va_W)) (gc := ([gO E b_o w206] : List va_W)) (g1 := ([gO E b_o w210] : List va_W)) (g2 := ([gO E b_o w210] : List va_W)) ⟨hx, hb, hml, hown, hts⟩ (mT_base l hlt E X L b_o (x3) ((nI 0))  (w206) r209 w210 hr211) (vx_cwSW 3 hts (wsw_s q1032 q1033 q17 q1034) rfl rfl rfl hdS_L_base (by rw [hR]; first | exact ⟨Nat.le_of_ble_eq_true rfl, Nat.le_of_ble_eq_true rfl⟩ | exact ⟨by show _ ≤ (5655 : Nat); omega, by show _ ≤ (33930 : Nat); omega⟩)) hK hN hX hL hP hD hS hA [] [0] [0] rfl rfl (by decide) (by decide) rfl (by decide) rfl hl.1 rfl (Nat.le_of_ble_eq_true rfl) dL_refused_654 (by rw [hR]; first | exact ⟨Nat.le_of_ble_eq_true rfl, Nat.le_of_ble_eq_true rfl⟩ | exact ⟨by show _ ≤ (5655 : Nat); omega, by show _ ≤ (33930 : Nat); omega⟩) (fun H locs hP hD hS => ?_)
                            refine W.eq (g2 := F0 m 657 ls [.int r209]) rfl ?_
                            refine lv_sipush (v := (-1001 : Int32)) hx hb dL_refused_657 (by decide) ?_
                            refine lv_icmp_ne (tgt := 986) hx hb dL_refused_660 (by decide) (fun c212 => ?_) (fun c212 => ?_)
                            · rw [if_neg c212] at h
                              exact L986 (x1) (w210) _ _ (by omega) (by omega) H locs ls hP hD hS (lv_sub hl [1, 2] rfl) h
                            · rw [if_pos c212] at h
                              refine lv_aload_n hx hb dL_refused_663 rfl (lv_at hl 1 rfl) ?_
                              refine lv_iconst (v := (nI 0)) hx hb dL_refused_664 (by decide) ?_
                              refine lv_iload_n hx hb dL_refused_665 rfl (lv_at hl 3 rfl) ?_
                              obtain ⟨⟨r213, w214⟩, hr215, h⟩ := ob h
                              dsimp only at h
                              refine px_SL (As := [.ref (b_o 0 0), .int (nI 0), .int x3]) (rest := []) (gs := ([gO E b_o w210] : List va_W)) (gr := ([] : List va_W)) (gc := ([gO E b_o w210] : List va_W)) (g1 := ([gO E b_o w214] : List va_W)) (g2 := ([gO E b_o w214] : List va_W)) ⟨hx, hb, hml, hown, hts⟩ (mT_baseAgain l hlt E X L b_o ((nI 0)) (x3)  (w210) r213 w214 hr215) (vx_cwSW 3 hts (wsw_s q1040 q1041 q17 q1042) rfl rfl rfl hdS_L_baseAgain (by rw [hR]; first | exact ⟨Nat.le_of_ble_eq_true rfl, Nat.le_of_ble_eq_true rfl⟩ | exact ⟨by show _ ≤ (5655 : Nat); omega, by show _ ≤ (33930 : Nat); omega⟩)) hK hN hX hL hP hD hS hA [] [0] [0] rfl rfl (by decide) (by decide) rfl (by decide) rfl hl.1 rfl (Nat.le_of_ble_eq_true rfl) dL_refused_666 (by rw [hR]; first | exact ⟨Nat.le_of_ble_eq_true rfl, Nat.le_of_ble_eq_true rfl⟩ | exact ⟨by show _ ≤ (5655 : Nat); omega, by show _ ≤ (33930 : Nat); omega⟩) (fun H locs hP hD hS => ?_)
                              refine W.eq (g2 := F0 m 669 ls [.int r213]) rfl ?_
                              refine lv_sipush (v := (-1001 : Int32)) hx hb dL_refused_669 (by decide) ?_
                              refine lv_icmp_ne (tgt := 986) hx hb dL_refused_672 (by decide) (fun c216 => ?_) (fun c216 => ?_)
                              · rw [if_neg c216] at h
                                exact L986 (x1) (w214) _ _ (by omega) (by omega) H locs ls hP hD hS (lv_sub hl [1, 2] rfl) h
                              · rw [if_pos c216] at h
                                refine lv_aload_n hx hb dL_refused_675 rfl (lv_at hl 1 rfl) ?_
                                refine lv_iconst (v := (-1 : Int32)) hx hb dL_refused_676 (by decide) ?_
                                refine lv_iconst (v := (nI 0)) hx hb dL_refused_677 (by decide) ?_
                                obtain ⟨⟨r217, w218⟩, hr219, h⟩ := ob h
                                dsimp only at h
                                refine px_SL (As := [.ref (b_o 0 0), .int (-1 : Int32), .int (nI 0)]) (rest := []) (gs := ([gO E b_o w214] : List va_W)) (gr := ([] : List va_W)) (gc := ([gO E b_o w214] : List va_W)) (g1 := ([gO E b_o w218] : List va_W)) (g2 := ([gO E b_o w218] : List va_W)) ⟨hx, hb, hml, hown, hts⟩ (mT_difference l hlt E X L b_o ((-1 : Int32)) ((nI 0))  (w214) r217 w218 hr219) (vx_cwSW 3 hts (wsw_s q1048 q1049 q17 q1050) rfl rfl rfl hdS_L_difference (by rw [hR]; first | exact ⟨Nat.le_of_ble_eq_true rfl, Nat.le_of_ble_eq_true rfl⟩ | exact ⟨by show _ ≤ (5655 : Nat); omega, by show _ ≤ (33930 : Nat); omega⟩)) hK hN hX hL hP hD hS hA [] [0] [0] rfl rfl (by decide) (by decide) rfl (by decide) rfl hl.1 rfl (Nat.le_of_ble_eq_true rfl) dL_refused_678 (by rw [hR]; first | exact ⟨Nat.le_of_ble_eq_true rfl, Nat.le_of_ble_eq_true rfl⟩ | exact ⟨by show _ ≤ (5655 : Nat); omega, by show _ ≤ (33930 : Nat); omega⟩) (fun H locs hP hD hS => ?_)
                                refine W.eq (g2 := F0 m 681 ls [.int r217]) rfl ?_
                                refine lv_sipush (v := (-1001 : Int32)) hx hb dL_refused_681 (by decide) ?_
                                refine lv_icmp_ne (tgt := 986) hx hb dL_refused_684 (by decide) (fun c220 => ?_) (fun c220 => ?_)
                                · rw [if_neg c220] at h
                                  exact L986 (x1) (w218) _ _ (by omega) (by omega) H locs ls hP hD hS (lv_sub hl [1, 2] rfl) h
                                · rw [if_pos c220] at h
                                  refine lv_aload_n hx hb dL_refused_687 rfl (lv_at hl 1 rfl) ?_
                                  refine lv_iload hx hb dL_refused_688 (lv_at hl 4 rfl) ?_
                                  refine lv_iconst (v := (nI 0)) hx hb dL_refused_690 (by decide) ?_
                                  obtain ⟨⟨r221, w222⟩, hr223, h⟩ := ob h
                                  dsimp only at h
                                  refine px_SL (As := [.ref (b_o 0 0), .int x4, .int (nI 0)]) (rest := []) (gs := ([gO E b_o w218] : List va_W)) (gr := ([] : List va_W)) (gc := ([gO E b_o w218] : List va_W)) (g1 := ([gO E b_o w222] : List va_W)) (g2 := ([gO E b_o w222] : List va_W)) ⟨hx, hb, hml, hown, hts⟩ (mT_onLine l hlt E X L b_o (x4) ((nI 0))  (w218) r221 w222 hr223) (vx_cwSW 3 hts (wsw_s q1122 q1123 q17 q1124) rfl rfl rfl hdS_L_onLine (by rw [hR]; first | exact ⟨Nat.le_of_ble_eq_true rfl, Nat.le_of_ble_eq_true rfl⟩ | exact ⟨by show _ ≤ (5655 : Nat); omega, by show _ ≤ (33930 : Nat); omega⟩)) hK hN hX hL hP hD hS hA [] [0] [0] rfl rfl (by decide) (by decide) rfl (by decide) rfl hl.1 rfl (Nat.le_of_ble_eq_true rfl) dL_refused_691 (by rw [hR]; first | exact ⟨Nat.le_of_ble_eq_true rfl, Nat.le_of_ble_eq_true rfl⟩ | exact ⟨by show _ ≤ (5655 : Nat); omega, by show _ ≤ (33930 : Nat); omega⟩) (fun H locs hP hD hS => ?_)
                                  refine W.eq (g2 := F0 m 694 ls [.int r221]) rfl ?_
                                  refine lv_sipush (v := (-1001 : Int32)) hx hb dL_refused_694 (by decide) ?_
                                  refine lv_icmp_ne (tgt := 986) hx hb dL_refused_697 (by decide) (fun c224 => ?_) (fun c224 => ?_)
                                  · rw [if_neg c224] at h
                                    exact L986 (x1) (w222) _ _ (by omega) (by omega) H locs ls hP hD hS (lv_sub hl [1, 2] rfl) h
                                  · rw [if_pos c224] at h
                                    refine lv_aload_n hx hb dL_refused_700 rfl (lv_at hl 1 rfl) ?_
                                    refine lv_iconst (v := (nI 0)) hx hb dL_refused_701 (by decide) ?_
                                    refine lv_iconst (v := (-1 : Int32)) hx hb dL_refused_702 (by decide) ?_
                                    obtain ⟨⟨r225, w226⟩, hr227, h⟩ := ob h
                                    dsimp only at h
                                    refine px_SL (As := [.ref (b_o 0 0), .int (nI 0), .int (-1 : Int32)]) (rest := []) (gs := ([gO E b_o w222] : List va_W)) (gr := ([] : List va_W)) (gc := ([gO E b_o w222] : List va_W)) (g1 := ([gO E b_o w226] : List va_W)) (g2 := ([gO E b_o w226] : List va_W)) ⟨hx, hb, hml, hown, hts⟩ (mT_onLine l hlt E X L b_o ((nI 0)) ((-1 : Int32))  (w222) r225 w226 hr227) (vx_cwSW 3 hts (wsw_s q1122 q1123 q17 q1124) rfl rfl rfl hdS_L_onLine (by rw [hR]; first | exact ⟨Nat.le_of_ble_eq_true rfl, Nat.le_of_ble_eq_true rfl⟩ | exact ⟨by show _ ≤ (5655 : Nat); omega, by show _ ≤ (33930 : Nat); omega⟩)) hK hN hX hL hP hD hS hA [] [0] [0] rfl rfl (by decide) (by decide) rfl (by decide) rfl hl.1 rfl (Nat.le_of_ble_eq_true rfl) dL_refused_703 (by rw [hR]; first | exact ⟨Nat.le_of_ble_eq_true rfl, Nat.le_of_ble_eq_true rfl⟩ | exact ⟨by show _ ≤ (5655 : Nat); omega, by show _ ≤ (33930 : Nat); omega⟩) (fun H locs hP hD hS => ?_)
                                    refine W.eq (g2 := F0 m 706 ls [.int r225]) rfl ?_
                                    refine lv_sipush (v := (-1002 : Int32)) hx hb dL_refused_706 (by decide) ?_
                                    refine lv_icmp_ne (tgt := 986) hx hb dL_refused_709 (by decide) (fun c228 => ?_) (fun c228 => ?_)
                                    · rw [if_neg c228] at h
                                      exact L986 (x1) (w226) _ _ (by omega) (by omega) H locs ls hP hD hS (lv_sub hl [1, 2] rfl) h
                                    · rw [if_pos c228] at h
                                      refine lv_aload_n hx hb dL_refused_712 rfl (lv_at hl 1 rfl) ?_
                                      refine lv_iconst (v := (nI 0)) hx hb dL_refused_713 (by decide) ?_
                                      refine lv_bipush (v := (nI 24)) hx hb dL_refused_714 (by decide) ?_
                                      obtain ⟨⟨r229, w230⟩, hr231, h⟩ := ob h
                                      dsimp only at h
                                      refine px_SL (As := [.ref (b_o 0 0), .int (nI 0), .int (nI 24)]) (rest := []) (gs := ([gO E b_o w226] : List va_W)) (gr := ([] : List va_W)) (gc := ([gO E b_o w226] : List va_W)) (g1 := ([gO E b_o w230] : List va_W)) (g2 := ([gO E b_o w230] : List va_W)) ⟨hx, hb, hml, hown, hts⟩ (mT_onLine l hlt E X L b_o ((nI 0)) ((nI 24))  (w226) r229 w230 hr231) (vx_cwSW 3 hts (wsw_s q1122 q1123 q17 q1124) rfl rfl rfl hdS_L_onLine (by rw [hR]; first | exact ⟨Nat.le_of_ble_eq_true rfl, Nat.le_of_ble_eq_true rfl⟩ | exact ⟨by show _ ≤ (5655 : Nat); omega, by show _ ≤ (33930 : Nat); omega⟩)) hK hN hX hL hP hD hS hA [] [0] [0] rfl rfl (by decide) (by decide) rfl (by decide) rfl hl.1 rfl (Nat.le_of_ble_eq_true rfl) dL_refused_716 (by rw [hR]; first | exact ⟨Nat.le_of_ble_eq_true rfl, Nat.le_of_ble_eq_true rfl⟩ | exact ⟨by show _ ≤ (5655 : Nat); omega, by show _ ≤ (33930 : Nat); omega⟩) (fun H locs hP hD hS => ?_)
                                      refine W.eq (g2 := F0 m 719 ls [.int r229]) rfl ?_
                                      refine lv_sipush (v := (-1002 : Int32)) hx hb dL_refused_719 (by decide) ?_
                                      refine lv_icmp_ne (tgt := 986) hx hb dL_refused_722 (by decide) (fun c232 => ?_) (fun c232 => ?_)
                                      · rw [if_neg c232] at h
                                        exact L986 (x1) (w230) _ _ (by omega) (by omega) H locs ls hP hD hS (lv_sub hl [1, 2] rfl) h
                                      · rw [if_pos c232] at h
                                        refine lv_aload_n hx hb dL_refused_725 rfl (lv_at hl 1 rfl) ?_
                                        refine lv_iload hx hb dL_refused_726 (lv_at hl 4 rfl) ?_
                                        refine lv_iconst (v := (nI 0)) hx hb dL_refused_728 (by decide) ?_
                                        refine lv_bipush (v := (nI 100)) hx hb dL_refused_729 (by decide) ?_
                                        refine lv_iconst (v := (nI 1)) hx hb dL_refused_731 (by decide) ?_
                                        obtain ⟨⟨r233, w234⟩, hr235, h⟩ := ob h
                                        dsimp only at h
                                        refine px_SL (As := [.ref (b_o 0 0), .int x4, .int (nI 0), .int (nI 100), .int (nI 1)]) (rest := []) (gs := ([gO E b_o w230] : List va_W)) (gr := ([] : List va_W)) (gc := ([gO E b_o w230] : List va_W)) (g1 := ([gO E b_o w234] : List va_W)) (g2 := ([gO E b_o w234] : List va_W)) ⟨hx, hb, hml, hown, hts⟩ (mT_halve l hlt E X L b_o (x4) ((nI 0)) ((nI 100)) ((nI 1))  (w230) r233 w234 hr235) (vx_cwSW 5 hts (wsw_s q613 q614 q17 q615) rfl rfl rfl hdS_L_halve (by rw [hR]; first | exact ⟨Nat.le_of_ble_eq_true rfl, Nat.le_of_ble_eq_true rfl⟩ | exact ⟨by show _ ≤ (5655 : Nat); omega, by show _ ≤ (33930 : Nat); omega⟩)) hK hN hX hL hP hD hS hA [] [0] [0] rfl rfl (by decide) (by decide) rfl (by decide) rfl hl.1 rfl (Nat.le_of_ble_eq_true rfl) dL_refused_732 (by rw [hR]; first | exact ⟨Nat.le_of_ble_eq_true rfl, Nat.le_of_ble_eq_true rfl⟩ | exact ⟨by show _ ≤ (5655 : Nat); omega, by show _ ≤ (33930 : Nat); omega⟩) (fun H locs hP hD hS => ?_)
                                        refine W.eq (g2 := F0 m 735 ls [.int r233]) rfl ?_
                                        refine lv_sipush (v := (-1001 : Int32)) hx hb dL_refused_735 (by decide) ?_
                                        refine lv_icmp_ne (tgt := 986) hx hb dL_refused_738 (by decide) (fun c236 => ?_) (fun c236 => ?_)
                                        · rw [if_neg c236] at h
                                          exact L986 (x1) (w234) _ _ (by omega) (by omega) H locs ls hP hD hS (lv_sub hl [1, 2] rfl) h
                                        · rw [if_pos c236] at h
                                          refine lv_aload_n hx hb dL_refused_741 rfl (lv_at hl 1 rfl) ?_
                                          refine lv_iconst (v := (nI 0)) hx hb dL_refused_742 (by decide) ?_
                                          refine lv_bipush (v := (nI 6)) hx hb dL_refused_743 (by decide) ?_
                                          refine lv_bipush (v := (nI 100)) hx hb dL_refused_745 (by decide) ?_
                                          refine lv_iconst (v := (nI 1)) hx hb dL_refused_747 (by decide) ?_
                                          obtain ⟨⟨r237, w238⟩, hr239, h⟩ := ob h
                                          dsimp only at h
                                          refine px_SL (As := [.ref (b_o 0 0), .int (nI 0), .int (nI 6), .int (nI 100), .int (nI 1)]) (rest := []) (gs := ([gO E b_o w234] : List va_W)) (gr := ([] : List va_W)) (gc := ([gO E b_o w234] : List va_W)) (g1 := ([gO E b_o w238] : List va_W)) (g2 := ([gO E b_o w238] : List va_W)) ⟨hx, hb, hml, hown, hts⟩ (mT_halve l hlt E X L b_o ((nI 0)) ((nI 6)) ((nI 100)) ((nI 1))  (w234) r237 w238 hr239) (vx_cwSW 5 hts (wsw_s q613 q614 q17 q615) rfl rfl rfl hdS_L_halve (by rw [hR]; first | exact ⟨Nat.le_of_ble_eq_true rfl, Nat.le_of_ble_eq_true rfl⟩ | exact ⟨by show _ ≤ (5655 : Nat); omega, by show _ ≤ (33930 : Nat); omega⟩)) hK hN hX hL hP hD hS hA [] [0] [0] rfl rfl (by decide) (by decide) rfl (by decide) rfl hl.1 rfl (Nat.le_of_ble_eq_true rfl) dL_refused_748 (by rw [hR]; first | exact ⟨Nat.le_of_ble_eq_true rfl, Nat.le_of_ble_eq_true rfl⟩ | exact ⟨by show _ ≤ (5655 : Nat); omega, by show _ ≤ (33930 : Nat); omega⟩) (fun H locs hP hD hS => ?_)
                                          refine W.eq (g2 := F0 m 751 ls [.int r237]) rfl ?_
                                          refine lv_sipush (v := (-1001 : Int32)) hx hb dL_refused_751 (by decide) ?_
                                          refine lv_icmp_ne (tgt := 986) hx hb dL_refused_754 (by decide) (fun c240 => ?_) (fun c240 => ?_)
                                          · rw [if_neg c240] at h
                                            exact L986 (x1) (w238) _ _ (by omega) (by omega) H locs ls hP hD hS (lv_sub hl [1, 2] rfl) h
                                          · rw [if_pos c240] at h
                                            refine lv_aload_n hx hb dL_refused_757 rfl (lv_at hl 1 rfl) ?_
                                            refine lv_iconst (v := (nI 0)) hx hb dL_refused_758 (by decide) ?_
                                            refine lv_iconst (v := (nI 0)) hx hb dL_refused_759 (by decide) ?_
                                            refine lv_bipush (v := (nI 100)) hx hb dL_refused_760 (by decide) ?_
                                            refine lv_iconst (v := (nI 0)) hx hb dL_refused_762 (by decide) ?_
                                            obtain ⟨⟨r241, w242⟩, hr243, h⟩ := ob h
                                            dsimp only at h
                                            refine px_SL (As := [.ref (b_o 0 0), .int (nI 0), .int (nI 0), .int (nI 100), .int (nI 0)]) (rest := []) (gs := ([gO E b_o w238] : List va_W)) (gr := ([] : List va_W)) (gc := ([gO E b_o w238] : List va_W)) (g1 := ([gO E b_o w242] : List va_W)) (g2 := ([gO E b_o w242] : List va_W)) ⟨hx, hb, hml, hown, hts⟩ (mT_halve l hlt E X L b_o ((nI 0)) ((nI 0)) ((nI 100)) ((nI 0))  (w238) r241 w242 hr243) (vx_cwSW 5 hts (wsw_s q613 q614 q17 q615) rfl rfl rfl hdS_L_halve (by rw [hR]; first | exact ⟨Nat.le_of_ble_eq_true rfl, Nat.le_of_ble_eq_true rfl⟩ | exact ⟨by show _ ≤ (5655 : Nat); omega, by show _ ≤ (33930 : Nat); omega⟩)) hK hN hX hL hP hD hS hA [] [0] [0] rfl rfl (by decide) (by decide) rfl (by decide) rfl hl.1 rfl (Nat.le_of_ble_eq_true rfl) dL_refused_763 (by rw [hR]; first | exact ⟨Nat.le_of_ble_eq_true rfl, Nat.le_of_ble_eq_true rfl⟩ | exact ⟨by show _ ≤ (5655 : Nat); omega, by show _ ≤ (33930 : Nat); omega⟩) (fun H locs hP hD hS => ?_)
                                            refine W.eq (g2 := F0 m 766 ls [.int r241]) rfl ?_
                                            refine lv_sipush (v := (-1002 : Int32)) hx hb dL_refused_766 (by decide) ?_
                                            refine lv_icmp_ne (tgt := 986) hx hb dL_refused_769 (by decide) (fun c244 => ?_) (fun c244 => ?_)
                                            · rw [if_neg c244] at h
                                              exact L986 (x1) (w242) _ _ (by omega) (by omega) H locs ls hP hD hS (lv_sub hl [1, 2] rfl) h
                                            · rw [if_pos c244] at h
                                              refine lv_aload_n hx hb dL_refused_772 rfl (lv_at hl 1 rfl) ?_
                                              refine lv_iconst (v := (nI 0)) hx hb dL_refused_773 (by decide) ?_
                                              refine lv_iconst (v := (nI 0)) hx hb dL_refused_774 (by decide) ?_
                                              refine lv_iconst (v := (-1 : Int32)) hx hb dL_refused_775 (by decide) ?_
                                              refine lv_iconst (v := (nI 0)) hx hb dL_refused_776 (by decide) ?_
                                              obtain ⟨⟨r245, w246⟩, hr247, h⟩ := ob h
                                              dsimp only at h
                                              refine px_SL (As := [.ref (b_o 0 0), .int (nI 0), .int (nI 0), .int (-1 : Int32), .int (nI 0)]) (rest := []) (gs := ([gO E b_o w242] : List va_W)) (gr := ([] : List va_W)) (gc := ([gO E b_o w242] : List va_W)) (g1 := ([gO E b_o w246] : List va_W)) (g2 := ([gO E b_o w246] : List va_W)) ⟨hx, hb, hml, hown, hts⟩ (mT_halve l hlt E X L b_o ((nI 0)) ((nI 0)) ((-1 : Int32)) ((nI 0))  (w242) r245 w246 hr247) (vx_cwSW 5 hts (wsw_s q613 q614 q17 q615) rfl rfl rfl hdS_L_halve (by rw [hR]; first | exact ⟨Nat.le_of_ble_eq_true rfl, Nat.le_of_ble_eq_true rfl⟩ | exact ⟨by show _ ≤ (5655 : Nat); omega, by show _ ≤ (33930 : Nat); omega⟩)) hK hN hX hL hP hD hS hA [] [0] [0] rfl rfl (by decide) (by decide) rfl (by decide) rfl hl.1 rfl (Nat.le_of_ble_eq_true rfl) dL_refused_777 (by rw [hR]; first | exact ⟨Nat.le_of_ble_eq_true rfl, Nat.le_of_ble_eq_true rfl⟩ | exact ⟨by show _ ≤ (5655 : Nat); omega, by show _ ≤ (33930 : Nat); omega⟩) (fun H locs hP hD hS => ?_)
                                              refine W.eq (g2 := F0 m 780 ls [.int r245]) rfl ?_
                                              refine lv_sipush (v := (-1002 : Int32)) hx hb dL_refused_780 (by decide) ?_
                                              refine lv_icmp_ne (tgt := 986) hx hb dL_refused_783 (by decide) (fun c248 => ?_) (fun c248 => ?_)
                                              · rw [if_neg c248] at h
                                                exact L986 (x1) (w246) _ _ (by omega) (by omega) H locs ls hP hD hS (lv_sub hl [1, 2] rfl) h
                                              · rw [if_pos c248] at h
                                                refine lv_aload_n hx hb dL_refused_786 rfl (lv_at hl 1 rfl) ?_
                                                refine lv_iconst (v := (nI 0)) hx hb dL_refused_787 (by decide) ?_
                                                refine lv_iconst (v := (nI 0)) hx hb dL_refused_788 (by decide) ?_
                                                refine lv_bipush (v := (nI 99)) hx hb dL_refused_789 (by decide) ?_
                                                refine lv_iconst (v := (nI 1)) hx hb dL_refused_791 (by decide) ?_
                                                obtain ⟨⟨r249, w250⟩, hr251, h⟩ := ob h
                                                dsimp only at h
                                                refine px_SL (As := [.ref (b_o 0 0), .int (nI 0), .int (nI 0), .int (nI 99), .int (nI 1)]) (rest := []) (gs := ([gO E b_o w246] : List va_W)) (gr := ([] : List va_W)) (gc := ([gO E b_o w246] : List va_W)) (g1 := ([gO E b_o w250] : List va_W)) (g2 := ([gO E b_o w250] : List va_W)) ⟨hx, hb, hml, hown, hts⟩ (mT_halve l hlt E X L b_o ((nI 0)) ((nI 0)) ((nI 99)) ((nI 1))  (w246) r249 w250 hr251) (vx_cwSW 5 hts (wsw_s q613 q614 q17 q615) rfl rfl rfl hdS_L_halve (by rw [hR]; first | exact ⟨Nat.le_of_ble_eq_true rfl, Nat.le_of_ble_eq_true rfl⟩ | exact ⟨by show _ ≤ (5655 : Nat); omega, by show _ ≤ (33930 : Nat); omega⟩)) hK hN hX hL hP hD hS hA [] [0] [0] rfl rfl (by decide) (by decide) rfl (by decide) rfl hl.1 rfl (Nat.le_of_ble_eq_true rfl) dL_refused_792 (by rw [hR]; first | exact ⟨Nat.le_of_ble_eq_true rfl, Nat.le_of_ble_eq_true rfl⟩ | exact ⟨by show _ ≤ (5655 : Nat); omega, by show _ ≤ (33930 : Nat); omega⟩) (fun H locs hP hD hS => ?_)
                                                refine W.eq (g2 := F0 m 795 ls [.int r249]) rfl ?_
                                                refine lv_sipush (v := (-1003 : Int32)) hx hb dL_refused_795 (by decide) ?_
                                                refine lv_icmp_ne (tgt := 986) hx hb dL_refused_798 (by decide) (fun c252 => ?_) (fun c252 => ?_)
                                                · rw [if_neg c252] at h
                                                  exact L986 (x1) (w250) _ _ (by omega) (by omega) H locs ls hP hD hS (lv_sub hl [1, 2] rfl) h
                                                · rw [if_pos c252] at h
                                                  refine lv_aload_n hx hb dL_refused_801 rfl (lv_at hl 1 rfl) ?_
                                                  refine lv_iload hx hb dL_refused_802 (lv_at hl 4 rfl) ?_
                                                  refine lv_iconst (v := (nI 0)) hx hb dL_refused_804 (by decide) ?_
                                                  refine lv_bipush (v := (nI 100)) hx hb dL_refused_805 (by decide) ?_
                                                  obtain ⟨⟨r253, w254⟩, hr255, h⟩ := ob h
                                                  dsimp only at h
                                                  refine px_SL (As := [.ref (b_o 0 0), .int x4, .int (nI 0), .int (nI 100)]) (rest := []) (gs := ([gO E b_o w250] : List va_W)) (gr := ([] : List va_W)) (gc := ([gO E b_o w250] : List va_W)) (g1 := ([gO E b_o w254] : List va_W)) (g2 := ([gO E b_o w254] : List va_W)) ⟨hx, hb, hml, hown, hts⟩ (mT_firstBad l hlt E X L b_o (x4) ((nI 0)) ((nI 100))  (w250) r253 w254 hr255) (vx_cwSW 4 hts (wsw_s q668 q669 q17 q670) rfl rfl rfl hdS_L_firstBad (by rw [hR]; first | exact ⟨Nat.le_of_ble_eq_true rfl, Nat.le_of_ble_eq_true rfl⟩ | exact ⟨by show _ ≤ (5655 : Nat); omega, by show _ ≤ (33930 : Nat); omega⟩)) hK hN hX hL hP hD hS hA [] [0] [0] rfl rfl (by decide) (by decide) rfl (by decide) rfl hl.1 rfl (Nat.le_of_ble_eq_true rfl) dL_refused_807 (by rw [hR]; first | exact ⟨Nat.le_of_ble_eq_true rfl, Nat.le_of_ble_eq_true rfl⟩ | exact ⟨by show _ ≤ (5655 : Nat); omega, by show _ ≤ (33930 : Nat); omega⟩) (fun H locs hP hD hS => ?_)
                                                  refine W.eq (g2 := F0 m 810 ls [.int r253]) rfl ?_
                                                  refine lv_sipush (v := (-1001 : Int32)) hx hb dL_refused_810 (by decide) ?_
                                                  refine lv_icmp_ne (tgt := 986) hx hb dL_refused_813 (by decide) (fun c256 => ?_) (fun c256 => ?_)
                                                  · rw [if_neg c256] at h
                                                    exact L986 (x1) (w254) _ _ (by omega) (by omega) H locs ls hP hD hS (lv_sub hl [1, 2] rfl) h
                                                  · rw [if_pos c256] at h
                                                    refine lv_aload_n hx hb dL_refused_816 rfl (lv_at hl 1 rfl) ?_
                                                    refine lv_iconst (v := (nI 0)) hx hb dL_refused_817 (by decide) ?_
                                                    refine lv_iconst (v := (nI 0)) hx hb dL_refused_818 (by decide) ?_
                                                    refine lv_bipush (v := (nI 100)) hx hb dL_refused_819 (by decide) ?_
                                                    obtain ⟨⟨r257, w258⟩, hr259, h⟩ := ob h
                                                    dsimp only at h
                                                    refine px_SL (As := [.ref (b_o 0 0), .int (nI 0), .int (nI 0), .int (nI 100)]) (rest := []) (gs := ([gO E b_o w254] : List va_W)) (gr := ([] : List va_W)) (gc := ([gO E b_o w254] : List va_W)) (g1 := ([gO E b_o w258] : List va_W)) (g2 := ([gO E b_o w258] : List va_W)) ⟨hx, hb, hml, hown, hts⟩ (mT_firstBad l hlt E X L b_o ((nI 0)) ((nI 0)) ((nI 100))  (w254) r257 w258 hr259) (vx_cwSW 4 hts (wsw_s q668 q669 q17 q670) rfl rfl rfl hdS_L_firstBad (by rw [hR]; first | exact ⟨Nat.le_of_ble_eq_true rfl, Nat.le_of_ble_eq_true rfl⟩ | exact ⟨by show _ ≤ (5655 : Nat); omega, by show _ ≤ (33930 : Nat); omega⟩)) hK hN hX hL hP hD hS hA [] [0] [0] rfl rfl (by decide) (by decide) rfl (by decide) rfl hl.1 rfl (Nat.le_of_ble_eq_true rfl) dL_refused_821 (by rw [hR]; first | exact ⟨Nat.le_of_ble_eq_true rfl, Nat.le_of_ble_eq_true rfl⟩ | exact ⟨by show _ ≤ (5655 : Nat); omega, by show _ ≤ (33930 : Nat); omega⟩) (fun H locs hP hD hS => ?_)
                                                    refine W.eq (g2 := F0 m 824 ls [.int r257]) rfl ?_
                                                    refine lv_sipush (v := (-1002 : Int32)) hx hb dL_refused_824 (by decide) ?_
                                                    refine lv_icmp_ne (tgt := 986) hx hb dL_refused_827 (by decide) (fun c260 => ?_) (fun c260 => ?_)
                                                    · rw [if_neg c260] at h
                                                      exact L986 (x1) (w258) _ _ (by omega) (by omega) H locs ls hP hD hS (lv_sub hl [1, 2] rfl) h
                                                    · rw [if_pos c260] at h
                                                      refine lv_aload_n hx hb dL_refused_830 rfl (lv_at hl 1 rfl) ?_
                                                      refine lv_iconst (v := (nI 0)) hx hb dL_refused_831 (by decide) ?_
                                                      refine lv_iconst (v := (nI 0)) hx hb dL_refused_832 (by decide) ?_
                                                      refine lv_bipush (v := (nI 99)) hx hb dL_refused_833 (by decide) ?_
                                                      obtain ⟨⟨r261, w262⟩, hr263, h⟩ := ob h
                                                      dsimp only at h
                                                      refine px_SL (As := [.ref (b_o 0 0), .int (nI 0), .int (nI 0), .int (nI 99)]) (rest := []) (gs := ([gO E b_o w258] : List va_W)) (gr := ([] : List va_W)) (gc := ([gO E b_o w258] : List va_W)) (g1 := ([gO E b_o w262] : List va_W)) (g2 := ([gO E b_o w262] : List va_W)) ⟨hx, hb, hml, hown, hts⟩ (mT_firstBad l hlt E X L b_o ((nI 0)) ((nI 0)) ((nI 99))  (w258) r261 w262 hr263) (vx_cwSW 4 hts (wsw_s q668 q669 q17 q670) rfl rfl rfl hdS_L_firstBad (by rw [hR]; first | exact ⟨Nat.le_of_ble_eq_true rfl, Nat.le_of_ble_eq_true rfl⟩ | exact ⟨by show _ ≤ (5655 : Nat); omega, by show _ ≤ (33930 : Nat); omega⟩)) hK hN hX hL hP hD hS hA [] [0] [0] rfl rfl (by decide) (by decide) rfl (by decide) rfl hl.1 rfl (Nat.le_of_ble_eq_true rfl) dL_refused_835 (by rw [hR]; first | exact ⟨Nat.le_of_ble_eq_true rfl, Nat.le_of_ble_eq_true rfl⟩ | exact ⟨by show _ ≤ (5655 : Nat); omega, by show _ ≤ (33930 : Nat); omega⟩) (fun H locs hP hD hS => ?_)
                                                      refine W.eq (g2 := F0 m 838 ls [.int r261]) rfl ?_
                                                      refine lv_sipush (v := (-1003 : Int32)) hx hb dL_refused_838 (by decide) ?_
                                                      refine lv_icmp_ne (tgt := 986) hx hb dL_refused_841 (by decide) (fun c264 => ?_) (fun c264 => ?_)
                                                      · rw [if_neg c264] at h
                                                        exact L986 (x1) (w262) _ _ (by omega) (by omega) H locs ls hP hD hS (lv_sub hl [1, 2] rfl) h
                                                      · rw [if_pos c264] at h
                                                        refine lv_aload_n hx hb dL_refused_844 rfl (lv_at hl 1 rfl) ?_
                                                        refine lv_iload hx hb dL_refused_845 (lv_at hl 4 rfl) ?_
                                                        refine lv_iconst (v := (nI 0)) hx hb dL_refused_847 (by decide) ?_
                                                        obtain ⟨⟨r265, w266⟩, hr267, h⟩ := ob h
                                                        dsimp only at h
                                                        refine px_SL (As := [.ref (b_o 0 0), .int x4, .int (nI 0)]) (rest := []) (gs := ([gO E b_o w262] : List va_W)) (gr := ([] : List va_W)) (gc := ([gO E b_o w262] : List va_W)) (g1 := ([gO E b_o w266] : List va_W)) (g2 := ([gO E b_o w266] : List va_W)) ⟨hx, hb, hml, hown, hts⟩ (mT_blame l hlt E X L b_o (x4) ((nI 0))  (w262) r265 w266 hr267) (vx_cwSW 3 hts (wsw_s q1131 q1132 q17 q1133) rfl rfl rfl hdS_L_blame (by rw [hR]; first | exact ⟨Nat.le_of_ble_eq_true rfl, Nat.le_of_ble_eq_true rfl⟩ | exact ⟨by show _ ≤ (5655 : Nat); omega, by show _ ≤ (33930 : Nat); omega⟩)) hK hN hX hL hP hD hS hA [] [0] [0] rfl rfl (by decide) (by decide) rfl (by decide) rfl hl.1 rfl (Nat.le_of_ble_eq_true rfl) dL_refused_848 (by rw [hR]; first | exact ⟨Nat.le_of_ble_eq_true rfl, Nat.le_of_ble_eq_true rfl⟩ | exact ⟨by show _ ≤ (5655 : Nat); omega, by show _ ≤ (33930 : Nat); omega⟩) (fun H locs hP hD hS => ?_)
                                                        refine W.eq (g2 := F0 m 851 ls [.int r265]) rfl ?_
                                                        refine lv_sipush (v := (-1001 : Int32)) hx hb dL_refused_851 (by decide) ?_
                                                        refine lv_icmp_ne (tgt := 986) hx hb dL_refused_854 (by decide) (fun c268 => ?_) (fun c268 => ?_)
                                                        · rw [if_neg c268] at h
                                                          exact L986 (x1) (w266) _ _ (by omega) (by omega) H locs ls hP hD hS (lv_sub hl [1, 2] rfl) h
                                                        · rw [if_pos c268] at h
                                                          refine lv_aload_n hx hb dL_refused_857 rfl (lv_at hl 1 rfl) ?_
                                                          refine lv_iconst (v := (nI 0)) hx hb dL_refused_858 (by decide) ?_
                                                          refine lv_iconst (v := (-1 : Int32)) hx hb dL_refused_859 (by decide) ?_
                                                          obtain ⟨⟨r269, w270⟩, hr271, h⟩ := ob h
                                                          dsimp only at h
                                                          refine px_SL (As := [.ref (b_o 0 0), .int (nI 0), .int (-1 : Int32)]) (rest := []) (gs := ([gO E b_o w266] : List va_W)) (gr := ([] : List va_W)) (gc := ([gO E b_o w266] : List va_W)) (g1 := ([gO E b_o w270] : List va_W)) (g2 := ([gO E b_o w270] : List va_W)) ⟨hx, hb, hml, hown, hts⟩ (mT_blame l hlt E X L b_o ((nI 0)) ((-1 : Int32))  (w266) r269 w270 hr271) (vx_cwSW 3 hts (wsw_s q1131 q1132 q17 q1133) rfl rfl rfl hdS_L_blame (by rw [hR]; first | exact ⟨Nat.le_of_ble_eq_true rfl, Nat.le_of_ble_eq_true rfl⟩ | exact ⟨by show _ ≤ (5655 : Nat); omega, by show _ ≤ (33930 : Nat); omega⟩)) hK hN hX hL hP hD hS hA [] [0] [0] rfl rfl (by decide) (by decide) rfl (by decide) rfl hl.1 rfl (Nat.le_of_ble_eq_true rfl) dL_refused_860 (by rw [hR]; first | exact ⟨Nat.le_of_ble_eq_true rfl, Nat.le_of_ble_eq_true rfl⟩ | exact ⟨by show _ ≤ (5655 : Nat); omega, by show _ ≤ (33930 : Nat); omega⟩) (fun H locs hP hD hS => ?_)
                                                          refine W.eq (g2 := F0 m 863 ls [.int r269]) rfl ?_
                                                          refine lv_sipush (v := (-1001 : Int32)) hx hb dL_refused_863 (by decide) ?_
                                                          refine lv_icmp_ne (tgt := 986) hx hb dL_refused_866 (by decide) (fun c272 => ?_) (fun c272 => ?_)
                                                          · rw [if_neg c272] at h
                                                            exact L986 (x1) (w270) _ _ (by omega) (by omega) H locs ls hP hD hS (lv_sub hl [1, 2] rfl) h
                                                          · rw [if_pos c272] at h
                                                            refine lv_aload_n hx hb dL_refused_869 rfl (lv_at hl 1 rfl) ?_
                                                            refine lv_iload_n hx hb dL_refused_870 rfl (lv_at hl 3 rfl) ?_
                                                            obtain ⟨⟨r273, w274⟩, hr275, h⟩ := ob h
                                                            dsimp only at h
                                                            refine px_SL (As := [.ref (b_o 0 0), .int x3]) (rest := []) (gs := ([gO E b_o w270] : List va_W)) (gr := ([] : List va_W)) (gc := ([gO E b_o w270] : List va_W)) (g1 := ([gO E b_o w274] : List va_W)) (g2 := ([gO E b_o w274] : List va_W)) ⟨hx, hb, hml, hown, hts⟩ (mT_taste l hlt E X L b_o (x3)  (w270) r273 w274 hr275) (vx_cwSW 2 hts (wsw_s q1016 q1017 q17 q1018) rfl rfl rfl hdS_L_taste (by rw [hR]; first | exact ⟨Nat.le_of_ble_eq_true rfl, Nat.le_of_ble_eq_true rfl⟩ | exact ⟨by show _ ≤ (5655 : Nat); omega, by show _ ≤ (33930 : Nat); omega⟩)) hK hN hX hL hP hD hS hA [] [0] [0] rfl rfl (by decide) (by decide) rfl (by decide) rfl hl.1 rfl (Nat.le_of_ble_eq_true rfl) dL_refused_871 (by rw [hR]; first | exact ⟨Nat.le_of_ble_eq_true rfl, Nat.le_of_ble_eq_true rfl⟩ | exact ⟨by show _ ≤ (5655 : Nat); omega, by show _ ≤ (33930 : Nat); omega⟩) (fun H locs hP hD hS => ?_)
                                                            refine W.eq (g2 := F0 m 874 ls [.float r273]) rfl ?_
                                                            refine lv_ldcf (v := 3296346112) hx hb hown (hts _ q1023) dL_refused_874 ?_
                                                            refine lv_fcmp hx hb dL_refused_876 ?_
                                                            refine lv_if_ne (tgt := 986) hx hb dL_refused_877 (by decide) (fun c276 => ?_) (fun c276 => ?_)
                                                            · rw [if_neg c276] at h
                                                              exact L986 (x1) (w274) _ _ (by omega) (by omega) H locs ls hP hD hS (lv_sub hl [1, 2] rfl) h
                                                            · rw [if_pos c276] at h
                                                              refine lv_aload_n hx hb dL_refused_880 rfl (lv_at hl 1 rfl) ?_
                                                              refine lv_iconst (v := (-1 : Int32)) hx hb dL_refused_881 (by decide) ?_
                                                              obtain ⟨⟨r277, w278⟩, hr279, h⟩ := ob h
                                                              dsimp only at h
                                                              refine px_SL (As := [.ref (b_o 0 0), .int (-1 : Int32)]) (rest := []) (gs := ([gO E b_o w274] : List va_W)) (gr := ([] : List va_W)) (gc := ([gO E b_o w274] : List va_W)) (g1 := ([gO E b_o w278] : List va_W)) (g2 := ([gO E b_o w278] : List va_W)) ⟨hx, hb, hml, hown, hts⟩ (mT_tasteBits l hlt E X L b_o ((-1 : Int32))  (w274) r277 w278 hr279) (vx_cwSW 2 hts (wsw_s q1005 q1006 q17 q1007) rfl rfl rfl hdS_L_tasteBits (by rw [hR]; first | exact ⟨Nat.le_of_ble_eq_true rfl, Nat.le_of_ble_eq_true rfl⟩ | exact ⟨by show _ ≤ (5655 : Nat); omega, by show _ ≤ (33930 : Nat); omega⟩)) hK hN hX hL hP hD hS hA [] [0] [0] rfl rfl (by decide) (by decide) rfl (by decide) rfl hl.1 rfl (Nat.le_of_ble_eq_true rfl) dL_refused_882 (by rw [hR]; first | exact ⟨Nat.le_of_ble_eq_true rfl, Nat.le_of_ble_eq_true rfl⟩ | exact ⟨by show _ ≤ (5655 : Nat); omega, by show _ ≤ (33930 : Nat); omega⟩) (fun H locs hP hD hS => ?_)
                                                              refine W.eq (g2 := F0 m 885 ls [.int r277]) rfl ?_
                                                              refine lv_sipush (v := (-1001 : Int32)) hx hb dL_refused_885 (by decide) ?_
                                                              refine lv_icmp_ne (tgt := 986) hx hb dL_refused_888 (by decide) (fun c280 => ?_) (fun c280 => ?_)
                                                              · rw [if_neg c280] at h
                                                                exact L986 (x1) (w278) _ _ (by omega) (by omega) H locs ls hP hD hS (lv_sub hl [1, 2] rfl) h
                                                              · rw [if_pos c280] at h
                                                                refine lv_aload_n hx hb dL_refused_891 rfl (lv_at hl 1 rfl) ?_
                                                                refine lv_iload hx hb dL_refused_892 (lv_at hl 4 rfl) ?_
                                                                obtain ⟨⟨r281, w282⟩, hr283, h⟩ := ob h
                                                                dsimp only at h
                                                                refine px_SL (As := [.ref (b_o 0 0), .int x4]) (rest := []) (gs := ([gO E b_o w278] : List va_W)) (gr := ([] : List va_W)) (gc := ([gO E b_o w278] : List va_W)) (g1 := ([gO E b_o w282] : List va_W)) (g2 := ([gO E b_o w282] : List va_W)) ⟨hx, hb, hml, hown, hts⟩ (mT_tastiest l hlt E X L b_o (x4)  (w278) r281 w282 hr283) (vx_cwSW 2 hts (wsw_s q1099 q1100 q17 q1101) rfl rfl rfl hdS_L_tastiest (by rw [hR]; first | exact ⟨Nat.le_of_ble_eq_true rfl, Nat.le_of_ble_eq_true rfl⟩ | exact ⟨by show _ ≤ (5655 : Nat); omega, by show _ ≤ (33930 : Nat); omega⟩)) hK hN hX hL hP hD hS hA [] [0] [0] rfl rfl (by decide) (by decide) rfl (by decide) rfl hl.1 rfl (Nat.le_of_ble_eq_true rfl) dL_refused_894 (by rw [hR]; first | exact ⟨Nat.le_of_ble_eq_true rfl, Nat.le_of_ble_eq_true rfl⟩ | exact ⟨by show _ ≤ (5655 : Nat); omega, by show _ ≤ (33930 : Nat); omega⟩) (fun H locs hP hD hS => ?_)
                                                                refine W.eq (g2 := F0 m 897 ls [.int r281]) rfl ?_
                                                                refine lv_sipush (v := (-1001 : Int32)) hx hb dL_refused_897 (by decide) ?_
                                                                refine lv_icmp_ne (tgt := 986) hx hb dL_refused_900 (by decide) (fun c284 => ?_) (fun c284 => ?_)
                                                                · rw [if_neg c284] at h
                                                                  exact L986 (x1) (w282) _ _ (by omega) (by omega) H locs ls hP hD hS (lv_sub hl [1, 2] rfl) h
                                                                · rw [if_pos c284] at h
                                                                  refine lv_aload_n hx hb dL_refused_903 rfl (lv_at hl 1 rfl) ?_
                                                                  refine lv_iconst (v := (nI 4)) hx hb dL_refused_904 (by decide) ?_
                                                                  obtain ⟨⟨r285, w286⟩, hr287, h⟩ := ob h
                                                                  dsimp only at h
                                                                  refine px_SL (As := [.ref (b_o 0 0), .int (nI 4)]) (rest := []) (gs := ([gO E b_o w282] : List va_W)) (gr := ([] : List va_W)) (gc := ([gO E b_o w282] : List va_W)) (g1 := ([gO E b_o w286] : List va_W)) (g2 := ([gO E b_o w286] : List va_W)) ⟨hx, hb, hml, hown, hts⟩ (mT_inBundle l hlt E X L b_o ((nI 4))  (w282) r285 w286 hr287) (vx_cwSW 2 hts (wsw_s q1142 q1143 q17 q1144) rfl rfl rfl hdS_L_inBundle (by rw [hR]; first | exact ⟨Nat.le_of_ble_eq_true rfl, Nat.le_of_ble_eq_true rfl⟩ | exact ⟨by show _ ≤ (5655 : Nat); omega, by show _ ≤ (33930 : Nat); omega⟩)) hK hN hX hL hP hD hS hA [] [0] [0] rfl rfl (by decide) (by decide) rfl (by decide) rfl hl.1 rfl (Nat.le_of_ble_eq_true rfl) dL_refused_905 (by rw [hR]; first | exact ⟨Nat.le_of_ble_eq_true rfl, Nat.le_of_ble_eq_true rfl⟩ | exact ⟨by show _ ≤ (5655 : Nat); omega, by show _ ≤ (33930 : Nat); omega⟩) (fun H locs hP hD hS => ?_)
                                                                  refine W.eq (g2 := F0 m 908 ls [.int r285]) rfl ?_
                                                                  refine lv_sipush (v := (-1001 : Int32)) hx hb dL_refused_908 (by decide) ?_
                                                                  refine lv_icmp_ne (tgt := 986) hx hb dL_refused_911 (by decide) (fun c288 => ?_) (fun c288 => ?_)
                                                                  · rw [if_neg c288] at h
                                                                    exact L986 (x1) (w286) _ _ (by omega) (by omega) H locs ls hP hD hS (lv_sub hl [1, 2] rfl) h
                                                                  · rw [if_pos c288] at h
                                                                    refine lv_aload_n hx hb dL_refused_914 rfl (lv_at hl 1 rfl) ?_
                                                                    refine lv_iconst (v := (-1 : Int32)) hx hb dL_refused_915 (by decide) ?_
                                                                    obtain ⟨⟨r289, w290⟩, hr291, h⟩ := ob h
                                                                    dsimp only at h
                                                                    refine px_SL (As := [.ref (b_o 0 0), .int (-1 : Int32)]) (rest := []) (gs := ([gO E b_o w286] : List va_W)) (gr := ([] : List va_W)) (gc := ([gO E b_o w286] : List va_W)) (g1 := ([gO E b_o w290] : List va_W)) (g2 := ([gO E b_o w290] : List va_W)) ⟨hx, hb, hml, hown, hts⟩ (mT_inBundle l hlt E X L b_o ((-1 : Int32))  (w286) r289 w290 hr291) (vx_cwSW 2 hts (wsw_s q1142 q1143 q17 q1144) rfl rfl rfl hdS_L_inBundle (by rw [hR]; first | exact ⟨Nat.le_of_ble_eq_true rfl, Nat.le_of_ble_eq_true rfl⟩ | exact ⟨by show _ ≤ (5655 : Nat); omega, by show _ ≤ (33930 : Nat); omega⟩)) hK hN hX hL hP hD hS hA [] [0] [0] rfl rfl (by decide) (by decide) rfl (by decide) rfl hl.1 rfl (Nat.le_of_ble_eq_true rfl) dL_refused_916 (by rw [hR]; first | exact ⟨Nat.le_of_ble_eq_true rfl, Nat.le_of_ble_eq_true rfl⟩ | exact ⟨by show _ ≤ (5655 : Nat); omega, by show _ ≤ (33930 : Nat); omega⟩) (fun H locs hP hD hS => ?_)
                                                                    refine W.eq (g2 := F0 m 919 ls [.int r289]) rfl ?_
                                                                    refine lv_sipush (v := (-1001 : Int32)) hx hb dL_refused_919 (by decide) ?_
                                                                    refine lv_icmp_ne (tgt := 986) hx hb dL_refused_922 (by decide) (fun c292 => ?_) (fun c292 => ?_)
                                                                    · rw [if_neg c292] at h
                                                                      exact L986 (x1) (w290) _ _ (by omega) (by omega) H locs ls hP hD hS (lv_sub hl [1, 2] rfl) h
                                                                    · rw [if_pos c292] at h
                                                                      refine lv_aload_n hx hb dL_refused_925 rfl (lv_at hl 1 rfl) ?_
                                                                      refine lv_iload_n hx hb dL_refused_926 rfl (lv_at hl 3 rfl) ?_
                                                                      obtain ⟨⟨r293, w294⟩, hr295, h⟩ := ob h
                                                                      dsimp only at h
                                                                      refine px_SL (As := [.ref (b_o 0 0), .int x3]) (rest := []) (gs := ([gO E b_o w290] : List va_W)) (gr := ([] : List va_W)) (gc := ([gO E b_o w290] : List va_W)) (g1 := ([gO E b_o w294] : List va_W)) (g2 := ([gO E b_o w294] : List va_W)) ⟨hx, hb, hml, hown, hts⟩ (mT_line l hlt E X L b_o (x3)  (w290) r293 w294 hr295) (vx_cwSW 2 hts (wsw_s q1058 q1059 q17 q1060) rfl rfl rfl hdS_L_line (by rw [hR]; first | exact ⟨Nat.le_of_ble_eq_true rfl, Nat.le_of_ble_eq_true rfl⟩ | exact ⟨by show _ ≤ (5655 : Nat); omega, by show _ ≤ (33930 : Nat); omega⟩)) hK hN hX hL hP hD hS hA [] [0] [0] rfl rfl (by decide) (by decide) rfl (by decide) rfl hl.1 rfl (Nat.le_of_ble_eq_true rfl) dL_refused_927 (by rw [hR]; first | exact ⟨Nat.le_of_ble_eq_true rfl, Nat.le_of_ble_eq_true rfl⟩ | exact ⟨by show _ ≤ (5655 : Nat); omega, by show _ ≤ (33930 : Nat); omega⟩) (fun H locs hP hD hS => ?_)
                                                                      refine W.eq (g2 := F0 m 930 ls [.int r293]) rfl ?_
                                                                      refine lv_sipush (v := (-1001 : Int32)) hx hb dL_refused_930 (by decide) ?_
                                                                      refine lv_icmp_ne (tgt := 986) hx hb dL_refused_933 (by decide) (fun c296 => ?_) (fun c296 => ?_)
                                                                      · rw [if_neg c296] at h
                                                                        exact L986 (x1) (w294) _ _ (by omega) (by omega) H locs ls hP hD hS (lv_sub hl [1, 2] rfl) h
                                                                      · rw [if_pos c296] at h
                                                                        refine lv_aload_n hx hb dL_refused_936 rfl (lv_at hl 1 rfl) ?_
                                                                        refine lv_iconst (v := (-1 : Int32)) hx hb dL_refused_937 (by decide) ?_
                                                                        obtain ⟨⟨r297, w298⟩, hr299, h⟩ := ob h
                                                                        dsimp only at h
                                                                        refine px_SL (As := [.ref (b_o 0 0), .int (-1 : Int32)]) (rest := []) (gs := ([gO E b_o w294] : List va_W)) (gr := ([] : List va_W)) (gc := ([gO E b_o w294] : List va_W)) (g1 := ([gO E b_o w298] : List va_W)) (g2 := ([gO E b_o w298] : List va_W)) ⟨hx, hb, hml, hown, hts⟩ (mT_character l hlt E X L b_o ((-1 : Int32))  (w294) r297 w298 hr299) (vx_cwSW 2 hts (wsw_s q1082 q1083 q17 q1084) rfl rfl rfl hdS_L_character (by rw [hR]; first | exact ⟨Nat.le_of_ble_eq_true rfl, Nat.le_of_ble_eq_true rfl⟩ | exact ⟨by show _ ≤ (5655 : Nat); omega, by show _ ≤ (33930 : Nat); omega⟩)) hK hN hX hL hP hD hS hA [] [0] [0] rfl rfl (by decide) (by decide) rfl (by decide) rfl hl.1 rfl (Nat.le_of_ble_eq_true rfl) dL_refused_938 (by rw [hR]; first | exact ⟨Nat.le_of_ble_eq_true rfl, Nat.le_of_ble_eq_true rfl⟩ | exact ⟨by show _ ≤ (5655 : Nat); omega, by show _ ≤ (33930 : Nat); omega⟩) (fun H locs hP hD hS => ?_)
                                                                        refine W.eq (g2 := F0 m 941 ls [.int r297]) rfl ?_
                                                                        refine lv_sipush (v := (-1001 : Int32)) hx hb dL_refused_941 (by decide) ?_
                                                                        refine lv_icmp_ne (tgt := 986) hx hb dL_refused_944 (by decide) (fun c300 => ?_) (fun c300 => ?_)
                                                                        · rw [if_neg c300] at h
                                                                          exact L986 (x1) (w298) _ _ (by omega) (by omega) H locs ls hP hD hS (lv_sub hl [1, 2] rfl) h
                                                                        · rw [if_pos c300] at h
                                                                          refine lv_aload_n hx hb dL_refused_947 rfl (lv_at hl 1 rfl) ?_
                                                                          refine lv_bipush (v := (nI 40)) hx hb dL_refused_948 (by decide) ?_
                                                                          obtain ⟨⟨r301, w302⟩, hr303, h⟩ := ob h
                                                                          dsimp only at h
                                                                          refine px_SL (As := [.ref (b_o 0 0), .int (nI 40)]) (rest := []) (gs := ([gO E b_o w298] : List va_W)) (gr := ([] : List va_W)) (gc := ([gO E b_o w298] : List va_W)) (g1 := ([gO E b_o w302] : List va_W)) (g2 := ([gO E b_o w302] : List va_W)) ⟨hx, hb, hml, hown, hts⟩ (mT_character l hlt E X L b_o ((nI 40))  (w298) r301 w302 hr303) (vx_cwSW 2 hts (wsw_s q1082 q1083 q17 q1084) rfl rfl rfl hdS_L_character (by rw [hR]; first | exact ⟨Nat.le_of_ble_eq_true rfl, Nat.le_of_ble_eq_true rfl⟩ | exact ⟨by show _ ≤ (5655 : Nat); omega, by show _ ≤ (33930 : Nat); omega⟩)) hK hN hX hL hP hD hS hA [] [0] [0] rfl rfl (by decide) (by decide) rfl (by decide) rfl hl.1 rfl (Nat.le_of_ble_eq_true rfl) dL_refused_950 (by rw [hR]; first | exact ⟨Nat.le_of_ble_eq_true rfl, Nat.le_of_ble_eq_true rfl⟩ | exact ⟨by show _ ≤ (5655 : Nat); omega, by show _ ≤ (33930 : Nat); omega⟩) (fun H locs hP hD hS => ?_)
                                                                          refine W.eq (g2 := F0 m 953 ls [.int r301]) rfl ?_
                                                                          refine lv_sipush (v := (-1001 : Int32)) hx hb dL_refused_953 (by decide) ?_
                                                                          refine lv_icmp_ne (tgt := 986) hx hb dL_refused_956 (by decide) (fun c304 => ?_) (fun c304 => ?_)
                                                                          · rw [if_neg c304] at h
                                                                            exact L986 (x1) (w302) _ _ (by omega) (by omega) H locs ls hP hD hS (lv_sub hl [1, 2] rfl) h
                                                                          · rw [if_pos c304] at h
                                                                            refine lv_aload_n hx hb dL_refused_959 rfl (lv_at hl 1 rfl) ?_
                                                                            refine lv_bipush (v := (nI 11)) hx hb dL_refused_960 (by decide) ?_
                                                                            obtain ⟨⟨r305, w306⟩, hr307, h⟩ := ob h
                                                                            dsimp only at h
                                                                            refine px_SL (As := [.ref (b_o 0 0), .int (nI 11)]) (rest := []) (gs := ([gO E b_o w302] : List va_W)) (gr := ([] : List va_W)) (gc := ([gO E b_o w302] : List va_W)) (g1 := ([gO E b_o w306] : List va_W)) (g2 := ([gO E b_o w306] : List va_W)) ⟨hx, hb, hml, hown, hts⟩ (mT_account l hlt E X L b_o ((nI 11))  (w302) r305 w306 hr307) (vx_cwSW 2 hts (wsw_s q848 q849 q17 q850) rfl rfl rfl hdS_L_account (by rw [hR]; first | exact ⟨Nat.le_of_ble_eq_true rfl, Nat.le_of_ble_eq_true rfl⟩ | exact ⟨by show _ ≤ (5655 : Nat); omega, by show _ ≤ (33930 : Nat); omega⟩)) hK hN hX hL hP hD hS hA [] [0] [0] rfl rfl (by decide) (by decide) rfl (by decide) rfl hl.1 rfl (Nat.le_of_ble_eq_true rfl) dL_refused_962 (by rw [hR]; first | exact ⟨Nat.le_of_ble_eq_true rfl, Nat.le_of_ble_eq_true rfl⟩ | exact ⟨by show _ ≤ (5655 : Nat); omega, by show _ ≤ (33930 : Nat); omega⟩) (fun H locs hP hD hS => ?_)
                                                                            refine W.eq (g2 := F0 m 965 ls [.int r305]) rfl ?_
                                                                            refine lv_sipush (v := (-1001 : Int32)) hx hb dL_refused_965 (by decide) ?_
                                                                            refine lv_icmp_ne (tgt := 986) hx hb dL_refused_968 (by decide) (fun c308 => ?_) (fun c308 => ?_)
                                                                            · rw [if_neg c308] at h
                                                                              exact L986 (x1) (w306) _ _ (by omega) (by omega) H locs ls hP hD hS (lv_sub hl [1, 2] rfl) h
                                                                            · rw [if_pos c308] at h
                                                                              refine lv_aload_n hx hb dL_refused_971 rfl (lv_at hl 1 rfl) ?_
                                                                              refine lv_iconst (v := (-1 : Int32)) hx hb dL_refused_972 (by decide) ?_
                                                                              obtain ⟨⟨r309, w310⟩, hr311, h⟩ := ob h
                                                                              dsimp only at h
                                                                              refine px_SL (As := [.ref (b_o 0 0), .int (-1 : Int32)]) (rest := []) (gs := ([gO E b_o w306] : List va_W)) (gr := ([] : List va_W)) (gc := ([gO E b_o w306] : List va_W)) (g1 := ([gO E b_o w310] : List va_W)) (g2 := ([gO E b_o w310] : List va_W)) ⟨hx, hb, hml, hown, hts⟩ (mT_account l hlt E X L b_o ((-1 : Int32))  (w306) r309 w310 hr311) (vx_cwSW 2 hts (wsw_s q848 q849 q17 q850) rfl rfl rfl hdS_L_account (by rw [hR]; first | exact ⟨Nat.le_of_ble_eq_true rfl, Nat.le_of_ble_eq_true rfl⟩ | exact ⟨by show _ ≤ (5655 : Nat); omega, by show _ ≤ (33930 : Nat); omega⟩)) hK hN hX hL hP hD hS hA [] [0] [0] rfl rfl (by decide) (by decide) rfl (by decide) rfl hl.1 rfl (Nat.le_of_ble_eq_true rfl) dL_refused_973 (by rw [hR]; first | exact ⟨Nat.le_of_ble_eq_true rfl, Nat.le_of_ble_eq_true rfl⟩ | exact ⟨by show _ ≤ (5655 : Nat); omega, by show _ ≤ (33930 : Nat); omega⟩) (fun H locs hP hD hS => ?_)
                                                                              refine W.eq (g2 := F0 m 976 ls [.int r309]) rfl ?_
                                                                              refine lv_sipush (v := (-1001 : Int32)) hx hb dL_refused_976 (by decide) ?_
                                                                              refine lv_icmp_ne (tgt := 986) hx hb dL_refused_979 (by decide) (fun c312 => ?_) (fun c312 => ?_)
                                                                              · rw [if_neg c312] at h
                                                                                exact L986 (x1) (w310) _ _ (by omega) (by omega) H locs ls hP hD hS (lv_sub hl [1, 2] rfl) h
                                                                              · rw [if_pos c312] at h
                                                                                refine lv_iconst (v := (nI 1)) hx hb dL_refused_982 (by decide) ?_
                                                                                refine lv_goto (tgt := 987) hx hb dL_refused_983 (by decide) ?_
                                                                                exact L987 (x1) ((nI 1)) (w310) _ _ (by omega) (by omega) H locs ls hP hD hS (lv_sub hl [1, 2] rfl) h
  have L508 : ∀  (x1 : Int64) (x3 : Int32) (x4 : Int32) (τ_o : TO) (cc ss : Nat), cc + 0 * 0 + 2971 ≤ 5655 → ss + 0 * 0 + 17826 ≤ 33930 → ∀ (H : Heap) (locs : List Loc) (ls : Array Slot), va_P E.1 vwCl ([gO E b_o τ_o] : List va_W).flatten H → va_D A ([gO E b_o τ_o] : List va_W).flatten → va_S A s.heap H locs → lv_has ls 8 [(0, .ref (b_o 0 0)), (1, .long x1), (3, .int x3), (4, .int x4)] → fL_refused_L508 x1 x3 x4 τ_o = some (r, z_o_τ) → W p l e R s m args below meth c H locs cc ss Q (F0 m 508 ls []) := by
    intro x1 x3 x4 τ_o cc ss hcc hss H locs ls hP hD hS hl h
    unfold fL_refused_L508 at h
    refine lv_iconst (v := (nI 0)) hx hb dL_refused_508 (by decide) ?_
    exact L509 (x1) (x3) (x4) ((nI 0)) (τ_o) _ _ (by omega) (by omega) H locs ls hP hD hS (lv_sub hl [0, 1, 2, 3] rfl) h
  intro H locs hP hS
  refine lv_aload_n hx hb dL_refused_0 rfl (lv_at hl 0 rfl) ?_
  obtain ⟨⟨r1, w2⟩, hr3, h⟩ := ob h
  dsimp only at h
  refine px_SZ (As := [.ref (b_o 0 0)]) (rest := []) (gs := ([gO E b_o τ_o] : List va_W)) (gr := ([] : List va_W)) (gc := ([gO E b_o τ_o] : List va_W)) (g1 := ([gO E b_o w2] : List va_W)) (g2 := ([gO E b_o w2] : List va_W)) ⟨hx, hb, hml, hown, hts⟩ (mL_asks l hlt E X L b_o   (τ_o) r1 w2 hr3) (va_cwS 1 hts (ws_s q942 q943 q17 q944) rfl rfl rfl hdS_L_asks (by rw [hR]; first | exact ⟨Nat.le_of_ble_eq_true rfl, Nat.le_of_ble_eq_true rfl⟩ | exact ⟨by show _ ≤ (5655 : Nat); omega, by show _ ≤ (33930 : Nat); omega⟩)) hK hN hX hL hP hD hS hA [] [0] [0] rfl rfl (by decide) (by decide) rfl (by decide) rfl hl.1 rfl (Nat.le_of_ble_eq_true rfl) dL_refused_1 (by rw [hR]; first | exact ⟨Nat.le_of_ble_eq_true rfl, Nat.le_of_ble_eq_true rfl⟩ | exact ⟨by show _ ≤ (5655 : Nat); omega, by show _ ≤ (33930 : Nat); omega⟩) (fun H locs hP hD hS => ?_)
  refine W.eq (g2 := F0 m 4 ls [.long r1]) rfl ?_
  refine lv_lstore_n (lv' := [(1, .long r1), (0, .ref (b_o 0 0))]) hx hb dL_refused_4 rfl hl (by decide) rfl (fun ls hl => ?_)
  refine lv_aload_n hx hb dL_refused_5 rfl (lv_at hl 1 rfl) ?_
  refine lv_iconst (v := (nI 0)) hx hb dL_refused_6 (by decide) ?_
  obtain ⟨⟨r4, w5⟩, hr6, h⟩ := ob h
  dsimp only at h
  refine px_SL (As := [.ref (b_o 0 0), .int (nI 0)]) (rest := []) (gs := ([gO E b_o w2] : List va_W)) (gr := ([] : List va_W)) (gc := ([gO E b_o w2] : List va_W)) (g1 := ([gO E b_o w5] : List va_W)) (g2 := ([gO E b_o w5] : List va_W)) ⟨hx, hb, hml, hown, hts⟩ (mT_account l hlt E X L b_o ((nI 0))  (w2) r4 w5 hr6) (vx_cwSW 2 hts (wsw_s q848 q849 q17 q850) rfl rfl rfl hdS_L_account (by rw [hR]; first | exact ⟨Nat.le_of_ble_eq_true rfl, Nat.le_of_ble_eq_true rfl⟩ | exact ⟨by show _ ≤ (5655 : Nat); omega, by show _ ≤ (33930 : Nat); omega⟩)) hK hN hX hL hP hD hS hA [] [0] [0] rfl rfl (by decide) (by decide) rfl (by decide) rfl hl.1 rfl (Nat.le_of_ble_eq_true rfl) dL_refused_7 (by rw [hR]; first | exact ⟨Nat.le_of_ble_eq_true rfl, Nat.le_of_ble_eq_true rfl⟩ | exact ⟨by show _ ≤ (5655 : Nat); omega, by show _ ≤ (33930 : Nat); omega⟩) (fun H locs hP hD hS => ?_)
  refine W.eq (g2 := F0 m 10 ls [.int r4]) rfl ?_
  refine lv_istore_n (lv' := [(3, .int r4), (1, .long r1), (0, .ref (b_o 0 0))]) hx hb dL_refused_10 rfl hl (by decide) rfl (fun ls hl => ?_)
  refine lv_aload_n hx hb dL_refused_11 rfl (lv_at hl 2 rfl) ?_
  refine lv_iconst (v := (nI 1)) hx hb dL_refused_12 (by decide) ?_
  obtain ⟨⟨r7, w8⟩, hr9, h⟩ := ob h
  dsimp only at h
  refine px_SL (As := [.ref (b_o 0 0), .int (nI 1)]) (rest := []) (gs := ([gO E b_o w5] : List va_W)) (gr := ([] : List va_W)) (gc := ([gO E b_o w5] : List va_W)) (g1 := ([gO E b_o w8] : List va_W)) (g2 := ([gO E b_o w8] : List va_W)) ⟨hx, hb, hml, hown, hts⟩ (mT_account l hlt E X L b_o ((nI 1))  (w5) r7 w8 hr9) (vx_cwSW 2 hts (wsw_s q848 q849 q17 q850) rfl rfl rfl hdS_L_account (by rw [hR]; first | exact ⟨Nat.le_of_ble_eq_true rfl, Nat.le_of_ble_eq_true rfl⟩ | exact ⟨by show _ ≤ (5655 : Nat); omega, by show _ ≤ (33930 : Nat); omega⟩)) hK hN hX hL hP hD hS hA [] [0] [0] rfl rfl (by decide) (by decide) rfl (by decide) rfl hl.1 rfl (Nat.le_of_ble_eq_true rfl) dL_refused_13 (by rw [hR]; first | exact ⟨Nat.le_of_ble_eq_true rfl, Nat.le_of_ble_eq_true rfl⟩ | exact ⟨by show _ ≤ (5655 : Nat); omega, by show _ ≤ (33930 : Nat); omega⟩) (fun H locs hP hD hS => ?_)
  refine W.eq (g2 := F0 m 16 ls [.int r7]) rfl ?_
  refine lv_istore (lv' := [(4, .int r7), (3, .int r4), (1, .long r1), (0, .ref (b_o 0 0))]) hx hb dL_refused_16 hl (by decide) rfl (fun ls hl => ?_)
  refine lv_aload_n hx hb dL_refused_18 rfl (lv_at hl 3 rfl) ?_
  refine lv_iconst (v := (nI 0)) hx hb dL_refused_19 (by decide) ?_
  obtain ⟨⟨r10, w11⟩, hr12, h⟩ := ob h
  dsimp only at h
  refine px_SL (As := [.ref (b_o 0 0), .int (nI 0)]) (rest := []) (gs := ([gO E b_o w8] : List va_W)) (gr := ([] : List va_W)) (gc := ([gO E b_o w8] : List va_W)) (g1 := ([gO E b_o w11] : List va_W)) (g2 := ([gO E b_o w11] : List va_W)) ⟨hx, hb, hml, hown, hts⟩ (mT_tip l hlt E X L b_o ((nI 0))  (w8) r10 w11 hr12) (vx_cwSW 2 hts (wsw_s q494 q495 q17 q496) rfl rfl rfl hdS_L_tip (by rw [hR]; first | exact ⟨Nat.le_of_ble_eq_true rfl, Nat.le_of_ble_eq_true rfl⟩ | exact ⟨by show _ ≤ (5655 : Nat); omega, by show _ ≤ (33930 : Nat); omega⟩)) hK hN hX hL hP hD hS hA [] [0] [0] rfl rfl (by decide) (by decide) rfl (by decide) rfl hl.1 rfl (Nat.le_of_ble_eq_true rfl) dL_refused_20 (by rw [hR]; first | exact ⟨Nat.le_of_ble_eq_true rfl, Nat.le_of_ble_eq_true rfl⟩ | exact ⟨by show _ ≤ (5655 : Nat); omega, by show _ ≤ (33930 : Nat); omega⟩) (fun H locs hP hD hS => ?_)
  refine W.eq (g2 := F0 m 23 ls [.int r10]) rfl ?_
  refine lv_istore (lv' := [(5, .int r10), (4, .int r7), (3, .int r4), (1, .long r1), (0, .ref (b_o 0 0))]) hx hb dL_refused_23 hl (by decide) rfl (fun ls hl => ?_)
  refine lv_aload_n hx hb dL_refused_25 rfl (lv_at hl 4 rfl) ?_
  refine lv_iload hx hb dL_refused_26 (lv_at hl 0 rfl) ?_
  refine lv_iconst (v := (nI 2)) hx hb dL_refused_28 (by decide) ?_
  obtain ⟨⟨r13, w14⟩, hr15, h⟩ := ob h
  dsimp only at h
  refine px_SL (As := [.ref (b_o 0 0), .int r10, .int (nI 2)]) (rest := []) (gs := ([gO E b_o w11] : List va_W)) (gr := ([] : List va_W)) (gc := ([gO E b_o w11] : List va_W)) (g1 := ([gO E b_o w14] : List va_W)) (g2 := ([gO E b_o w14] : List va_W)) ⟨hx, hb, hml, hown, hts⟩ (mT_amount l hlt E X L b_o (r10) ((nI 2))  (w11) r13 w14 hr15) (vx_cwSW 3 hts (wsw_s q998 q999 q17 q1000) rfl rfl rfl hdS_L_amount (by rw [hR]; first | exact ⟨Nat.le_of_ble_eq_true rfl, Nat.le_of_ble_eq_true rfl⟩ | exact ⟨by show _ ≤ (5655 : Nat); omega, by show _ ≤ (33930 : Nat); omega⟩)) hK hN hX hL hP hD hS hA [] [0] [0] rfl rfl (by decide) (by decide) rfl (by decide) rfl hl.1 rfl (Nat.le_of_ble_eq_true rfl) dL_refused_29 (by rw [hR]; first | exact ⟨Nat.le_of_ble_eq_true rfl, Nat.le_of_ble_eq_true rfl⟩ | exact ⟨by show _ ≤ (5655 : Nat); omega, by show _ ≤ (33930 : Nat); omega⟩) (fun H locs hP hD hS => ?_)
  refine W.eq (g2 := F0 m 32 ls [.int r13]) rfl ?_
  refine lv_istore (lv' := [(6, .int r13), (5, .int r10), (4, .int r7), (3, .int r4), (1, .long r1), (0, .ref (b_o 0 0))]) hx hb dL_refused_32 hl (by decide) rfl (fun ls hl => ?_)
  refine lv_aload_n hx hb dL_refused_34 rfl (lv_at hl 5 rfl) ?_
  refine lv_iload hx hb dL_refused_35 (lv_at hl 2 rfl) ?_
  refine lv_iconst (v := (nI 0)) hx hb dL_refused_37 (by decide) ?_
  refine lv_bipush (v := (nI 100)) hx hb dL_refused_38 (by decide) ?_
  obtain ⟨⟨r16, w17⟩, hr18, h⟩ := ob h
  dsimp only at h
  refine px_SL (As := [.ref (b_o 0 0), .int r7, .int (nI 0), .int (nI 100)]) (rest := []) (gs := ([gO E b_o w14] : List va_W)) (gr := ([] : List va_W)) (gc := ([gO E b_o w14] : List va_W)) (g1 := ([gO E b_o w17] : List va_W)) (g2 := ([gO E b_o w17] : List va_W)) ⟨hx, hb, hml, hown, hts⟩ (mT_edit l hlt E X L b_o (r7) ((nI 0)) ((nI 100))  (w14) r16 w17 hr18) (vx_cwSW 4 hts (wsw_s q270 q271 q17 q272) rfl rfl rfl hdS_L_edit (by rw [hR]; first | exact ⟨Nat.le_of_ble_eq_true rfl, Nat.le_of_ble_eq_true rfl⟩ | exact ⟨by show _ ≤ (5655 : Nat); omega, by show _ ≤ (33930 : Nat); omega⟩)) hK hN hX hL hP hD hS hA [] [0] [0] rfl rfl (by decide) (by decide) rfl (by decide) rfl hl.1 rfl (Nat.le_of_ble_eq_true rfl) dL_refused_40 (by rw [hR]; first | exact ⟨Nat.le_of_ble_eq_true rfl, Nat.le_of_ble_eq_true rfl⟩ | exact ⟨by show _ ≤ (5655 : Nat); omega, by show _ ≤ (33930 : Nat); omega⟩) (fun H locs hP hD hS => ?_)
  refine W.eq (g2 := F0 m 43 ls [.int r16]) rfl ?_
  refine lv_sipush (v := (-1001 : Int32)) hx hb dL_refused_43 (by decide) ?_
  refine lv_icmp_ne (tgt := 508) hx hb dL_refused_46 (by decide) (fun c19 => ?_) (fun c19 => ?_)
  · rw [if_neg c19] at h
    exact L508 (r1) (r4) (r7) (w17) _ _ (by omega) (by omega) H locs ls hP hD hS (lv_sub hl [5, 4, 3, 2] rfl) h
  · rw [if_pos c19] at h
    refine lv_aload_n hx hb dL_refused_49 rfl (lv_at hl 5 rfl) ?_
    refine lv_iconst (v := (nI 0)) hx hb dL_refused_50 (by decide) ?_
    refine lv_bipush (v := (nI 6)) hx hb dL_refused_51 (by decide) ?_
    refine lv_bipush (v := (nI 100)) hx hb dL_refused_53 (by decide) ?_
    obtain ⟨⟨r20, w21⟩, hr22, h⟩ := ob h
    dsimp only at h
    refine px_SL (As := [.ref (b_o 0 0), .int (nI 0), .int (nI 6), .int (nI 100)]) (rest := []) (gs := ([gO E b_o w17] : List va_W)) (gr := ([] : List va_W)) (gc := ([gO E b_o w17] : List va_W)) (g1 := ([gO E b_o w21] : List va_W)) (g2 := ([gO E b_o w21] : List va_W)) ⟨hx, hb, hml, hown, hts⟩ (mT_edit l hlt E X L b_o ((nI 0)) ((nI 6)) ((nI 100))  (w17) r20 w21 hr22) (vx_cwSW 4 hts (wsw_s q270 q271 q17 q272) rfl rfl rfl hdS_L_edit (by rw [hR]; first | exact ⟨Nat.le_of_ble_eq_true rfl, Nat.le_of_ble_eq_true rfl⟩ | exact ⟨by show _ ≤ (5655 : Nat); omega, by show _ ≤ (33930 : Nat); omega⟩)) hK hN hX hL hP hD hS hA [] [0] [0] rfl rfl (by decide) (by decide) rfl (by decide) rfl hl.1 rfl (Nat.le_of_ble_eq_true rfl) dL_refused_55 (by rw [hR]; first | exact ⟨Nat.le_of_ble_eq_true rfl, Nat.le_of_ble_eq_true rfl⟩ | exact ⟨by show _ ≤ (5655 : Nat); omega, by show _ ≤ (33930 : Nat); omega⟩) (fun H locs hP hD hS => ?_)
    refine W.eq (g2 := F0 m 58 ls [.int r20]) rfl ?_
    refine lv_sipush (v := (-1001 : Int32)) hx hb dL_refused_58 (by decide) ?_
    refine lv_icmp_ne (tgt := 508) hx hb dL_refused_61 (by decide) (fun c23 => ?_) (fun c23 => ?_)
    · rw [if_neg c23] at h
      exact L508 (r1) (r4) (r7) (w21) _ _ (by omega) (by omega) H locs ls hP hD hS (lv_sub hl [5, 4, 3, 2] rfl) h
    · rw [if_pos c23] at h
      refine lv_aload_n hx hb dL_refused_64 rfl (lv_at hl 5 rfl) ?_
      refine lv_iconst (v := (nI 0)) hx hb dL_refused_65 (by decide) ?_
      refine lv_iconst (v := (-1 : Int32)) hx hb dL_refused_66 (by decide) ?_
      refine lv_iconst (v := (nI 5)) hx hb dL_refused_67 (by decide) ?_
      obtain ⟨⟨r24, w25⟩, hr26, h⟩ := ob h
      dsimp only at h
      refine px_SL (As := [.ref (b_o 0 0), .int (nI 0), .int (-1 : Int32), .int (nI 5)]) (rest := []) (gs := ([gO E b_o w21] : List va_W)) (gr := ([] : List va_W)) (gc := ([gO E b_o w21] : List va_W)) (g1 := ([gO E b_o w25] : List va_W)) (g2 := ([gO E b_o w25] : List va_W)) ⟨hx, hb, hml, hown, hts⟩ (mT_edit l hlt E X L b_o ((nI 0)) ((-1 : Int32)) ((nI 5))  (w21) r24 w25 hr26) (vx_cwSW 4 hts (wsw_s q270 q271 q17 q272) rfl rfl rfl hdS_L_edit (by rw [hR]; first | exact ⟨Nat.le_of_ble_eq_true rfl, Nat.le_of_ble_eq_true rfl⟩ | exact ⟨by show _ ≤ (5655 : Nat); omega, by show _ ≤ (33930 : Nat); omega⟩)) hK hN hX hL hP hD hS hA [] [0] [0] rfl rfl (by decide) (by decide) rfl (by decide) rfl hl.1 rfl (Nat.le_of_ble_eq_true rfl) dL_refused_68 (by rw [hR]; first | exact ⟨Nat.le_of_ble_eq_true rfl, Nat.le_of_ble_eq_true rfl⟩ | exact ⟨by show _ ≤ (5655 : Nat); omega, by show _ ≤ (33930 : Nat); omega⟩) (fun H locs hP hD hS => ?_)
      refine W.eq (g2 := F0 m 71 ls [.int r24]) rfl ?_
      refine lv_sipush (v := (-1001 : Int32)) hx hb dL_refused_71 (by decide) ?_
      refine lv_icmp_ne (tgt := 508) hx hb dL_refused_74 (by decide) (fun c27 => ?_) (fun c27 => ?_)
      · rw [if_neg c27] at h
        exact L508 (r1) (r4) (r7) (w25) _ _ (by omega) (by omega) H locs ls hP hD hS (lv_sub hl [5, 4, 3, 2] rfl) h
      · rw [if_pos c27] at h
        refine lv_aload_n hx hb dL_refused_77 rfl (lv_at hl 5 rfl) ?_
        refine lv_iconst (v := (nI 0)) hx hb dL_refused_78 (by decide) ?_
        refine lv_iconst (v := (nI 0)) hx hb dL_refused_79 (by decide) ?_
        refine lv_bipush (v := (nI 100)) hx hb dL_refused_80 (by decide) ?_
        obtain ⟨⟨r28, w29⟩, hr30, h⟩ := ob h
        dsimp only at h
        refine px_SL (As := [.ref (b_o 0 0), .int (nI 0), .int (nI 0), .int (nI 100)]) (rest := []) (gs := ([gO E b_o w25] : List va_W)) (gr := ([] : List va_W)) (gc := ([gO E b_o w25] : List va_W)) (g1 := ([gO E b_o w29] : List va_W)) (g2 := ([gO E b_o w29] : List va_W)) ⟨hx, hb, hml, hown, hts⟩ (mT_edit l hlt E X L b_o ((nI 0)) ((nI 0)) ((nI 100))  (w25) r28 w29 hr30) (vx_cwSW 4 hts (wsw_s q270 q271 q17 q272) rfl rfl rfl hdS_L_edit (by rw [hR]; first | exact ⟨Nat.le_of_ble_eq_true rfl, Nat.le_of_ble_eq_true rfl⟩ | exact ⟨by show _ ≤ (5655 : Nat); omega, by show _ ≤ (33930 : Nat); omega⟩)) hK hN hX hL hP hD hS hA [] [0] [0] rfl rfl (by decide) (by decide) rfl (by decide) rfl hl.1 rfl (Nat.le_of_ble_eq_true rfl) dL_refused_82 (by rw [hR]; first | exact ⟨Nat.le_of_ble_eq_true rfl, Nat.le_of_ble_eq_true rfl⟩ | exact ⟨by show _ ≤ (5655 : Nat); omega, by show _ ≤ (33930 : Nat); omega⟩) (fun H locs hP hD hS => ?_)
        refine W.eq (g2 := F0 m 85 ls [.int r28]) rfl ?_
        refine lv_sipush (v := (-1002 : Int32)) hx hb dL_refused_85 (by decide) ?_
        refine lv_icmp_ne (tgt := 508) hx hb dL_refused_88 (by decide) (fun c31 => ?_) (fun c31 => ?_)
        · rw [if_neg c31] at h
          exact L508 (r1) (r4) (r7) (w29) _ _ (by omega) (by omega) H locs ls hP hD hS (lv_sub hl [5, 4, 3, 2] rfl) h
        · rw [if_pos c31] at h
          refine lv_aload_n hx hb dL_refused_91 rfl (lv_at hl 5 rfl) ?_
          refine lv_iconst (v := (nI 0)) hx hb dL_refused_92 (by decide) ?_
          refine lv_iconst (v := (nI 0)) hx hb dL_refused_93 (by decide) ?_
          refine lv_iconst (v := (-1 : Int32)) hx hb dL_refused_94 (by decide) ?_
          obtain ⟨⟨r32, w33⟩, hr34, h⟩ := ob h
          dsimp only at h
          refine px_SL (As := [.ref (b_o 0 0), .int (nI 0), .int (nI 0), .int (-1 : Int32)]) (rest := []) (gs := ([gO E b_o w29] : List va_W)) (gr := ([] : List va_W)) (gc := ([gO E b_o w29] : List va_W)) (g1 := ([gO E b_o w33] : List va_W)) (g2 := ([gO E b_o w33] : List va_W)) ⟨hx, hb, hml, hown, hts⟩ (mT_edit l hlt E X L b_o ((nI 0)) ((nI 0)) ((-1 : Int32))  (w29) r32 w33 hr34) (vx_cwSW 4 hts (wsw_s q270 q271 q17 q272) rfl rfl rfl hdS_L_edit (by rw [hR]; first | exact ⟨Nat.le_of_ble_eq_true rfl, Nat.le_of_ble_eq_true rfl⟩ | exact ⟨by show _ ≤ (5655 : Nat); omega, by show _ ≤ (33930 : Nat); omega⟩)) hK hN hX hL hP hD hS hA [] [0] [0] rfl rfl (by decide) (by decide) rfl (by decide) rfl hl.1 rfl (Nat.le_of_ble_eq_true rfl) dL_refused_95 (by rw [hR]; first | exact ⟨Nat.le_of_ble_eq_true rfl, Nat.le_of_ble_eq_true rfl⟩ | exact ⟨by show _ ≤ (5655 : Nat); omega, by show _ ≤ (33930 : Nat); omega⟩) (fun H locs hP hD hS => ?_)
          refine W.eq (g2 := F0 m 98 ls [.int r32]) rfl ?_
          refine lv_sipush (v := (-1002 : Int32)) hx hb dL_refused_98 (by decide) ?_
          refine lv_icmp_ne (tgt := 508) hx hb dL_refused_101 (by decide) (fun c35 => ?_) (fun c35 => ?_)
          · rw [if_neg c35] at h
            exact L508 (r1) (r4) (r7) (w33) _ _ (by omega) (by omega) H locs ls hP hD hS (lv_sub hl [5, 4, 3, 2] rfl) h
          · rw [if_pos c35] at h
            refine lv_aload_n hx hb dL_refused_104 rfl (lv_at hl 5 rfl) ?_
            refine lv_iconst (v := (nI 0)) hx hb dL_refused_105 (by decide) ?_
            refine lv_iconst (v := (nI 2)) hx hb dL_refused_106 (by decide) ?_
            refine lv_iload hx hb dL_refused_107 (lv_at hl 0 rfl) ?_
            obtain ⟨⟨r36, w37⟩, hr38, h⟩ := ob h
            dsimp only at h
            refine px_SL (As := [.ref (b_o 0 0), .int (nI 0), .int (nI 2), .int r13]) (rest := []) (gs := ([gO E b_o w33] : List va_W)) (gr := ([] : List va_W)) (gc := ([gO E b_o w33] : List va_W)) (g1 := ([gO E b_o w37] : List va_W)) (g2 := ([gO E b_o w37] : List va_W)) ⟨hx, hb, hml, hown, hts⟩ (mT_edit l hlt E X L b_o ((nI 0)) ((nI 2)) (r13)  (w33) r36 w37 hr38) (vx_cwSW 4 hts (wsw_s q270 q271 q17 q272) rfl rfl rfl hdS_L_edit (by rw [hR]; first | exact ⟨Nat.le_of_ble_eq_true rfl, Nat.le_of_ble_eq_true rfl⟩ | exact ⟨by show _ ≤ (5655 : Nat); omega, by show _ ≤ (33930 : Nat); omega⟩)) hK hN hX hL hP hD hS hA [] [0] [0] rfl rfl (by decide) (by decide) rfl (by decide) rfl hl.1 rfl (Nat.le_of_ble_eq_true rfl) dL_refused_109 (by rw [hR]; first | exact ⟨Nat.le_of_ble_eq_true rfl, Nat.le_of_ble_eq_true rfl⟩ | exact ⟨by show _ ≤ (5655 : Nat); omega, by show _ ≤ (33930 : Nat); omega⟩) (fun H locs hP hD hS => ?_)
            refine W.eq (g2 := F0 m 112 ls [.int r36]) rfl ?_
            refine lv_sipush (v := (-1003 : Int32)) hx hb dL_refused_112 (by decide) ?_
            refine lv_icmp_ne (tgt := 508) hx hb dL_refused_115 (by decide) (fun c39 => ?_) (fun c39 => ?_)
            · rw [if_neg c39] at h
              exact L508 (r1) (r4) (r7) (w37) _ _ (by omega) (by omega) H locs ls hP hD hS (lv_sub hl [5, 4, 3, 2] rfl) h
            · rw [if_pos c39] at h
              refine lv_aload_n hx hb dL_refused_118 rfl (lv_at hl 5 rfl) ?_
              refine lv_iconst (v := (nI 2)) hx hb dL_refused_119 (by decide) ?_
              refine lv_iload hx hb dL_refused_120 (lv_at hl 0 rfl) ?_
              obtain ⟨⟨r40, w41⟩, hr42, h⟩ := ob h
              dsimp only at h
              refine px_SZ (As := [.ref (b_o 0 0), .int (nI 2), .int r13]) (rest := []) (gs := ([gO E b_o w37] : List va_W)) (gr := ([] : List va_W)) (gc := ([gO E b_o w37] : List va_W)) (g1 := ([gO E b_o w41] : List va_W)) (g2 := ([gO E b_o w41] : List va_W)) ⟨hx, hb, hml, hown, hts⟩ (mL_is l hlt E X L b_o ((nI 2)) (r13)  (w37) r40 w41 hr42) (va_cwS 3 hts (ws_s q909 q910 q17 q911) rfl rfl rfl hdS_L_is (by rw [hR]; first | exact ⟨Nat.le_of_ble_eq_true rfl, Nat.le_of_ble_eq_true rfl⟩ | exact ⟨by show _ ≤ (5655 : Nat); omega, by show _ ≤ (33930 : Nat); omega⟩)) hK hN hX hL hP hD hS hA [] [0] [0] rfl rfl (by decide) (by decide) rfl (by decide) rfl hl.1 rfl (Nat.le_of_ble_eq_true rfl) dL_refused_122 (by rw [hR]; first | exact ⟨Nat.le_of_ble_eq_true rfl, Nat.le_of_ble_eq_true rfl⟩ | exact ⟨by show _ ≤ (5655 : Nat); omega, by show _ ≤ (33930 : Nat); omega⟩) (fun H locs hP hD hS => ?_)
              refine W.eq (g2 := F0 m 125 ls [.int (b2i r40)]) rfl ?_
              refine lv_if_eq (tgt := 508) hx hb dL_refused_125 (by decide) (fun c43 => ?_) (fun c43 => ?_)
              · rw [if_pos c43] at h
                exact L508 (r1) (r4) (r7) (w41) _ _ (by omega) (by omega) H locs ls hP hD hS (lv_sub hl [5, 4, 3, 2] rfl) h
              · rw [if_neg c43] at h
                refine lv_aload_n hx hb dL_refused_128 rfl (lv_at hl 5 rfl) ?_
                refine lv_iload hx hb dL_refused_129 (lv_at hl 2 rfl) ?_
                obtain ⟨⟨r44, w45⟩, hr46, h⟩ := ob h
                dsimp only at h
                refine px_SL (As := [.ref (b_o 0 0), .int r7]) (rest := []) (gs := ([gO E b_o w41] : List va_W)) (gr := ([] : List va_W)) (gc := ([gO E b_o w41] : List va_W)) (g1 := ([gO E b_o w45] : List va_W)) (g2 := ([gO E b_o w45] : List va_W)) ⟨hx, hb, hml, hown, hts⟩ (mT_fork l hlt E X L b_o (r7)  (w41) r44 w45 hr46) (vx_cwSW 2 hts (wsw_s q456 q457 q17 q458) rfl rfl rfl hdS_L_fork (by rw [hR]; first | exact ⟨Nat.le_of_ble_eq_true rfl, Nat.le_of_ble_eq_true rfl⟩ | exact ⟨by show _ ≤ (5655 : Nat); omega, by show _ ≤ (33930 : Nat); omega⟩)) hK hN hX hL hP hD hS hA [] [0] [0] rfl rfl (by decide) (by decide) rfl (by decide) rfl hl.1 rfl (Nat.le_of_ble_eq_true rfl) dL_refused_131 (by rw [hR]; first | exact ⟨Nat.le_of_ble_eq_true rfl, Nat.le_of_ble_eq_true rfl⟩ | exact ⟨by show _ ≤ (5655 : Nat); omega, by show _ ≤ (33930 : Nat); omega⟩) (fun H locs hP hD hS => ?_)
                refine W.eq (g2 := F0 m 134 ls [.int r44]) rfl ?_
                refine lv_sipush (v := (-1001 : Int32)) hx hb dL_refused_134 (by decide) ?_
                refine lv_icmp_ne (tgt := 508) hx hb dL_refused_137 (by decide) (fun c47 => ?_) (fun c47 => ?_)
                · rw [if_neg c47] at h
                  exact L508 (r1) (r4) (r7) (w45) _ _ (by omega) (by omega) H locs ls hP hD hS (lv_sub hl [5, 4, 3, 2] rfl) h
                · rw [if_pos c47] at h
                  refine lv_aload_n hx hb dL_refused_140 rfl (lv_at hl 5 rfl) ?_
                  refine lv_iconst (v := (-1 : Int32)) hx hb dL_refused_141 (by decide) ?_
                  obtain ⟨⟨r48, w49⟩, hr50, h⟩ := ob h
                  dsimp only at h
                  refine px_SL (As := [.ref (b_o 0 0), .int (-1 : Int32)]) (rest := []) (gs := ([gO E b_o w45] : List va_W)) (gr := ([] : List va_W)) (gc := ([gO E b_o w45] : List va_W)) (g1 := ([gO E b_o w49] : List va_W)) (g2 := ([gO E b_o w49] : List va_W)) ⟨hx, hb, hml, hown, hts⟩ (mT_fork l hlt E X L b_o ((-1 : Int32))  (w45) r48 w49 hr50) (vx_cwSW 2 hts (wsw_s q456 q457 q17 q458) rfl rfl rfl hdS_L_fork (by rw [hR]; first | exact ⟨Nat.le_of_ble_eq_true rfl, Nat.le_of_ble_eq_true rfl⟩ | exact ⟨by show _ ≤ (5655 : Nat); omega, by show _ ≤ (33930 : Nat); omega⟩)) hK hN hX hL hP hD hS hA [] [0] [0] rfl rfl (by decide) (by decide) rfl (by decide) rfl hl.1 rfl (Nat.le_of_ble_eq_true rfl) dL_refused_142 (by rw [hR]; first | exact ⟨Nat.le_of_ble_eq_true rfl, Nat.le_of_ble_eq_true rfl⟩ | exact ⟨by show _ ≤ (5655 : Nat); omega, by show _ ≤ (33930 : Nat); omega⟩) (fun H locs hP hD hS => ?_)
                  refine W.eq (g2 := F0 m 145 ls [.int r48]) rfl ?_
                  refine lv_sipush (v := (-1001 : Int32)) hx hb dL_refused_145 (by decide) ?_
                  refine lv_icmp_ne (tgt := 508) hx hb dL_refused_148 (by decide) (fun c51 => ?_) (fun c51 => ?_)
                  · rw [if_neg c51] at h
                    exact L508 (r1) (r4) (r7) (w49) _ _ (by omega) (by omega) H locs ls hP hD hS (lv_sub hl [5, 4, 3, 2] rfl) h
                  · rw [if_pos c51] at h
                    refine lv_aload_n hx hb dL_refused_151 rfl (lv_at hl 5 rfl) ?_
                    refine lv_iload hx hb dL_refused_152 (lv_at hl 2 rfl) ?_
                    refine lv_iconst (v := (nI 0)) hx hb dL_refused_154 (by decide) ?_
                    obtain ⟨⟨r52, w53⟩, hr54, h⟩ := ob h
                    dsimp only at h
                    refine px_SL (As := [.ref (b_o 0 0), .int r7, .int (nI 0)]) (rest := []) (gs := ([gO E b_o w49] : List va_W)) (gr := ([] : List va_W)) (gc := ([gO E b_o w49] : List va_W)) (g1 := ([gO E b_o w53] : List va_W)) (g2 := ([gO E b_o w53] : List va_W)) ⟨hx, hb, hml, hown, hts⟩ (mT_reset l hlt E X L b_o (r7) ((nI 0))  (w49) r52 w53 hr54) (vx_cwSW 3 hts (wsw_s q475 q476 q17 q477) rfl rfl rfl hdS_L_reset (by rw [hR]; first | exact ⟨Nat.le_of_ble_eq_true rfl, Nat.le_of_ble_eq_true rfl⟩ | exact ⟨by show _ ≤ (5655 : Nat); omega, by show _ ≤ (33930 : Nat); omega⟩)) hK hN hX hL hP hD hS hA [] [0] [0] rfl rfl (by decide) (by decide) rfl (by decide) rfl hl.1 rfl (Nat.le_of_ble_eq_true rfl) dL_refused_155 (by rw [hR]; first | exact ⟨Nat.le_of_ble_eq_true rfl, Nat.le_of_ble_eq_true rfl⟩ | exact ⟨by show _ ≤ (5655 : Nat); omega, by show _ ≤ (33930 : Nat); omega⟩) (fun H locs hP hD hS => ?_)
                    refine W.eq (g2 := F0 m 158 ls [.int r52]) rfl ?_
                    refine lv_sipush (v := (-1001 : Int32)) hx hb dL_refused_158 (by decide) ?_
                    refine lv_icmp_ne (tgt := 508) hx hb dL_refused_161 (by decide) (fun c55 => ?_) (fun c55 => ?_)
                    · rw [if_neg c55] at h
                      exact L508 (r1) (r4) (r7) (w53) _ _ (by omega) (by omega) H locs ls hP hD hS (lv_sub hl [5, 4, 3, 2] rfl) h
                    · rw [if_pos c55] at h
                      refine lv_aload_n hx hb dL_refused_164 rfl (lv_at hl 5 rfl) ?_
                      refine lv_iconst (v := (nI 0)) hx hb dL_refused_165 (by decide) ?_
                      refine lv_iload_n hx hb dL_refused_166 rfl (lv_at hl 3 rfl) ?_
                      obtain ⟨⟨r56, w57⟩, hr58, h⟩ := ob h
                      dsimp only at h
                      refine px_SL (As := [.ref (b_o 0 0), .int (nI 0), .int r4]) (rest := []) (gs := ([gO E b_o w53] : List va_W)) (gr := ([] : List va_W)) (gc := ([gO E b_o w53] : List va_W)) (g1 := ([gO E b_o w57] : List va_W)) (g2 := ([gO E b_o w57] : List va_W)) ⟨hx, hb, hml, hown, hts⟩ (mT_reset l hlt E X L b_o ((nI 0)) (r4)  (w53) r56 w57 hr58) (vx_cwSW 3 hts (wsw_s q475 q476 q17 q477) rfl rfl rfl hdS_L_reset (by rw [hR]; first | exact ⟨Nat.le_of_ble_eq_true rfl, Nat.le_of_ble_eq_true rfl⟩ | exact ⟨by show _ ≤ (5655 : Nat); omega, by show _ ≤ (33930 : Nat); omega⟩)) hK hN hX hL hP hD hS hA [] [0] [0] rfl rfl (by decide) (by decide) rfl (by decide) rfl hl.1 rfl (Nat.le_of_ble_eq_true rfl) dL_refused_167 (by rw [hR]; first | exact ⟨Nat.le_of_ble_eq_true rfl, Nat.le_of_ble_eq_true rfl⟩ | exact ⟨by show _ ≤ (5655 : Nat); omega, by show _ ≤ (33930 : Nat); omega⟩) (fun H locs hP hD hS => ?_)
                      refine W.eq (g2 := F0 m 170 ls [.int r56]) rfl ?_
                      refine lv_sipush (v := (-1001 : Int32)) hx hb dL_refused_170 (by decide) ?_
                      refine lv_icmp_ne (tgt := 508) hx hb dL_refused_173 (by decide) (fun c59 => ?_) (fun c59 => ?_)
                      · rw [if_neg c59] at h
                        exact L508 (r1) (r4) (r7) (w57) _ _ (by omega) (by omega) H locs ls hP hD hS (lv_sub hl [5, 4, 3, 2] rfl) h
                      · rw [if_pos c59] at h
                        refine lv_aload_n hx hb dL_refused_176 rfl (lv_at hl 5 rfl) ?_
                        refine lv_iconst (v := (nI 0)) hx hb dL_refused_177 (by decide) ?_
                        refine lv_iload hx hb dL_refused_178 (lv_at hl 1 rfl) ?_
                        obtain ⟨⟨r60, w61⟩, hr62, h⟩ := ob h
                        dsimp only at h
                        refine px_SL (As := [.ref (b_o 0 0), .int (nI 0), .int r10]) (rest := []) (gs := ([gO E b_o w57] : List va_W)) (gr := ([] : List va_W)) (gc := ([gO E b_o w57] : List va_W)) (g1 := ([gO E b_o w61] : List va_W)) (g2 := ([gO E b_o w61] : List va_W)) ⟨hx, hb, hml, hown, hts⟩ (mT_reset l hlt E X L b_o ((nI 0)) (r10)  (w57) r60 w61 hr62) (vx_cwSW 3 hts (wsw_s q475 q476 q17 q477) rfl rfl rfl hdS_L_reset (by rw [hR]; first | exact ⟨Nat.le_of_ble_eq_true rfl, Nat.le_of_ble_eq_true rfl⟩ | exact ⟨by show _ ≤ (5655 : Nat); omega, by show _ ≤ (33930 : Nat); omega⟩)) hK hN hX hL hP hD hS hA [] [0] [0] rfl rfl (by decide) (by decide) rfl (by decide) rfl hl.1 rfl (Nat.le_of_ble_eq_true rfl) dL_refused_180 (by rw [hR]; first | exact ⟨Nat.le_of_ble_eq_true rfl, Nat.le_of_ble_eq_true rfl⟩ | exact ⟨by show _ ≤ (5655 : Nat); omega, by show _ ≤ (33930 : Nat); omega⟩) (fun H locs hP hD hS => ?_)
                        refine W.eq (g2 := F0 m 183 ls [.int r60]) rfl ?_
                        refine lv_sipush (v := (-1002 : Int32)) hx hb dL_refused_183 (by decide) ?_
                        refine lv_icmp_ne (tgt := 508) hx hb dL_refused_186 (by decide) (fun c63 => ?_) (fun c63 => ?_)
                        · rw [if_neg c63] at h
                          exact L508 (r1) (r4) (r7) (w61) _ _ (by omega) (by omega) H locs ls hP hD hS (lv_sub hl [5, 4, 3, 2] rfl) h
                        · rw [if_pos c63] at h
                          refine lv_aload_n hx hb dL_refused_189 rfl (lv_at hl 5 rfl) ?_
                          refine lv_iconst (v := (nI 3)) hx hb dL_refused_190 (by decide) ?_
                          refine lv_iload hx hb dL_refused_191 (lv_at hl 1 rfl) ?_
                          obtain ⟨⟨r64, w65⟩, hr66, h⟩ := ob h
                          dsimp only at h
                          refine px_SZ (As := [.ref (b_o 0 0), .int (nI 3), .int r10]) (rest := []) (gs := ([gO E b_o w61] : List va_W)) (gr := ([] : List va_W)) (gc := ([gO E b_o w61] : List va_W)) (g1 := ([gO E b_o w65] : List va_W)) (g2 := ([gO E b_o w65] : List va_W)) ⟨hx, hb, hml, hown, hts⟩ (mL_is l hlt E X L b_o ((nI 3)) (r10)  (w61) r64 w65 hr66) (va_cwS 3 hts (ws_s q909 q910 q17 q911) rfl rfl rfl hdS_L_is (by rw [hR]; first | exact ⟨Nat.le_of_ble_eq_true rfl, Nat.le_of_ble_eq_true rfl⟩ | exact ⟨by show _ ≤ (5655 : Nat); omega, by show _ ≤ (33930 : Nat); omega⟩)) hK hN hX hL hP hD hS hA [] [0] [0] rfl rfl (by decide) (by decide) rfl (by decide) rfl hl.1 rfl (Nat.le_of_ble_eq_true rfl) dL_refused_193 (by rw [hR]; first | exact ⟨Nat.le_of_ble_eq_true rfl, Nat.le_of_ble_eq_true rfl⟩ | exact ⟨by show _ ≤ (5655 : Nat); omega, by show _ ≤ (33930 : Nat); omega⟩) (fun H locs hP hD hS => ?_)
                          refine W.eq (g2 := F0 m 196 ls [.int (b2i r64)]) rfl ?_
                          refine lv_if_eq (tgt := 508) hx hb dL_refused_196 (by decide) (fun c67 => ?_) (fun c67 => ?_)
                          · rw [if_pos c67] at h
                            exact L508 (r1) (r4) (r7) (w65) _ _ (by omega) (by omega) H locs ls hP hD hS (lv_sub hl [5, 4, 3, 2] rfl) h
                          · rw [if_neg c67] at h
                            refine lv_aload_n hx hb dL_refused_199 rfl (lv_at hl 5 rfl) ?_
                            refine lv_iload hx hb dL_refused_200 (lv_at hl 2 rfl) ?_
                            refine lv_iconst (v := (nI 0)) hx hb dL_refused_202 (by decide) ?_
                            refine lv_bipush (v := (nI 9)) hx hb dL_refused_203 (by decide) ?_
                            obtain ⟨⟨r68, w69⟩, hr70, h⟩ := ob h
                            dsimp only at h
                            refine px_SL (As := [.ref (b_o 0 0), .int r7, .int (nI 0), .int (nI 9)]) (rest := []) (gs := ([gO E b_o w65] : List va_W)) (gr := ([] : List va_W)) (gc := ([gO E b_o w65] : List va_W)) (g1 := ([gO E b_o w69] : List va_W)) (g2 := ([gO E b_o w69] : List va_W)) ⟨hx, hb, hml, hown, hts⟩ (mT_merge l hlt E X L b_o (r7) ((nI 0)) ((nI 9))  (w65) r68 w69 hr70) (vx_cwSW 4 hts (wsw_s q548 q549 q17 q550) rfl rfl rfl hdS_L_merge (by rw [hR]; first | exact ⟨Nat.le_of_ble_eq_true rfl, Nat.le_of_ble_eq_true rfl⟩ | exact ⟨by show _ ≤ (5655 : Nat); omega, by show _ ≤ (33930 : Nat); omega⟩)) hK hN hX hL hP hD hS hA [] [0] [0] rfl rfl (by decide) (by decide) rfl (by decide) rfl hl.1 rfl (Nat.le_of_ble_eq_true rfl) dL_refused_205 (by rw [hR]; first | exact ⟨Nat.le_of_ble_eq_true rfl, Nat.le_of_ble_eq_true rfl⟩ | exact ⟨by show _ ≤ (5655 : Nat); omega, by show _ ≤ (33930 : Nat); omega⟩) (fun H locs hP hD hS => ?_)
                            refine W.eq (g2 := F0 m 208 ls [.int r68]) rfl ?_
                            refine lv_sipush (v := (-1001 : Int32)) hx hb dL_refused_208 (by decide) ?_
                            refine lv_icmp_ne (tgt := 508) hx hb dL_refused_211 (by decide) (fun c71 => ?_) (fun c71 => ?_)
                            · rw [if_neg c71] at h
                              exact L508 (r1) (r4) (r7) (w69) _ _ (by omega) (by omega) H locs ls hP hD hS (lv_sub hl [5, 4, 3, 2] rfl) h
                            · rw [if_pos c71] at h
                              refine lv_aload_n hx hb dL_refused_214 rfl (lv_at hl 5 rfl) ?_
                              refine lv_iconst (v := (nI 0)) hx hb dL_refused_215 (by decide) ?_
                              refine lv_iconst (v := (-1 : Int32)) hx hb dL_refused_216 (by decide) ?_
                              refine lv_bipush (v := (nI 9)) hx hb dL_refused_217 (by decide) ?_
                              obtain ⟨⟨r72, w73⟩, hr74, h⟩ := ob h
                              dsimp only at h
                              refine px_SL (As := [.ref (b_o 0 0), .int (nI 0), .int (-1 : Int32), .int (nI 9)]) (rest := []) (gs := ([gO E b_o w69] : List va_W)) (gr := ([] : List va_W)) (gc := ([gO E b_o w69] : List va_W)) (g1 := ([gO E b_o w73] : List va_W)) (g2 := ([gO E b_o w73] : List va_W)) ⟨hx, hb, hml, hown, hts⟩ (mT_merge l hlt E X L b_o ((nI 0)) ((-1 : Int32)) ((nI 9))  (w69) r72 w73 hr74) (vx_cwSW 4 hts (wsw_s q548 q549 q17 q550) rfl rfl rfl hdS_L_merge (by rw [hR]; first | exact ⟨Nat.le_of_ble_eq_true rfl, Nat.le_of_ble_eq_true rfl⟩ | exact ⟨by show _ ≤ (5655 : Nat); omega, by show _ ≤ (33930 : Nat); omega⟩)) hK hN hX hL hP hD hS hA [] [0] [0] rfl rfl (by decide) (by decide) rfl (by decide) rfl hl.1 rfl (Nat.le_of_ble_eq_true rfl) dL_refused_219 (by rw [hR]; first | exact ⟨Nat.le_of_ble_eq_true rfl, Nat.le_of_ble_eq_true rfl⟩ | exact ⟨by show _ ≤ (5655 : Nat); omega, by show _ ≤ (33930 : Nat); omega⟩) (fun H locs hP hD hS => ?_)
                              refine W.eq (g2 := F0 m 222 ls [.int r72]) rfl ?_
                              refine lv_sipush (v := (-1001 : Int32)) hx hb dL_refused_222 (by decide) ?_
                              refine lv_icmp_ne (tgt := 508) hx hb dL_refused_225 (by decide) (fun c75 => ?_) (fun c75 => ?_)
                              · rw [if_neg c75] at h
                                exact L508 (r1) (r4) (r7) (w73) _ _ (by omega) (by omega) H locs ls hP hD hS (lv_sub hl [5, 4, 3, 2] rfl) h
                              · rw [if_pos c75] at h
                                refine lv_aload_n hx hb dL_refused_228 rfl (lv_at hl 5 rfl) ?_
                                refine lv_iconst (v := (nI 0)) hx hb dL_refused_229 (by decide) ?_
                                refine lv_iconst (v := (nI 0)) hx hb dL_refused_230 (by decide) ?_
                                refine lv_iconst (v := (nI 4)) hx hb dL_refused_231 (by decide) ?_
                                obtain ⟨⟨r76, w77⟩, hr78, h⟩ := ob h
                                dsimp only at h
                                refine px_SL (As := [.ref (b_o 0 0), .int (nI 0), .int (nI 0), .int (nI 4)]) (rest := []) (gs := ([gO E b_o w73] : List va_W)) (gr := ([] : List va_W)) (gc := ([gO E b_o w73] : List va_W)) (g1 := ([gO E b_o w77] : List va_W)) (g2 := ([gO E b_o w77] : List va_W)) ⟨hx, hb, hml, hown, hts⟩ (mT_merge l hlt E X L b_o ((nI 0)) ((nI 0)) ((nI 4))  (w73) r76 w77 hr78) (vx_cwSW 4 hts (wsw_s q548 q549 q17 q550) rfl rfl rfl hdS_L_merge (by rw [hR]; first | exact ⟨Nat.le_of_ble_eq_true rfl, Nat.le_of_ble_eq_true rfl⟩ | exact ⟨by show _ ≤ (5655 : Nat); omega, by show _ ≤ (33930 : Nat); omega⟩)) hK hN hX hL hP hD hS hA [] [0] [0] rfl rfl (by decide) (by decide) rfl (by decide) rfl hl.1 rfl (Nat.le_of_ble_eq_true rfl) dL_refused_232 (by rw [hR]; first | exact ⟨Nat.le_of_ble_eq_true rfl, Nat.le_of_ble_eq_true rfl⟩ | exact ⟨by show _ ≤ (5655 : Nat); omega, by show _ ≤ (33930 : Nat); omega⟩) (fun H locs hP hD hS => ?_)
                                refine W.eq (g2 := F0 m 235 ls [.int r76]) rfl ?_
                                refine lv_sipush (v := (-1002 : Int32)) hx hb dL_refused_235 (by decide) ?_
                                refine lv_icmp_ne (tgt := 508) hx hb dL_refused_238 (by decide) (fun c79 => ?_) (fun c79 => ?_)
                                · rw [if_neg c79] at h
                                  exact L508 (r1) (r4) (r7) (w77) _ _ (by omega) (by omega) H locs ls hP hD hS (lv_sub hl [5, 4, 3, 2] rfl) h
                                · rw [if_pos c79] at h
                                  refine lv_aload_n hx hb dL_refused_241 rfl (lv_at hl 5 rfl) ?_
                                  refine lv_iconst (v := (nI 0)) hx hb dL_refused_242 (by decide) ?_
                                  refine lv_iconst (v := (nI 0)) hx hb dL_refused_243 (by decide) ?_
                                  refine lv_iconst (v := (-1 : Int32)) hx hb dL_refused_244 (by decide) ?_
                                  obtain ⟨⟨r80, w81⟩, hr82, h⟩ := ob h
                                  dsimp only at h
                                  refine px_SL (As := [.ref (b_o 0 0), .int (nI 0), .int (nI 0), .int (-1 : Int32)]) (rest := []) (gs := ([gO E b_o w77] : List va_W)) (gr := ([] : List va_W)) (gc := ([gO E b_o w77] : List va_W)) (g1 := ([gO E b_o w81] : List va_W)) (g2 := ([gO E b_o w81] : List va_W)) ⟨hx, hb, hml, hown, hts⟩ (mT_merge l hlt E X L b_o ((nI 0)) ((nI 0)) ((-1 : Int32))  (w77) r80 w81 hr82) (vx_cwSW 4 hts (wsw_s q548 q549 q17 q550) rfl rfl rfl hdS_L_merge (by rw [hR]; first | exact ⟨Nat.le_of_ble_eq_true rfl, Nat.le_of_ble_eq_true rfl⟩ | exact ⟨by show _ ≤ (5655 : Nat); omega, by show _ ≤ (33930 : Nat); omega⟩)) hK hN hX hL hP hD hS hA [] [0] [0] rfl rfl (by decide) (by decide) rfl (by decide) rfl hl.1 rfl (Nat.le_of_ble_eq_true rfl) dL_refused_245 (by rw [hR]; first | exact ⟨Nat.le_of_ble_eq_true rfl, Nat.le_of_ble_eq_true rfl⟩ | exact ⟨by show _ ≤ (5655 : Nat); omega, by show _ ≤ (33930 : Nat); omega⟩) (fun H locs hP hD hS => ?_)
                                  refine W.eq (g2 := F0 m 248 ls [.int r80]) rfl ?_
                                  refine lv_sipush (v := (-1002 : Int32)) hx hb dL_refused_248 (by decide) ?_
                                  refine lv_icmp_ne (tgt := 508) hx hb dL_refused_251 (by decide) (fun c83 => ?_) (fun c83 => ?_)
                                  · rw [if_neg c83] at h
                                    exact L508 (r1) (r4) (r7) (w81) _ _ (by omega) (by omega) H locs ls hP hD hS (lv_sub hl [5, 4, 3, 2] rfl) h
                                  · rw [if_pos c83] at h
                                    refine lv_aload_n hx hb dL_refused_254 rfl (lv_at hl 5 rfl) ?_
                                    refine lv_iconst (v := (nI 0)) hx hb dL_refused_255 (by decide) ?_
                                    refine lv_iconst (v := (nI 0)) hx hb dL_refused_256 (by decide) ?_
                                    refine lv_iconst (v := (nI 0)) hx hb dL_refused_257 (by decide) ?_
                                    obtain ⟨⟨r84, w85⟩, hr86, h⟩ := ob h
                                    dsimp only at h
                                    refine px_SL (As := [.ref (b_o 0 0), .int (nI 0), .int (nI 0), .int (nI 0)]) (rest := []) (gs := ([gO E b_o w81] : List va_W)) (gr := ([] : List va_W)) (gc := ([gO E b_o w81] : List va_W)) (g1 := ([gO E b_o w85] : List va_W)) (g2 := ([gO E b_o w85] : List va_W)) ⟨hx, hb, hml, hown, hts⟩ (mT_merge l hlt E X L b_o ((nI 0)) ((nI 0)) ((nI 0))  (w81) r84 w85 hr86) (vx_cwSW 4 hts (wsw_s q548 q549 q17 q550) rfl rfl rfl hdS_L_merge (by rw [hR]; first | exact ⟨Nat.le_of_ble_eq_true rfl, Nat.le_of_ble_eq_true rfl⟩ | exact ⟨by show _ ≤ (5655 : Nat); omega, by show _ ≤ (33930 : Nat); omega⟩)) hK hN hX hL hP hD hS hA [] [0] [0] rfl rfl (by decide) (by decide) rfl (by decide) rfl hl.1 rfl (Nat.le_of_ble_eq_true rfl) dL_refused_258 (by rw [hR]; first | exact ⟨Nat.le_of_ble_eq_true rfl, Nat.le_of_ble_eq_true rfl⟩ | exact ⟨by show _ ≤ (5655 : Nat); omega, by show _ ≤ (33930 : Nat); omega⟩) (fun H locs hP hD hS => ?_)
                                    refine W.eq (g2 := F0 m 261 ls [.int r84]) rfl ?_
                                    refine lv_sipush (v := (-1003 : Int32)) hx hb dL_refused_261 (by decide) ?_
                                    refine lv_icmp_ne (tgt := 508) hx hb dL_refused_264 (by decide) (fun c87 => ?_) (fun c87 => ?_)
                                    · rw [if_neg c87] at h
                                      exact L508 (r1) (r4) (r7) (w85) _ _ (by omega) (by omega) H locs ls hP hD hS (lv_sub hl [5, 4, 3, 2] rfl) h
                                    · rw [if_pos c87] at h
                                      refine lv_aload_n hx hb dL_refused_267 rfl (lv_at hl 5 rfl) ?_
                                      refine lv_iconst (v := (nI 4)) hx hb dL_refused_268 (by decide) ?_
                                      refine lv_iload hx hb dL_refused_269 (lv_at hl 1 rfl) ?_
                                      obtain ⟨⟨r88, w89⟩, hr90, h⟩ := ob h
                                      dsimp only at h
                                      refine px_SZ (As := [.ref (b_o 0 0), .int (nI 4), .int r10]) (rest := []) (gs := ([gO E b_o w85] : List va_W)) (gr := ([] : List va_W)) (gc := ([gO E b_o w85] : List va_W)) (g1 := ([gO E b_o w89] : List va_W)) (g2 := ([gO E b_o w89] : List va_W)) ⟨hx, hb, hml, hown, hts⟩ (mL_is l hlt E X L b_o ((nI 4)) (r10)  (w85) r88 w89 hr90) (va_cwS 3 hts (ws_s q909 q910 q17 q911) rfl rfl rfl hdS_L_is (by rw [hR]; first | exact ⟨Nat.le_of_ble_eq_true rfl, Nat.le_of_ble_eq_true rfl⟩ | exact ⟨by show _ ≤ (5655 : Nat); omega, by show _ ≤ (33930 : Nat); omega⟩)) hK hN hX hL hP hD hS hA [] [0] [0] rfl rfl (by decide) (by decide) rfl (by decide) rfl hl.1 rfl (Nat.le_of_ble_eq_true rfl) dL_refused_271 (by rw [hR]; first | exact ⟨Nat.le_of_ble_eq_true rfl, Nat.le_of_ble_eq_true rfl⟩ | exact ⟨by show _ ≤ (5655 : Nat); omega, by show _ ≤ (33930 : Nat); omega⟩) (fun H locs hP hD hS => ?_)
                                      refine W.eq (g2 := F0 m 274 ls [.int (b2i r88)]) rfl ?_
                                      refine lv_if_eq (tgt := 508) hx hb dL_refused_274 (by decide) (fun c91 => ?_) (fun c91 => ?_)
                                      · rw [if_pos c91] at h
                                        exact L508 (r1) (r4) (r7) (w89) _ _ (by omega) (by omega) H locs ls hP hD hS (lv_sub hl [5, 4, 3, 2] rfl) h
                                      · rw [if_neg c91] at h
                                        refine lv_aload_n hx hb dL_refused_277 rfl (lv_at hl 5 rfl) ?_
                                        refine lv_iload hx hb dL_refused_278 (lv_at hl 2 rfl) ?_
                                        refine lv_iconst (v := (nI 0)) hx hb dL_refused_280 (by decide) ?_
                                        refine lv_bipush (v := (nI 9)) hx hb dL_refused_281 (by decide) ?_
                                        obtain ⟨⟨r92, w93⟩, hr94, h⟩ := ob h
                                        dsimp only at h
                                        refine px_SL (As := [.ref (b_o 0 0), .int r7, .int (nI 0), .int (nI 9)]) (rest := []) (gs := ([gO E b_o w89] : List va_W)) (gr := ([] : List va_W)) (gc := ([gO E b_o w89] : List va_W)) (g1 := ([gO E b_o w93] : List va_W)) (g2 := ([gO E b_o w93] : List va_W)) ⟨hx, hb, hml, hown, hts⟩ (mT_pick l hlt E X L b_o (r7) ((nI 0)) ((nI 9))  (w89) r92 w93 hr94) (vx_cwSW 4 hts (wsw_s q934 q935 q17 q936) rfl rfl rfl hdS_L_pick (by rw [hR]; first | exact ⟨Nat.le_of_ble_eq_true rfl, Nat.le_of_ble_eq_true rfl⟩ | exact ⟨by show _ ≤ (5655 : Nat); omega, by show _ ≤ (33930 : Nat); omega⟩)) hK hN hX hL hP hD hS hA [] [0] [0] rfl rfl (by decide) (by decide) rfl (by decide) rfl hl.1 rfl (Nat.le_of_ble_eq_true rfl) dL_refused_283 (by rw [hR]; first | exact ⟨Nat.le_of_ble_eq_true rfl, Nat.le_of_ble_eq_true rfl⟩ | exact ⟨by show _ ≤ (5655 : Nat); omega, by show _ ≤ (33930 : Nat); omega⟩) (fun H locs hP hD hS => ?_)
                                        refine W.eq (g2 := F0 m 286 ls [.int r92]) rfl ?_
                                        refine lv_sipush (v := (-1001 : Int32)) hx hb dL_refused_286 (by decide) ?_
                                        refine lv_icmp_ne (tgt := 508) hx hb dL_refused_289 (by decide) (fun c95 => ?_) (fun c95 => ?_)
                                        · rw [if_neg c95] at h
                                          exact L508 (r1) (r4) (r7) (w93) _ _ (by omega) (by omega) H locs ls hP hD hS (lv_sub hl [5, 4, 3, 2] rfl) h
                                        · rw [if_pos c95] at h
                                          refine lv_aload_n hx hb dL_refused_292 rfl (lv_at hl 5 rfl) ?_
                                          refine lv_iconst (v := (nI 0)) hx hb dL_refused_293 (by decide) ?_
                                          refine lv_iload_n hx hb dL_refused_294 rfl (lv_at hl 3 rfl) ?_
                                          refine lv_bipush (v := (nI 9)) hx hb dL_refused_295 (by decide) ?_
                                          obtain ⟨⟨r96, w97⟩, hr98, h⟩ := ob h
                                          dsimp only at h
                                          refine px_SL (As := [.ref (b_o 0 0), .int (nI 0), .int r4, .int (nI 9)]) (rest := []) (gs := ([gO E b_o w93] : List va_W)) (gr := ([] : List va_W)) (gc := ([gO E b_o w93] : List va_W)) (g1 := ([gO E b_o w97] : List va_W)) (g2 := ([gO E b_o w97] : List va_W)) ⟨hx, hb, hml, hown, hts⟩ (mT_pick l hlt E X L b_o ((nI 0)) (r4) ((nI 9))  (w93) r96 w97 hr98) (vx_cwSW 4 hts (wsw_s q934 q935 q17 q936) rfl rfl rfl hdS_L_pick (by rw [hR]; first | exact ⟨Nat.le_of_ble_eq_true rfl, Nat.le_of_ble_eq_true rfl⟩ | exact ⟨by show _ ≤ (5655 : Nat); omega, by show _ ≤ (33930 : Nat); omega⟩)) hK hN hX hL hP hD hS hA [] [0] [0] rfl rfl (by decide) (by decide) rfl (by decide) rfl hl.1 rfl (Nat.le_of_ble_eq_true rfl) dL_refused_297 (by rw [hR]; first | exact ⟨Nat.le_of_ble_eq_true rfl, Nat.le_of_ble_eq_true rfl⟩ | exact ⟨by show _ ≤ (5655 : Nat); omega, by show _ ≤ (33930 : Nat); omega⟩) (fun H locs hP hD hS => ?_)
                                          refine W.eq (g2 := F0 m 300 ls [.int r96]) rfl ?_
                                          refine lv_sipush (v := (-1001 : Int32)) hx hb dL_refused_300 (by decide) ?_
                                          refine lv_icmp_ne (tgt := 508) hx hb dL_refused_303 (by decide) (fun c99 => ?_) (fun c99 => ?_)
                                          · rw [if_neg c99] at h
                                            exact L508 (r1) (r4) (r7) (w97) _ _ (by omega) (by omega) H locs ls hP hD hS (lv_sub hl [5, 4, 3, 2] rfl) h
                                          · rw [if_pos c99] at h
                                            refine lv_aload_n hx hb dL_refused_306 rfl (lv_at hl 5 rfl) ?_
                                            refine lv_iconst (v := (nI 0)) hx hb dL_refused_307 (by decide) ?_
                                            refine lv_iconst (v := (nI 0)) hx hb dL_refused_308 (by decide) ?_
                                            refine lv_iconst (v := (nI 4)) hx hb dL_refused_309 (by decide) ?_
                                            obtain ⟨⟨r100, w101⟩, hr102, h⟩ := ob h
                                            dsimp only at h
                                            refine px_SL (As := [.ref (b_o 0 0), .int (nI 0), .int (nI 0), .int (nI 4)]) (rest := []) (gs := ([gO E b_o w97] : List va_W)) (gr := ([] : List va_W)) (gc := ([gO E b_o w97] : List va_W)) (g1 := ([gO E b_o w101] : List va_W)) (g2 := ([gO E b_o w101] : List va_W)) ⟨hx, hb, hml, hown, hts⟩ (mT_pick l hlt E X L b_o ((nI 0)) ((nI 0)) ((nI 4))  (w97) r100 w101 hr102) (vx_cwSW 4 hts (wsw_s q934 q935 q17 q936) rfl rfl rfl hdS_L_pick (by rw [hR]; first | exact ⟨Nat.le_of_ble_eq_true rfl, Nat.le_of_ble_eq_true rfl⟩ | exact ⟨by show _ ≤ (5655 : Nat); omega, by show _ ≤ (33930 : Nat); omega⟩)) hK hN hX hL hP hD hS hA [] [0] [0] rfl rfl (by decide) (by decide) rfl (by decide) rfl hl.1 rfl (Nat.le_of_ble_eq_true rfl) dL_refused_310 (by rw [hR]; first | exact ⟨Nat.le_of_ble_eq_true rfl, Nat.le_of_ble_eq_true rfl⟩ | exact ⟨by show _ ≤ (5655 : Nat); omega, by show _ ≤ (33930 : Nat); omega⟩) (fun H locs hP hD hS => ?_)
                                            refine W.eq (g2 := F0 m 313 ls [.int r100]) rfl ?_
                                            refine lv_sipush (v := (-1002 : Int32)) hx hb dL_refused_313 (by decide) ?_
                                            refine lv_icmp_ne (tgt := 508) hx hb dL_refused_316 (by decide) (fun c103 => ?_) (fun c103 => ?_)
                                            · rw [if_neg c103] at h
                                              exact L508 (r1) (r4) (r7) (w101) _ _ (by omega) (by omega) H locs ls hP hD hS (lv_sub hl [5, 4, 3, 2] rfl) h
                                            · rw [if_pos c103] at h
                                              refine lv_aload_n hx hb dL_refused_319 rfl (lv_at hl 5 rfl) ?_
                                              refine lv_iconst (v := (nI 0)) hx hb dL_refused_320 (by decide) ?_
                                              refine lv_iload hx hb dL_refused_321 (lv_at hl 1 rfl) ?_
                                              refine lv_iconst (v := (nI 0)) hx hb dL_refused_323 (by decide) ?_
                                              obtain ⟨⟨r104, w105⟩, hr106, h⟩ := ob h
                                              dsimp only at h
                                              refine px_SL (As := [.ref (b_o 0 0), .int (nI 0), .int r10, .int (nI 0)]) (rest := []) (gs := ([gO E b_o w101] : List va_W)) (gr := ([] : List va_W)) (gc := ([gO E b_o w101] : List va_W)) (g1 := ([gO E b_o w105] : List va_W)) (g2 := ([gO E b_o w105] : List va_W)) ⟨hx, hb, hml, hown, hts⟩ (mT_pick l hlt E X L b_o ((nI 0)) (r10) ((nI 0))  (w101) r104 w105 hr106) (vx_cwSW 4 hts (wsw_s q934 q935 q17 q936) rfl rfl rfl hdS_L_pick (by rw [hR]; first | exact ⟨Nat.le_of_ble_eq_true rfl, Nat.le_of_ble_eq_true rfl⟩ | exact ⟨by show _ ≤ (5655 : Nat); omega, by show _ ≤ (33930 : Nat); omega⟩)) hK hN hX hL hP hD hS hA [] [0] [0] rfl rfl (by decide) (by decide) rfl (by decide) rfl hl.1 rfl (Nat.le_of_ble_eq_true rfl) dL_refused_324 (by rw [hR]; first | exact ⟨Nat.le_of_ble_eq_true rfl, Nat.le_of_ble_eq_true rfl⟩ | exact ⟨by show _ ≤ (5655 : Nat); omega, by show _ ≤ (33930 : Nat); omega⟩) (fun H locs hP hD hS => ?_)
                                              refine W.eq (g2 := F0 m 327 ls [.int r104]) rfl ?_
                                              refine lv_sipush (v := (-1003 : Int32)) hx hb dL_refused_327 (by decide) ?_
                                              refine lv_icmp_ne (tgt := 508) hx hb dL_refused_330 (by decide) (fun c107 => ?_) (fun c107 => ?_)
                                              · rw [if_neg c107] at h
                                                exact L508 (r1) (r4) (r7) (w105) _ _ (by omega) (by omega) H locs ls hP hD hS (lv_sub hl [5, 4, 3, 2] rfl) h
                                              · rw [if_pos c107] at h
                                                refine lv_aload_n hx hb dL_refused_333 rfl (lv_at hl 5 rfl) ?_
                                                refine lv_iconst (v := (nI 4)) hx hb dL_refused_334 (by decide) ?_
                                                refine lv_iload hx hb dL_refused_335 (lv_at hl 1 rfl) ?_
                                                obtain ⟨⟨r108, w109⟩, hr110, h⟩ := ob h
                                                dsimp only at h
                                                refine px_SZ (As := [.ref (b_o 0 0), .int (nI 4), .int r10]) (rest := []) (gs := ([gO E b_o w105] : List va_W)) (gr := ([] : List va_W)) (gc := ([gO E b_o w105] : List va_W)) (g1 := ([gO E b_o w109] : List va_W)) (g2 := ([gO E b_o w109] : List va_W)) ⟨hx, hb, hml, hown, hts⟩ (mL_is l hlt E X L b_o ((nI 4)) (r10)  (w105) r108 w109 hr110) (va_cwS 3 hts (ws_s q909 q910 q17 q911) rfl rfl rfl hdS_L_is (by rw [hR]; first | exact ⟨Nat.le_of_ble_eq_true rfl, Nat.le_of_ble_eq_true rfl⟩ | exact ⟨by show _ ≤ (5655 : Nat); omega, by show _ ≤ (33930 : Nat); omega⟩)) hK hN hX hL hP hD hS hA [] [0] [0] rfl rfl (by decide) (by decide) rfl (by decide) rfl hl.1 rfl (Nat.le_of_ble_eq_true rfl) dL_refused_337 (by rw [hR]; first | exact ⟨Nat.le_of_ble_eq_true rfl, Nat.le_of_ble_eq_true rfl⟩ | exact ⟨by show _ ≤ (5655 : Nat); omega, by show _ ≤ (33930 : Nat); omega⟩) (fun H locs hP hD hS => ?_)
                                                refine W.eq (g2 := F0 m 340 ls [.int (b2i r108)]) rfl ?_
                                                refine lv_if_eq (tgt := 508) hx hb dL_refused_340 (by decide) (fun c111 => ?_) (fun c111 => ?_)
                                                · rw [if_pos c111] at h
                                                  exact L508 (r1) (r4) (r7) (w109) _ _ (by omega) (by omega) H locs ls hP hD hS (lv_sub hl [5, 4, 3, 2] rfl) h
                                                · rw [if_neg c111] at h
                                                  refine lv_aload_n hx hb dL_refused_343 rfl (lv_at hl 5 rfl) ?_
                                                  refine lv_iload hx hb dL_refused_344 (lv_at hl 2 rfl) ?_
                                                  refine lv_iconst (v := (nI 0)) hx hb dL_refused_346 (by decide) ?_
                                                  refine lv_bipush (v := (nI 9)) hx hb dL_refused_347 (by decide) ?_
                                                  obtain ⟨⟨r112, w113⟩, hr114, h⟩ := ob h
                                                  dsimp only at h
                                                  refine px_SL (As := [.ref (b_o 0 0), .int r7, .int (nI 0), .int (nI 9)]) (rest := []) (gs := ([gO E b_o w109] : List va_W)) (gr := ([] : List va_W)) (gc := ([gO E b_o w109] : List va_W)) (g1 := ([gO E b_o w113] : List va_W)) (g2 := ([gO E b_o w113] : List va_W)) ⟨hx, hb, hml, hown, hts⟩ (mT_revert l hlt E X L b_o (r7) ((nI 0)) ((nI 9))  (w109) r112 w113 hr114) (vx_cwSW 4 hts (wsw_s q593 q594 q17 q595) rfl rfl rfl hdS_L_revert (by rw [hR]; first | exact ⟨Nat.le_of_ble_eq_true rfl, Nat.le_of_ble_eq_true rfl⟩ | exact ⟨by show _ ≤ (5655 : Nat); omega, by show _ ≤ (33930 : Nat); omega⟩)) hK hN hX hL hP hD hS hA [] [0] [0] rfl rfl (by decide) (by decide) rfl (by decide) rfl hl.1 rfl (Nat.le_of_ble_eq_true rfl) dL_refused_349 (by rw [hR]; first | exact ⟨Nat.le_of_ble_eq_true rfl, Nat.le_of_ble_eq_true rfl⟩ | exact ⟨by show _ ≤ (5655 : Nat); omega, by show _ ≤ (33930 : Nat); omega⟩) (fun H locs hP hD hS => ?_)
                                                  refine W.eq (g2 := F0 m 352 ls [.int r112]) rfl ?_
                                                  refine lv_sipush (v := (-1001 : Int32)) hx hb dL_refused_352 (by decide) ?_
                                                  refine lv_icmp_ne (tgt := 508) hx hb dL_refused_355 (by decide) (fun c115 => ?_) (fun c115 => ?_)
                                                  · rw [if_neg c115] at h
                                                    exact L508 (r1) (r4) (r7) (w113) _ _ (by omega) (by omega) H locs ls hP hD hS (lv_sub hl [5, 4, 3, 2] rfl) h
                                                  · rw [if_pos c115] at h
                                                    refine lv_aload_n hx hb dL_refused_358 rfl (lv_at hl 5 rfl) ?_
                                                    refine lv_iconst (v := (nI 0)) hx hb dL_refused_359 (by decide) ?_
                                                    refine lv_iconst (v := (-1 : Int32)) hx hb dL_refused_360 (by decide) ?_
                                                    refine lv_bipush (v := (nI 9)) hx hb dL_refused_361 (by decide) ?_
                                                    obtain ⟨⟨r116, w117⟩, hr118, h⟩ := ob h
                                                    dsimp only at h
                                                    refine px_SL (As := [.ref (b_o 0 0), .int (nI 0), .int (-1 : Int32), .int (nI 9)]) (rest := []) (gs := ([gO E b_o w113] : List va_W)) (gr := ([] : List va_W)) (gc := ([gO E b_o w113] : List va_W)) (g1 := ([gO E b_o w117] : List va_W)) (g2 := ([gO E b_o w117] : List va_W)) ⟨hx, hb, hml, hown, hts⟩ (mT_revert l hlt E X L b_o ((nI 0)) ((-1 : Int32)) ((nI 9))  (w113) r116 w117 hr118) (vx_cwSW 4 hts (wsw_s q593 q594 q17 q595) rfl rfl rfl hdS_L_revert (by rw [hR]; first | exact ⟨Nat.le_of_ble_eq_true rfl, Nat.le_of_ble_eq_true rfl⟩ | exact ⟨by show _ ≤ (5655 : Nat); omega, by show _ ≤ (33930 : Nat); omega⟩)) hK hN hX hL hP hD hS hA [] [0] [0] rfl rfl (by decide) (by decide) rfl (by decide) rfl hl.1 rfl (Nat.le_of_ble_eq_true rfl) dL_refused_363 (by rw [hR]; first | exact ⟨Nat.le_of_ble_eq_true rfl, Nat.le_of_ble_eq_true rfl⟩ | exact ⟨by show _ ≤ (5655 : Nat); omega, by show _ ≤ (33930 : Nat); omega⟩) (fun H locs hP hD hS => ?_)
                                                    refine W.eq (g2 := F0 m 366 ls [.int r116]) rfl ?_
                                                    refine lv_sipush (v := (-1001 : Int32)) hx hb dL_refused_366 (by decide) ?_
                                                    refine lv_icmp_ne (tgt := 508) hx hb dL_refused_369 (by decide) (fun c119 => ?_) (fun c119 => ?_)
                                                    · rw [if_neg c119] at h
                                                      exact L508 (r1) (r4) (r7) (w117) _ _ (by omega) (by omega) H locs ls hP hD hS (lv_sub hl [5, 4, 3, 2] rfl) h
                                                    · rw [if_pos c119] at h
                                                      refine lv_aload_n hx hb dL_refused_372 rfl (lv_at hl 5 rfl) ?_
                                                      refine lv_iconst (v := (nI 0)) hx hb dL_refused_373 (by decide) ?_
                                                      refine lv_iconst (v := (nI 0)) hx hb dL_refused_374 (by decide) ?_
                                                      refine lv_iconst (v := (nI 4)) hx hb dL_refused_375 (by decide) ?_
                                                      obtain ⟨⟨r120, w121⟩, hr122, h⟩ := ob h
                                                      dsimp only at h
                                                      refine px_SL (As := [.ref (b_o 0 0), .int (nI 0), .int (nI 0), .int (nI 4)]) (rest := []) (gs := ([gO E b_o w117] : List va_W)) (gr := ([] : List va_W)) (gc := ([gO E b_o w117] : List va_W)) (g1 := ([gO E b_o w121] : List va_W)) (g2 := ([gO E b_o w121] : List va_W)) ⟨hx, hb, hml, hown, hts⟩ (mT_revert l hlt E X L b_o ((nI 0)) ((nI 0)) ((nI 4))  (w117) r120 w121 hr122) (vx_cwSW 4 hts (wsw_s q593 q594 q17 q595) rfl rfl rfl hdS_L_revert (by rw [hR]; first | exact ⟨Nat.le_of_ble_eq_true rfl, Nat.le_of_ble_eq_true rfl⟩ | exact ⟨by show _ ≤ (5655 : Nat); omega, by show _ ≤ (33930 : Nat); omega⟩)) hK hN hX hL hP hD hS hA [] [0] [0] rfl rfl (by decide) (by decide) rfl (by decide) rfl hl.1 rfl (Nat.le_of_ble_eq_true rfl) dL_refused_376 (by rw [hR]; first | exact ⟨Nat.le_of_ble_eq_true rfl, Nat.le_of_ble_eq_true rfl⟩ | exact ⟨by show _ ≤ (5655 : Nat); omega, by show _ ≤ (33930 : Nat); omega⟩) (fun H locs hP hD hS => ?_)
                                                      refine W.eq (g2 := F0 m 379 ls [.int r120]) rfl ?_
                                                      refine lv_sipush (v := (-1002 : Int32)) hx hb dL_refused_379 (by decide) ?_
                                                      refine lv_icmp_ne (tgt := 508) hx hb dL_refused_382 (by decide) (fun c123 => ?_) (fun c123 => ?_)
                                                      · rw [if_neg c123] at h
                                                        exact L508 (r1) (r4) (r7) (w121) _ _ (by omega) (by omega) H locs ls hP hD hS (lv_sub hl [5, 4, 3, 2] rfl) h
                                                      · rw [if_pos c123] at h
                                                        refine lv_aload_n hx hb dL_refused_385 rfl (lv_at hl 5 rfl) ?_
                                                        refine lv_iconst (v := (nI 0)) hx hb dL_refused_386 (by decide) ?_
                                                        refine lv_iconst (v := (nI 0)) hx hb dL_refused_387 (by decide) ?_
                                                        refine lv_iconst (v := (nI 0)) hx hb dL_refused_388 (by decide) ?_
                                                        obtain ⟨⟨r124, w125⟩, hr126, h⟩ := ob h
                                                        dsimp only at h
                                                        refine px_SL (As := [.ref (b_o 0 0), .int (nI 0), .int (nI 0), .int (nI 0)]) (rest := []) (gs := ([gO E b_o w121] : List va_W)) (gr := ([] : List va_W)) (gc := ([gO E b_o w121] : List va_W)) (g1 := ([gO E b_o w125] : List va_W)) (g2 := ([gO E b_o w125] : List va_W)) ⟨hx, hb, hml, hown, hts⟩ (mT_revert l hlt E X L b_o ((nI 0)) ((nI 0)) ((nI 0))  (w121) r124 w125 hr126) (vx_cwSW 4 hts (wsw_s q593 q594 q17 q595) rfl rfl rfl hdS_L_revert (by rw [hR]; first | exact ⟨Nat.le_of_ble_eq_true rfl, Nat.le_of_ble_eq_true rfl⟩ | exact ⟨by show _ ≤ (5655 : Nat); omega, by show _ ≤ (33930 : Nat); omega⟩)) hK hN hX hL hP hD hS hA [] [0] [0] rfl rfl (by decide) (by decide) rfl (by decide) rfl hl.1 rfl (Nat.le_of_ble_eq_true rfl) dL_refused_389 (by rw [hR]; first | exact ⟨Nat.le_of_ble_eq_true rfl, Nat.le_of_ble_eq_true rfl⟩ | exact ⟨by show _ ≤ (5655 : Nat); omega, by show _ ≤ (33930 : Nat); omega⟩) (fun H locs hP hD hS => ?_)
                                                        refine W.eq (g2 := F0 m 392 ls [.int r124]) rfl ?_
                                                        refine lv_sipush (v := (-1003 : Int32)) hx hb dL_refused_392 (by decide) ?_
                                                        refine lv_icmp_ne (tgt := 508) hx hb dL_refused_395 (by decide) (fun c127 => ?_) (fun c127 => ?_)
                                                        · rw [if_neg c127] at h
                                                          exact L508 (r1) (r4) (r7) (w125) _ _ (by omega) (by omega) H locs ls hP hD hS (lv_sub hl [5, 4, 3, 2] rfl) h
                                                        · rw [if_pos c127] at h
                                                          refine lv_aload_n hx hb dL_refused_398 rfl (lv_at hl 5 rfl) ?_
                                                          refine lv_bipush (v := (nI 6)) hx hb dL_refused_399 (by decide) ?_
                                                          refine lv_iconst (v := (nI 0)) hx hb dL_refused_401 (by decide) ?_
                                                          obtain ⟨⟨r128, w129⟩, hr130, h⟩ := ob h
                                                          dsimp only at h
                                                          refine px_SZ (As := [.ref (b_o 0 0), .int (nI 6), .int (nI 0)]) (rest := []) (gs := ([gO E b_o w125] : List va_W)) (gr := ([] : List va_W)) (gc := ([gO E b_o w125] : List va_W)) (g1 := ([gO E b_o w129] : List va_W)) (g2 := ([gO E b_o w129] : List va_W)) ⟨hx, hb, hml, hown, hts⟩ (mL_is l hlt E X L b_o ((nI 6)) ((nI 0))  (w125) r128 w129 hr130) (va_cwS 3 hts (ws_s q909 q910 q17 q911) rfl rfl rfl hdS_L_is (by rw [hR]; first | exact ⟨Nat.le_of_ble_eq_true rfl, Nat.le_of_ble_eq_true rfl⟩ | exact ⟨by show _ ≤ (5655 : Nat); omega, by show _ ≤ (33930 : Nat); omega⟩)) hK hN hX hL hP hD hS hA [] [0] [0] rfl rfl (by decide) (by decide) rfl (by decide) rfl hl.1 rfl (Nat.le_of_ble_eq_true rfl) dL_refused_402 (by rw [hR]; first | exact ⟨Nat.le_of_ble_eq_true rfl, Nat.le_of_ble_eq_true rfl⟩ | exact ⟨by show _ ≤ (5655 : Nat); omega, by show _ ≤ (33930 : Nat); omega⟩) (fun H locs hP hD hS => ?_)
                                                          refine W.eq (g2 := F0 m 405 ls [.int (b2i r128)]) rfl ?_
                                                          refine lv_if_eq (tgt := 508) hx hb dL_refused_405 (by decide) (fun c131 => ?_) (fun c131 => ?_)
                                                          · rw [if_pos c131] at h
                                                            exact L508 (r1) (r4) (r7) (w129) _ _ (by omega) (by omega) H locs ls hP hD hS (lv_sub hl [5, 4, 3, 2] rfl) h
                                                          · rw [if_neg c131] at h
                                                            refine lv_aload_n hx hb dL_refused_408 rfl (lv_at hl 5 rfl) ?_
                                                            refine lv_iconst (v := (nI 3)) hx hb dL_refused_409 (by decide) ?_
                                                            obtain ⟨⟨r132, w133⟩, hr134, h⟩ := ob h
                                                            dsimp only at h
                                                            refine px_SL (As := [.ref (b_o 0 0), .int (nI 3)]) (rest := []) (gs := ([gO E b_o w129] : List va_W)) (gr := ([] : List va_W)) (gc := ([gO E b_o w129] : List va_W)) (g1 := ([gO E b_o w133] : List va_W)) (g2 := ([gO E b_o w133] : List va_W)) ⟨hx, hb, hml, hown, hts⟩ (mT_bundle l hlt E X L b_o ((nI 3))  (w129) r132 w133 hr134) (vx_cwSW 2 hts (wsw_s q680 q681 q17 q682) rfl rfl rfl hdS_L_bundle (by rw [hR]; first | exact ⟨Nat.le_of_ble_eq_true rfl, Nat.le_of_ble_eq_true rfl⟩ | exact ⟨by show _ ≤ (5655 : Nat); omega, by show _ ≤ (33930 : Nat); omega⟩)) hK hN hX hL hP hD hS hA [] [0] [0] rfl rfl (by decide) (by decide) rfl (by decide) rfl hl.1 rfl (Nat.le_of_ble_eq_true rfl) dL_refused_410 (by rw [hR]; first | exact ⟨Nat.le_of_ble_eq_true rfl, Nat.le_of_ble_eq_true rfl⟩ | exact ⟨by show _ ≤ (5655 : Nat); omega, by show _ ≤ (33930 : Nat); omega⟩) (fun H locs hP hD hS => ?_)
                                                            refine W.eq (g2 := F0 m 413 ls [.int r132]) rfl ?_
                                                            refine lv_sipush (v := (-1001 : Int32)) hx hb dL_refused_413 (by decide) ?_
                                                            refine lv_icmp_ne (tgt := 508) hx hb dL_refused_416 (by decide) (fun c135 => ?_) (fun c135 => ?_)
                                                            · rw [if_neg c135] at h
                                                              exact L508 (r1) (r4) (r7) (w133) _ _ (by omega) (by omega) H locs ls hP hD hS (lv_sub hl [5, 4, 3, 2] rfl) h
                                                            · rw [if_pos c135] at h
                                                              refine lv_aload_n hx hb dL_refused_419 rfl (lv_at hl 5 rfl) ?_
                                                              refine lv_iconst (v := (-1 : Int32)) hx hb dL_refused_420 (by decide) ?_
                                                              obtain ⟨⟨r136, w137⟩, hr138, h⟩ := ob h
                                                              dsimp only at h
                                                              refine px_SL (As := [.ref (b_o 0 0), .int (-1 : Int32)]) (rest := []) (gs := ([gO E b_o w133] : List va_W)) (gr := ([] : List va_W)) (gc := ([gO E b_o w133] : List va_W)) (g1 := ([gO E b_o w137] : List va_W)) (g2 := ([gO E b_o w137] : List va_W)) ⟨hx, hb, hml, hown, hts⟩ (mT_bundle l hlt E X L b_o ((-1 : Int32))  (w133) r136 w137 hr138) (vx_cwSW 2 hts (wsw_s q680 q681 q17 q682) rfl rfl rfl hdS_L_bundle (by rw [hR]; first | exact ⟨Nat.le_of_ble_eq_true rfl, Nat.le_of_ble_eq_true rfl⟩ | exact ⟨by show _ ≤ (5655 : Nat); omega, by show _ ≤ (33930 : Nat); omega⟩)) hK hN hX hL hP hD hS hA [] [0] [0] rfl rfl (by decide) (by decide) rfl (by decide) rfl hl.1 rfl (Nat.le_of_ble_eq_true rfl) dL_refused_421 (by rw [hR]; first | exact ⟨Nat.le_of_ble_eq_true rfl, Nat.le_of_ble_eq_true rfl⟩ | exact ⟨by show _ ≤ (5655 : Nat); omega, by show _ ≤ (33930 : Nat); omega⟩) (fun H locs hP hD hS => ?_)
                                                              refine W.eq (g2 := F0 m 424 ls [.int r136]) rfl ?_
                                                              refine lv_sipush (v := (-1001 : Int32)) hx hb dL_refused_424 (by decide) ?_
                                                              refine lv_icmp_ne (tgt := 508) hx hb dL_refused_427 (by decide) (fun c139 => ?_) (fun c139 => ?_)
                                                              · rw [if_neg c139] at h
                                                                exact L508 (r1) (r4) (r7) (w137) _ _ (by omega) (by omega) H locs ls hP hD hS (lv_sub hl [5, 4, 3, 2] rfl) h
                                                              · rw [if_pos c139] at h
                                                                refine lv_aload_n hx hb dL_refused_430 rfl (lv_at hl 5 rfl) ?_
                                                                refine lv_iconst (v := (nI 4)) hx hb dL_refused_431 (by decide) ?_
                                                                refine lv_iconst (v := (nI 0)) hx hb dL_refused_432 (by decide) ?_
                                                                obtain ⟨⟨r140, w141⟩, hr142, h⟩ := ob h
                                                                dsimp only at h
                                                                refine px_SL (As := [.ref (b_o 0 0), .int (nI 4), .int (nI 0)]) (rest := []) (gs := ([gO E b_o w137] : List va_W)) (gr := ([] : List va_W)) (gc := ([gO E b_o w137] : List va_W)) (g1 := ([gO E b_o w141] : List va_W)) (g2 := ([gO E b_o w141] : List va_W)) ⟨hx, hb, hml, hown, hts⟩ (mT_put l hlt E X L b_o ((nI 4)) ((nI 0))  (w137) r140 w141 hr142) (vx_cwSW 3 hts (wsw_s q1160 q1161 q17 q1162) rfl rfl rfl hdS_L_put (by rw [hR]; first | exact ⟨Nat.le_of_ble_eq_true rfl, Nat.le_of_ble_eq_true rfl⟩ | exact ⟨by show _ ≤ (5655 : Nat); omega, by show _ ≤ (33930 : Nat); omega⟩)) hK hN hX hL hP hD hS hA [] [0] [0] rfl rfl (by decide) (by decide) rfl (by decide) rfl hl.1 rfl (Nat.le_of_ble_eq_true rfl) dL_refused_433 (by rw [hR]; first | exact ⟨Nat.le_of_ble_eq_true rfl, Nat.le_of_ble_eq_true rfl⟩ | exact ⟨by show _ ≤ (5655 : Nat); omega, by show _ ≤ (33930 : Nat); omega⟩) (fun H locs hP hD hS => ?_)
                                                                refine W.eq (g2 := F0 m 436 ls [.int r140]) rfl ?_
                                                                refine lv_sipush (v := (-1001 : Int32)) hx hb dL_refused_436 (by decide) ?_
                                                                refine lv_icmp_ne (tgt := 508) hx hb dL_refused_439 (by decide) (fun c143 => ?_) (fun c143 => ?_)
                                                                · rw [if_neg c143] at h
                                                                  exact L508 (r1) (r4) (r7) (w141) _ _ (by omega) (by omega) H locs ls hP hD hS (lv_sub hl [5, 4, 3, 2] rfl) h
                                                                · rw [if_pos c143] at h
                                                                  refine lv_aload_n hx hb dL_refused_442 rfl (lv_at hl 5 rfl) ?_
                                                                  refine lv_iconst (v := (nI 0)) hx hb dL_refused_443 (by decide) ?_
                                                                  refine lv_iload_n hx hb dL_refused_444 rfl (lv_at hl 3 rfl) ?_
                                                                  obtain ⟨⟨r144, w145⟩, hr146, h⟩ := ob h
                                                                  dsimp only at h
                                                                  refine px_SL (As := [.ref (b_o 0 0), .int (nI 0), .int r4]) (rest := []) (gs := ([gO E b_o w141] : List va_W)) (gr := ([] : List va_W)) (gc := ([gO E b_o w141] : List va_W)) (g1 := ([gO E b_o w145] : List va_W)) (g2 := ([gO E b_o w145] : List va_W)) ⟨hx, hb, hml, hown, hts⟩ (mT_put l hlt E X L b_o ((nI 0)) (r4)  (w141) r144 w145 hr146) (vx_cwSW 3 hts (wsw_s q1160 q1161 q17 q1162) rfl rfl rfl hdS_L_put (by rw [hR]; first | exact ⟨Nat.le_of_ble_eq_true rfl, Nat.le_of_ble_eq_true rfl⟩ | exact ⟨by show _ ≤ (5655 : Nat); omega, by show _ ≤ (33930 : Nat); omega⟩)) hK hN hX hL hP hD hS hA [] [0] [0] rfl rfl (by decide) (by decide) rfl (by decide) rfl hl.1 rfl (Nat.le_of_ble_eq_true rfl) dL_refused_445 (by rw [hR]; first | exact ⟨Nat.le_of_ble_eq_true rfl, Nat.le_of_ble_eq_true rfl⟩ | exact ⟨by show _ ≤ (5655 : Nat); omega, by show _ ≤ (33930 : Nat); omega⟩) (fun H locs hP hD hS => ?_)
                                                                  refine W.eq (g2 := F0 m 448 ls [.int r144]) rfl ?_
                                                                  refine lv_sipush (v := (-1001 : Int32)) hx hb dL_refused_448 (by decide) ?_
                                                                  refine lv_icmp_ne (tgt := 508) hx hb dL_refused_451 (by decide) (fun c147 => ?_) (fun c147 => ?_)
                                                                  · rw [if_neg c147] at h
                                                                    exact L508 (r1) (r4) (r7) (w145) _ _ (by omega) (by omega) H locs ls hP hD hS (lv_sub hl [5, 4, 3, 2] rfl) h
                                                                  · rw [if_pos c147] at h
                                                                    refine lv_aload_n hx hb dL_refused_454 rfl (lv_at hl 5 rfl) ?_
                                                                    refine lv_iconst (v := (-1 : Int32)) hx hb dL_refused_455 (by decide) ?_
                                                                    refine lv_iconst (v := (nI 0)) hx hb dL_refused_456 (by decide) ?_
                                                                    obtain ⟨⟨r148, w149⟩, hr150, h⟩ := ob h
                                                                    dsimp only at h
                                                                    refine px_SL (As := [.ref (b_o 0 0), .int (-1 : Int32), .int (nI 0)]) (rest := []) (gs := ([gO E b_o w145] : List va_W)) (gr := ([] : List va_W)) (gc := ([gO E b_o w145] : List va_W)) (g1 := ([gO E b_o w149] : List va_W)) (g2 := ([gO E b_o w149] : List va_W)) ⟨hx, hb, hml, hown, hts⟩ (mT_put l hlt E X L b_o ((-1 : Int32)) ((nI 0))  (w145) r148 w149 hr150) (vx_cwSW 3 hts (wsw_s q1160 q1161 q17 q1162) rfl rfl rfl hdS_L_put (by rw [hR]; first | exact ⟨Nat.le_of_ble_eq_true rfl, Nat.le_of_ble_eq_true rfl⟩ | exact ⟨by show _ ≤ (5655 : Nat); omega, by show _ ≤ (33930 : Nat); omega⟩)) hK hN hX hL hP hD hS hA [] [0] [0] rfl rfl (by decide) (by decide) rfl (by decide) rfl hl.1 rfl (Nat.le_of_ble_eq_true rfl) dL_refused_457 (by rw [hR]; first | exact ⟨Nat.le_of_ble_eq_true rfl, Nat.le_of_ble_eq_true rfl⟩ | exact ⟨by show _ ≤ (5655 : Nat); omega, by show _ ≤ (33930 : Nat); omega⟩) (fun H locs hP hD hS => ?_)
                                                                    refine W.eq (g2 := F0 m 460 ls [.int r148]) rfl ?_
                                                                    refine lv_sipush (v := (-1001 : Int32)) hx hb dL_refused_460 (by decide) ?_
                                                                    refine lv_icmp_ne (tgt := 508) hx hb dL_refused_463 (by decide) (fun c151 => ?_) (fun c151 => ?_)
                                                                    · rw [if_neg c151] at h
                                                                      exact L508 (r1) (r4) (r7) (w149) _ _ (by omega) (by omega) H locs ls hP hD hS (lv_sub hl [5, 4, 3, 2] rfl) h
                                                                    · rw [if_pos c151] at h
                                                                      refine lv_aload_n hx hb dL_refused_466 rfl (lv_at hl 5 rfl) ?_
                                                                      refine lv_iload hx hb dL_refused_467 (lv_at hl 2 rfl) ?_
                                                                      refine lv_bipush (v := (nI 9)) hx hb dL_refused_469 (by decide) ?_
                                                                      obtain ⟨⟨r152, w153⟩, hr154, h⟩ := ob h
                                                                      dsimp only at h
                                                                      refine px_SL (As := [.ref (b_o 0 0), .int r7, .int (nI 9)]) (rest := []) (gs := ([gO E b_o w149] : List va_W)) (gr := ([] : List va_W)) (gc := ([gO E b_o w149] : List va_W)) (g1 := ([gO E b_o w153] : List va_W)) (g2 := ([gO E b_o w153] : List va_W)) ⟨hx, hb, hml, hown, hts⟩ (mT_play l hlt E X L b_o (r7) ((nI 9))  (w149) r152 w153 hr154) (vx_cwSW 3 hts (wsw_s q1182 q1183 q17 q1184) rfl rfl rfl hdS_L_play (by rw [hR]; first | exact ⟨Nat.le_of_ble_eq_true rfl, Nat.le_of_ble_eq_true rfl⟩ | exact ⟨by show _ ≤ (5655 : Nat); omega, by show _ ≤ (33930 : Nat); omega⟩)) hK hN hX hL hP hD hS hA [] [0] [0] rfl rfl (by decide) (by decide) rfl (by decide) rfl hl.1 rfl (Nat.le_of_ble_eq_true rfl) dL_refused_471 (by rw [hR]; first | exact ⟨Nat.le_of_ble_eq_true rfl, Nat.le_of_ble_eq_true rfl⟩ | exact ⟨by show _ ≤ (5655 : Nat); omega, by show _ ≤ (33930 : Nat); omega⟩) (fun H locs hP hD hS => ?_)
                                                                      refine W.eq (g2 := F0 m 474 ls [.int r152]) rfl ?_
                                                                      refine lv_sipush (v := (-1001 : Int32)) hx hb dL_refused_474 (by decide) ?_
                                                                      refine lv_icmp_ne (tgt := 508) hx hb dL_refused_477 (by decide) (fun c155 => ?_) (fun c155 => ?_)
                                                                      · rw [if_neg c155] at h
                                                                        exact L508 (r1) (r4) (r7) (w153) _ _ (by omega) (by omega) H locs ls hP hD hS (lv_sub hl [5, 4, 3, 2] rfl) h
                                                                      · rw [if_pos c155] at h
                                                                        refine lv_aload_n hx hb dL_refused_480 rfl (lv_at hl 5 rfl) ?_
                                                                        refine lv_iconst (v := (nI 0)) hx hb dL_refused_481 (by decide) ?_
                                                                        refine lv_iconst (v := (nI 4)) hx hb dL_refused_482 (by decide) ?_
                                                                        obtain ⟨⟨r156, w157⟩, hr158, h⟩ := ob h
                                                                        dsimp only at h
                                                                        refine px_SL (As := [.ref (b_o 0 0), .int (nI 0), .int (nI 4)]) (rest := []) (gs := ([gO E b_o w153] : List va_W)) (gr := ([] : List va_W)) (gc := ([gO E b_o w153] : List va_W)) (g1 := ([gO E b_o w157] : List va_W)) (g2 := ([gO E b_o w157] : List va_W)) ⟨hx, hb, hml, hown, hts⟩ (mT_play l hlt E X L b_o ((nI 0)) ((nI 4))  (w153) r156 w157 hr158) (vx_cwSW 3 hts (wsw_s q1182 q1183 q17 q1184) rfl rfl rfl hdS_L_play (by rw [hR]; first | exact ⟨Nat.le_of_ble_eq_true rfl, Nat.le_of_ble_eq_true rfl⟩ | exact ⟨by show _ ≤ (5655 : Nat); omega, by show _ ≤ (33930 : Nat); omega⟩)) hK hN hX hL hP hD hS hA [] [0] [0] rfl rfl (by decide) (by decide) rfl (by decide) rfl hl.1 rfl (Nat.le_of_ble_eq_true rfl) dL_refused_483 (by rw [hR]; first | exact ⟨Nat.le_of_ble_eq_true rfl, Nat.le_of_ble_eq_true rfl⟩ | exact ⟨by show _ ≤ (5655 : Nat); omega, by show _ ≤ (33930 : Nat); omega⟩) (fun H locs hP hD hS => ?_)
                                                                        refine W.eq (g2 := F0 m 486 ls [.int r156]) rfl ?_
                                                                        refine lv_sipush (v := (-1002 : Int32)) hx hb dL_refused_486 (by decide) ?_
                                                                        refine lv_icmp_ne (tgt := 508) hx hb dL_refused_489 (by decide) (fun c159 => ?_) (fun c159 => ?_)
                                                                        · rw [if_neg c159] at h
                                                                          exact L508 (r1) (r4) (r7) (w157) _ _ (by omega) (by omega) H locs ls hP hD hS (lv_sub hl [5, 4, 3, 2] rfl) h
                                                                        · rw [if_pos c159] at h
                                                                          refine lv_aload_n hx hb dL_refused_492 rfl (lv_at hl 5 rfl) ?_
                                                                          refine lv_iconst (v := (nI 0)) hx hb dL_refused_493 (by decide) ?_
                                                                          refine lv_iconst (v := (-1 : Int32)) hx hb dL_refused_494 (by decide) ?_
                                                                          obtain ⟨⟨r160, w161⟩, hr162, h⟩ := ob h
                                                                          dsimp only at h
                                                                          refine px_SL (As := [.ref (b_o 0 0), .int (nI 0), .int (-1 : Int32)]) (rest := []) (gs := ([gO E b_o w157] : List va_W)) (gr := ([] : List va_W)) (gc := ([gO E b_o w157] : List va_W)) (g1 := ([gO E b_o w161] : List va_W)) (g2 := ([gO E b_o w161] : List va_W)) ⟨hx, hb, hml, hown, hts⟩ (mT_play l hlt E X L b_o ((nI 0)) ((-1 : Int32))  (w157) r160 w161 hr162) (vx_cwSW 3 hts (wsw_s q1182 q1183 q17 q1184) rfl rfl rfl hdS_L_play (by rw [hR]; first | exact ⟨Nat.le_of_ble_eq_true rfl, Nat.le_of_ble_eq_true rfl⟩ | exact ⟨by show _ ≤ (5655 : Nat); omega, by show _ ≤ (33930 : Nat); omega⟩)) hK hN hX hL hP hD hS hA [] [0] [0] rfl rfl (by decide) (by decide) rfl (by decide) rfl hl.1 rfl (Nat.le_of_ble_eq_true rfl) dL_refused_495 (by rw [hR]; first | exact ⟨Nat.le_of_ble_eq_true rfl, Nat.le_of_ble_eq_true rfl⟩ | exact ⟨by show _ ≤ (5655 : Nat); omega, by show _ ≤ (33930 : Nat); omega⟩) (fun H locs hP hD hS => ?_)
                                                                          refine W.eq (g2 := F0 m 498 ls [.int r160]) rfl ?_
                                                                          refine lv_sipush (v := (-1002 : Int32)) hx hb dL_refused_498 (by decide) ?_
                                                                          refine lv_icmp_ne (tgt := 508) hx hb dL_refused_501 (by decide) (fun c163 => ?_) (fun c163 => ?_)
                                                                          · rw [if_neg c163] at h
                                                                            exact L508 (r1) (r4) (r7) (w161) _ _ (by omega) (by omega) H locs ls hP hD hS (lv_sub hl [5, 4, 3, 2] rfl) h
                                                                          · rw [if_pos c163] at h
                                                                            refine lv_iconst (v := (nI 1)) hx hb dL_refused_504 (by decide) ?_
                                                                            refine lv_goto (tgt := 509) hx hb dL_refused_505 (by decide) ?_
                                                                            exact L509 (r1) (r4) (r7) ((nI 1)) (w161) _ _ (by omega) (by omega) H locs ls hP hD hS (lv_sub hl [5, 4, 3, 2] rfl) h
