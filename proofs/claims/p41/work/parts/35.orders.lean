def f6_shapeOf (x0 : Int32)  : Option (Nat) := (if x0 = nI 101 then (some 0) else (if x0 = nI 102 then (some 1) else (if x0 = nI 109 then (some 2) else (if x0 = nI 112 then (some 3) else (if x0 = nI 114 then (some 4) else (if x0 = nI 118 then (some 3) else (some 5)))))))
set_option maxHeartbeats 4000000 in
set_option maxRecDepth 100000 in
theorem c6_shapeOf (l : Launch) (E : PE) (X : PX)   (x0 : Int32)  (r : Nat) (h : f6_shapeOf x0 = some r) : MPX l yX6_shapeOf cX6_shapeOf 1 (some (.object "java/lang/String")) { frames := 0, cells := 0, slots := 0, locals := 0 } E X [.int x0] ([] : List va_W).flatten (some (.ref (X.1 r))) := by
  refine px_startPX (by decide +kernel) (Nat.le_of_ble_eq_true rfl) ?_
  intro p e s m args below meth c R Q A ls hC hX hQ
  obtain ⟨hx, hb, hr, hml, hts, hown, hlocks, hR, hK, hN, hP, hD, hA, hl, hin⟩ := hC
  have hl : lv_has ls 1 [(0, .int x0)] := hl
  unfold f6_shapeOf at h
  refine lv_iload_n hx hb dX6_shapeOf_0 rfl (lv_at hl 0 rfl) ?_
  by_cases c1 : x0 = nI 101
  · rw [if_pos c1] at h
    refine lv_tableIn (off := 87) (tgt := 88) hx hb dX6_shapeOf_1 (by rw [c1]; decide) (by rw [c1]; decide) (by rw [c1]; rfl) (by decide) ?_
    refine px_ldcS (i := 0) (tx := "1.1=2") hx hb hown hX rfl dX6_shapeOf_88 ?_
    cases h
    exact px_ePa (Or.inl ⟨_, rfl⟩) hQ hx hb hr hlocks dX6_shapeOf_90
  · rw [if_neg c1] at h
    by_cases c2 : x0 = nI 102
    · rw [if_pos c2] at h
      refine lv_tableIn (off := 90) (tgt := 91) hx hb dX6_shapeOf_1 (by rw [c2]; decide) (by rw [c2]; decide) (by rw [c2]; rfl) (by decide) ?_
      refine px_ldcS (i := 1) (tx := "1") hx hb hown hX rfl dX6_shapeOf_91 ?_
      cases h
      exact px_ePa (Or.inl ⟨_, rfl⟩) hQ hx hb hr hlocks dX6_shapeOf_93
    · rw [if_neg c2] at h
      by_cases c3 : x0 = nI 109
      · rw [if_pos c3] at h
        refine lv_tableIn (off := 93) (tgt := 94) hx hb dX6_shapeOf_1 (by rw [c3]; decide) (by rw [c3]; decide) (by rw [c3]; rfl) (by decide) ?_
        refine px_ldcS (i := 2) (tx := "1<1!1") hx hb hown hX rfl dX6_shapeOf_94 ?_
        cases h
        exact px_ePa (Or.inl ⟨_, rfl⟩) hQ hx hb hr hlocks dX6_shapeOf_96
      · rw [if_neg c3] at h
        by_cases c4 : x0 = nI 112
        · rw [if_pos c4] at h
          refine lv_tableIn (off := 96) (tgt := 97) hx hb dX6_shapeOf_1 (by rw [c4]; decide) (by rw [c4]; decide) (by rw [c4]; rfl) (by decide) ?_
          refine px_ldcS (i := 3) (tx := "1<2!1") hx hb hown hX rfl dX6_shapeOf_97 ?_
          cases h
          exact px_ePa (Or.inl ⟨_, rfl⟩) hQ hx hb hr hlocks dX6_shapeOf_99
        · rw [if_neg c4] at h
          by_cases c5 : x0 = nI 114
          · rw [if_pos c5] at h
            refine lv_tableIn (off := 102) (tgt := 103) hx hb dX6_shapeOf_1 (by rw [c5]; decide) (by rw [c5]; decide) (by rw [c5]; rfl) (by decide) ?_
            refine px_ldcS (i := 4) (tx := "1=2") hx hb hown hX rfl dX6_shapeOf_103 ?_
            cases h
            exact px_ePa (Or.inl ⟨_, rfl⟩) hQ hx hb hr hlocks dX6_shapeOf_105
          · rw [if_neg c5] at h
            by_cases c6 : x0 = nI 118
            · rw [if_pos c6] at h
              refine lv_tableIn (off := 99) (tgt := 100) hx hb dX6_shapeOf_1 (by rw [c6]; decide) (by rw [c6]; decide) (by rw [c6]; rfl) (by decide) ?_
              refine px_ldcS (i := 3) (tx := "1<2!1") hx hb hown hX rfl dX6_shapeOf_100 ?_
              cases h
              exact px_ePa (Or.inl ⟨_, rfl⟩) hQ hx hb hr hlocks dX6_shapeOf_102
            · rw [if_neg c6] at h
              refine px_tdef hx hb dX6_shapeOf_1 (fun w1 w2 => ?_) (tgt := 106) (by decide) ?_
              · obtain w | w | w | w | w | w | w | w | w | w | w | w | w | w | w | w | w | w : (x0).toInt = 101 ∨ (x0).toInt = 102 ∨ (x0).toInt = 103 ∨ (x0).toInt = 104 ∨ (x0).toInt = 105 ∨ (x0).toInt = 106 ∨ (x0).toInt = 107 ∨ (x0).toInt = 108 ∨ (x0).toInt = 109 ∨ (x0).toInt = 110 ∨ (x0).toInt = 111 ∨ (x0).toInt = 112 ∨ (x0).toInt = 113 ∨ (x0).toInt = 114 ∨ (x0).toInt = 115 ∨ (x0).toInt = 116 ∨ (x0).toInt = 117 ∨ (x0).toInt = 118 := by omega
                · exact absurd (Int32.toInt_inj.mp (w.trans (show (101 : Int) = (nI 101).toInt from by decide))) c1
                · exact absurd (Int32.toInt_inj.mp (w.trans (show (102 : Int) = (nI 102).toInt from by decide))) c2
                · rw [w]; rfl
                · rw [w]; rfl
                · rw [w]; rfl
                · rw [w]; rfl
                · rw [w]; rfl
                · rw [w]; rfl
                · exact absurd (Int32.toInt_inj.mp (w.trans (show (109 : Int) = (nI 109).toInt from by decide))) c3
                · rw [w]; rfl
                · rw [w]; rfl
                · exact absurd (Int32.toInt_inj.mp (w.trans (show (112 : Int) = (nI 112).toInt from by decide))) c4
                · rw [w]; rfl
                · exact absurd (Int32.toInt_inj.mp (w.trans (show (114 : Int) = (nI 114).toInt from by decide))) c5
                · rw [w]; rfl
                · rw [w]; rfl
                · rw [w]; rfl
                · exact absurd (Int32.toInt_inj.mp (w.trans (show (118 : Int) = (nI 118).toInt from by decide))) c6
              · refine px_ldcS (i := 5) (tx := "") hx hb hown hX rfl dX6_shapeOf_106 ?_
                cases h
                exact px_ePa (Or.inl ⟨_, rfl⟩) hQ hx hb hr hlocks dX6_shapeOf_108
def f6_isDigit (x0 : Int32)  : Option (Bool) := (if x0 < (nI 48) then (some false) else (if (nI 57) < x0 then (some false) else (some true)))
set_option maxHeartbeats 4000000 in
set_option maxRecDepth 100000 in
theorem c6_isDigit (l : Launch) (E : PE)   (x0 : Int32)  (r : Bool) (h : f6_isDigit x0 = some r) : MP l yX6_isDigit cX6_isDigit 1 (some .boolean) { frames := 0, cells := 0, slots := 0, locals := 0 } E [.int x0] ([] : List va_W).flatten (some (.int (b2i r))) := by
  refine px_startP (by decide +kernel) (Nat.le_of_ble_eq_true rfl) ?_
  intro p e s m args below meth c R Q A ls hC hQ
  obtain ⟨hx, hb, hr, hml, hts, hown, hlocks, hR, hK, hN, hP, hD, hA, hl, hin⟩ := hC
  have hl : lv_has ls 1 [(0, .int x0)] := hl
  unfold f6_isDigit at h
  refine lv_iload_n hx hb dX6_isDigit_0 rfl (lv_at hl 0 rfl) ?_
  refine lv_bipush (v := (nI 48)) hx hb dX6_isDigit_1 (by decide) ?_
  refine lv_icmp_lt (tgt := 16) hx hb dX6_isDigit_3 (by decide) (fun c1 => ?_) (fun c1 => ?_)
  · rw [if_pos c1] at h
    refine lv_iconst (v := (nI 0)) hx hb dX6_isDigit_16 (by decide) ?_
    cases h
    refine W.eq (g2 := F0 m 17 ls [.int (b2i false)]) rfl ?_
    exact px_ePz (b2i_n _) hQ hx hb hr hlocks dX6_isDigit_17
  · rw [if_neg c1] at h
    refine lv_iload_n hx hb dX6_isDigit_6 rfl (lv_at hl 0 rfl) ?_
    refine lv_bipush (v := (nI 57)) hx hb dX6_isDigit_7 (by decide) ?_
    refine lv_icmp_gt (tgt := 16) hx hb dX6_isDigit_9 (by decide) (fun c2 => ?_) (fun c2 => ?_)
    · rw [if_pos c2] at h
      refine lv_iconst (v := (nI 0)) hx hb dX6_isDigit_16 (by decide) ?_
      cases h
      refine W.eq (g2 := F0 m 17 ls [.int (b2i false)]) rfl ?_
      exact px_ePz (b2i_n _) hQ hx hb hr hlocks dX6_isDigit_17
    · rw [if_neg c2] at h
      refine lv_iconst (v := (nI 1)) hx hb dX6_isDigit_12 (by decide) ?_
      refine lv_goto (tgt := 17) hx hb dX6_isDigit_13 (by decide) ?_
      cases h
      refine W.eq (g2 := F0 m 17 ls [.int (b2i true)]) rfl ?_
      exact px_ePz (b2i_n _) hQ hx hb hr hlocks dX6_isDigit_17
def f6_store (x1 : Int32) (v_rows : AI) (v_count : Int32) (v_column : Int32) : Option (AI × Int32) := (if ((v_count * (nI 4)) + v_column) < 0 then (lt (v_column + (nI 1)) fun u2 => (some (v_rows, u2))) else (if (nI 84) ≤ ((v_count * (nI 4)) + v_column) then (lt (v_column + (nI 1)) fun u5 => (some (v_rows, u5))) else (if inb ((v_count * (nI 4)) + v_column) 84 = true then (lt (upd v_rows (((v_count * (nI 4)) + v_column)).toNatClampNeg x1) fun u8 => (lt (v_column + (nI 1)) fun u10 => (some (u8, u10)))) else none)))
set_option maxHeartbeats 4000000 in
set_option maxRecDepth 100000 in
theorem c6_store (l : Launch) (E : PE) (a : Nat → Nat)  (x1 : Int32) (v_rows : AI) (v_count : Int32) (v_position : Int32) (v_column : Int32) (z_this_rows : AI) (z_this_column : Int32) (h : f6_store x1 v_rows v_count v_column = some (z_this_rows, z_this_column)) : MW l yX6_store cX6_store 3 none { frames := 0, cells := 0, slots := 0, locals := 0 } E [.ref (a 0), .int x1] ([gX6 E a v_rows v_count v_position v_column] : List va_W).flatten 0 0 none ([gX6 E a z_this_rows v_count v_position z_this_column] : List va_W).flatten := by
  refine px_startW (by decide +kernel) (Nat.le_of_ble_eq_true rfl) ?_
  intro p e s m args below meth c R Q A ls hC hA0 hQ
  obtain ⟨hx, hb, hr, hml, hts, hown, hlocks, hR, hK, hN, hP, hD, hA, hl, hin⟩ := hC
  have hl : lv_has ls 3 [(0, .ref (a 0)), (1, .int x1)] := hl
  suffices key : ∀ (H : Heap) (locs : List Loc), va_P E.1 vwCl ([gX6 E a v_rows v_count v_position v_column] : List va_W).flatten H → va_S A s.heap H locs → W p l e R s m args below meth c H locs 0 0 Q (F0 m 0 ls []) from key s.heap [] hP va_S.rf
  unfold f6_store at h
  intro H locs hP hS
  refine lv_aload_n hx hb dX6_store_0 rfl (lv_at hl 0 rfl) ?_
  refine va_get (D := E.1) (ci := 6) (v := .int v_count) (C := RX6) (T := TX6) (N := 4) hx hb hts iX6 hown hK hP 0 rfl rfl 1 (by decide) (hts _ q189) (fun _ h9 => h9) rfl dX6_store_1 ?_
  refine lv_iconst (v := (nI 4)) hx hb dX6_store_4 (by decide) ?_
  refine lv_imul hx hb dX6_store_5 ?_
  refine lv_aload_n hx hb dX6_store_6 rfl (lv_at hl 0 rfl) ?_
  refine va_get (D := E.1) (ci := 6) (v := .int v_column) (C := RX6) (T := TX6) (N := 4) hx hb hts iX6 hown hK hP 0 rfl rfl 3 (by decide) (hts _ q191) (fun _ h9 => h9) rfl dX6_store_7 ?_
  refine lv_iadd hx hb dX6_store_10 ?_
  refine lv_istore_n (lv' := [(2, .int ((v_count * (nI 4)) + v_column)), (0, .ref (a 0)), (1, .int x1)]) hx hb dX6_store_11 rfl hl (by decide) rfl (fun ls hl => ?_)
  refine lv_iload_n hx hb dX6_store_12 rfl (lv_at hl 0 rfl) ?_
  refine lv_if_lt (tgt := 32) hx hb dX6_store_13 (by decide) (fun c1 => ?_) (fun c1 => ?_)
  · rw [if_pos c1] at h
    refine lv_aload_n hx hb dX6_store_32 rfl (lv_at hl 1 rfl) ?_
    refine lv_dup hx hb dX6_store_33 rfl ?_
    refine va_get (D := E.1) (ci := 6) (v := .int v_column) (C := RX6) (T := TX6) (N := 4) hx hb hts iX6 hown hK hP 0 rfl rfl 3 (by decide) (hts _ q191) (fun _ h9 => h9) rfl dX6_store_34 ?_
    refine lv_iconst (v := (nI 1)) hx hb dX6_store_37 (by decide) ?_
    refine lv_iadd hx hb dX6_store_38 ?_
    refine va_put (D := E.1) (ci := 6) (v := .int (v_column + (nI 1))) (ty := .int) (C := RX6) (T := TX6) (N := 4) hx hb hts iX6 tyX6 tyX6_ok nmX6 hown hK hP hD hS 0 rfl rfl 3 (by decide) (hts _ q191) (fun _ h9 => h9) rfl (tyX6_ok 3 (by decide)) rfl rfl (Nat.le_of_ble_eq_true rfl) dX6_store_39 (fun H locs hP hD hS => ?_)
    have hP : va_P E.1 vwCl ([gX6 E a v_rows v_count v_position (v_column + (nI 1))] : List va_W).flatten H := hP
    have hD : va_D A ([gX6 E a v_rows v_count v_position (v_column + (nI 1))] : List va_W).flatten := hD
    obtain ⟨u2, e3, h⟩ := lt_e h
    rw [← e3] at hP hD
    cases h
    exact px_eWv hA0 hQ hP hD hS hx hb hr hlocks dX6_store_42
  · rw [if_neg c1] at h
    refine lv_iload_n hx hb dX6_store_16 rfl (lv_at hl 0 rfl) ?_
    refine lv_aload_n hx hb dX6_store_17 rfl (lv_at hl 1 rfl) ?_
    refine va_get (D := E.1) (ci := 6) (v := .ref (a 1)) (C := RX6) (T := TX6) (N := 4) hx hb hts iX6 hown hK hP 0 rfl rfl 0 (by decide) (hts _ q188) (fun _ h9 => h9) rfl dX6_store_18 ?_
    refine va_alen (v := (nI 84)) hx hb hK hP 1 0 rfl rfl rfl dX6_store_21 ?_
    refine lv_icmp_ge (tgt := 32) hx hb dX6_store_22 (by decide) (fun c4 => ?_) (fun c4 => ?_)
    · rw [if_pos c4] at h
      refine lv_aload_n hx hb dX6_store_32 rfl (lv_at hl 1 rfl) ?_
      refine lv_dup hx hb dX6_store_33 rfl ?_
      refine va_get (D := E.1) (ci := 6) (v := .int v_column) (C := RX6) (T := TX6) (N := 4) hx hb hts iX6 hown hK hP 0 rfl rfl 3 (by decide) (hts _ q191) (fun _ h9 => h9) rfl dX6_store_34 ?_
      refine lv_iconst (v := (nI 1)) hx hb dX6_store_37 (by decide) ?_
      refine lv_iadd hx hb dX6_store_38 ?_
      refine va_put (D := E.1) (ci := 6) (v := .int (v_column + (nI 1))) (ty := .int) (C := RX6) (T := TX6) (N := 4) hx hb hts iX6 tyX6 tyX6_ok nmX6 hown hK hP hD hS 0 rfl rfl 3 (by decide) (hts _ q191) (fun _ h9 => h9) rfl (tyX6_ok 3 (by decide)) rfl rfl (Nat.le_of_ble_eq_true rfl) dX6_store_39 (fun H locs hP hD hS => ?_)
      have hP : va_P E.1 vwCl ([gX6 E a v_rows v_count v_position (v_column + (nI 1))] : List va_W).flatten H := hP
      have hD : va_D A ([gX6 E a v_rows v_count v_position (v_column + (nI 1))] : List va_W).flatten := hD
      obtain ⟨u5, e6, h⟩ := lt_e h
      rw [← e6] at hP hD
      cases h
      exact px_eWv hA0 hQ hP hD hS hx hb hr hlocks dX6_store_42
    · rw [if_neg c4] at h
      refine lv_aload_n hx hb dX6_store_25 rfl (lv_at hl 1 rfl) ?_
      refine va_get (D := E.1) (ci := 6) (v := .ref (a 1)) (C := RX6) (T := TX6) (N := 4) hx hb hts iX6 hown hK hP 0 rfl rfl 0 (by decide) (hts _ q188) (fun _ h9 => h9) rfl dX6_store_26 ?_
      refine lv_iload_n hx hb dX6_store_29 rfl (lv_at hl 0 rfl) ?_
      refine lv_iload_n hx hb dX6_store_30 rfl (lv_at hl 2 rfl) ?_
      obtain ⟨i7, h⟩ := o_t h
      refine va_iast (f := v_rows) hx hb hK hP hD hS 1 0 rfl rfl (inb_in i7) dX6_store_31 (fun H locs hP hD hS => ?_)
      have hP : va_P E.1 vwCl ([gX6 E a (upd v_rows (((v_count * (nI 4)) + v_column)).toNatClampNeg x1) v_count v_position v_column] : List va_W).flatten H := hP
      have hD : va_D A ([gX6 E a (upd v_rows (((v_count * (nI 4)) + v_column)).toNatClampNeg x1) v_count v_position v_column] : List va_W).flatten := hD
      obtain ⟨u8, e9, h⟩ := lt_e h
      rw [← e9] at hP hD
      refine lv_aload_n hx hb dX6_store_32 rfl (lv_at hl 1 rfl) ?_
      refine lv_dup hx hb dX6_store_33 rfl ?_
      refine va_get (D := E.1) (ci := 6) (v := .int v_column) (C := RX6) (T := TX6) (N := 4) hx hb hts iX6 hown hK hP 0 rfl rfl 3 (by decide) (hts _ q191) (fun _ h9 => h9) rfl dX6_store_34 ?_
      refine lv_iconst (v := (nI 1)) hx hb dX6_store_37 (by decide) ?_
      refine lv_iadd hx hb dX6_store_38 ?_
      refine va_put (D := E.1) (ci := 6) (v := .int (v_column + (nI 1))) (ty := .int) (C := RX6) (T := TX6) (N := 4) hx hb hts iX6 tyX6 tyX6_ok nmX6 hown hK hP hD hS 0 rfl rfl 3 (by decide) (hts _ q191) (fun _ h9 => h9) rfl (tyX6_ok 3 (by decide)) rfl rfl (Nat.le_of_ble_eq_true rfl) dX6_store_39 (fun H locs hP hD hS => ?_)
      have hP : va_P E.1 vwCl ([gX6 E a u8 v_count v_position (v_column + (nI 1))] : List va_W).flatten H := hP
      have hD : va_D A ([gX6 E a u8 v_count v_position (v_column + (nI 1))] : List va_W).flatten := hD
      obtain ⟨u10, e11, h⟩ := lt_e h
      rw [← e11] at hP hD
      cases h
      exact px_eWv hA0 hQ hP hD hS hx hb hr hlocks dX6_store_42
def f6_numberAt (x1 : Int32) (x2 : Int32) (v_rows : AI) : Option (Int32) := (if ((x1 * (nI 4)) + x2) < 0 then (some (-1 : Int32)) else (if (nI 84) ≤ ((x1 * (nI 4)) + x2) then (some (-1 : Int32)) else (if inb ((x1 * (nI 4)) + x2) 84 = true then (some (v_rows (((x1 * (nI 4)) + x2)).toNatClampNeg)) else none)))
set_option maxHeartbeats 4000000 in
set_option maxRecDepth 100000 in
theorem c6_numberAt (l : Launch) (E : PE) (a : Nat → Nat)  (x1 : Int32) (x2 : Int32) (v_rows : AI) (v_count : Int32) (v_position : Int32) (v_column : Int32) (r : Int32) (h : f6_numberAt x1 x2 v_rows = some r) : MP l yX6_numberAt cX6_numberAt 4 (some .int) { frames := 0, cells := 0, slots := 0, locals := 0 } E [.ref (a 0), .int x1, .int x2] ([gX6 E a v_rows v_count v_position v_column] : List va_W).flatten (some (.int r)) := by
  refine px_startP (by decide +kernel) (Nat.le_of_ble_eq_true rfl) ?_
  intro p e s m args below meth c R Q A ls hC hQ
  obtain ⟨hx, hb, hr, hml, hts, hown, hlocks, hR, hK, hN, hP, hD, hA, hl, hin⟩ := hC
  have hl : lv_has ls 4 [(0, .ref (a 0)), (1, .int x1), (2, .int x2)] := hl
  unfold f6_numberAt at h
  refine lv_iload_n hx hb dX6_numberAt_0 rfl (lv_at hl 1 rfl) ?_
  refine lv_iconst (v := (nI 4)) hx hb dX6_numberAt_1 (by decide) ?_
  refine lv_imul hx hb dX6_numberAt_2 ?_
  refine lv_iload_n hx hb dX6_numberAt_3 rfl (lv_at hl 2 rfl) ?_
  refine lv_iadd hx hb dX6_numberAt_4 ?_
  refine lv_istore_n (lv' := [(3, .int ((x1 * (nI 4)) + x2)), (0, .ref (a 0)), (1, .int x1), (2, .int x2)]) hx hb dX6_numberAt_5 rfl hl (by decide) rfl (fun ls hl => ?_)
  refine lv_iload_n hx hb dX6_numberAt_6 rfl (lv_at hl 0 rfl) ?_
  refine lv_if_lt (tgt := 28) hx hb dX6_numberAt_7 (by decide) (fun c1 => ?_) (fun c1 => ?_)
  · rw [if_pos c1] at h
    refine lv_iconst (v := (-1 : Int32)) hx hb dX6_numberAt_28 (by decide) ?_
    cases h
    exact px_ePi hQ hx hb hr hlocks dX6_numberAt_29
  · rw [if_neg c1] at h
    refine lv_iload_n hx hb dX6_numberAt_10 rfl (lv_at hl 0 rfl) ?_
    refine lv_aload_n hx hb dX6_numberAt_11 rfl (lv_at hl 1 rfl) ?_
    refine va_get (D := E.1) (ci := 6) (v := .ref (a 1)) (C := RX6) (T := TX6) (N := 4) hx hb hts iX6 hown hK hP 0 rfl rfl 0 (by decide) (hts _ q188) (fun _ h9 => h9) rfl dX6_numberAt_12 ?_
    refine va_alen (v := (nI 84)) hx hb hK hP 1 0 rfl rfl rfl dX6_numberAt_15 ?_
    refine lv_icmp_ge (tgt := 28) hx hb dX6_numberAt_16 (by decide) (fun c2 => ?_) (fun c2 => ?_)
    · rw [if_pos c2] at h
      refine lv_iconst (v := (-1 : Int32)) hx hb dX6_numberAt_28 (by decide) ?_
      cases h
      exact px_ePi hQ hx hb hr hlocks dX6_numberAt_29
    · rw [if_neg c2] at h
      refine lv_aload_n hx hb dX6_numberAt_19 rfl (lv_at hl 1 rfl) ?_
      refine va_get (D := E.1) (ci := 6) (v := .ref (a 1)) (C := RX6) (T := TX6) (N := 4) hx hb hts iX6 hown hK hP 0 rfl rfl 0 (by decide) (hts _ q188) (fun _ h9 => h9) rfl dX6_numberAt_20 ?_
      refine lv_iload_n hx hb dX6_numberAt_23 rfl (lv_at hl 0 rfl) ?_
      obtain ⟨i3, h⟩ := o_t h
      refine va_iald (f := v_rows) hx hb hK hP 1 0 rfl rfl (inb_in i3) dX6_numberAt_24 ?_
      refine lv_goto (tgt := 29) hx hb dX6_numberAt_25 (by decide) ?_
      cases h
      exact px_ePi hQ hx hb hr hlocks dX6_numberAt_29
def f6_parseSign (x2 : Int32) (v_rows : AI) (v_count : Int32) (v_position : Int32) (v_column : Int32) (inp_signs : AI) (inp_length : Int32) : Option (Bool × AI × Int32 × Int32) := ((f3_signAt (v_position) (inp_signs) (inp_length)).bind fun r1 => (if (ch x2) = (nI 49) then ((f6_isDigit (r1)).bind fun r4 => (if (b2i r4) = 0 then (some (false, v_rows, v_position, v_column)) else (lt (v_position + (nI 1)) fun u7 => ((f3_signAt (u7) (inp_signs) (inp_length)).bind fun r9 => (if (ch x2) = (nI 50) then ((f6_isDigit (r9)).bind fun r15 => (if (b2i r15) = 0 then ((f6_store ((r1 - (nI 48))) (v_rows) (v_count) (v_column)).bind fun (w18, w19) => (some (true, w18, u7, w19))) else (lt (u7 + (nI 1)) fun u21 => ((f6_store (((((r1 - (nI 48)) * (nI 10)) + r9) - (nI 48))) (v_rows) (v_count) (v_column)).bind fun (w23, w24) => (some (true, w23, u21, w24)))))) else ((f6_store ((r1 - (nI 48))) (v_rows) (v_count) (v_column)).bind fun (w12, w13) => (some (true, w12, u7, w13)))))))) else (if (ch x2) = (nI 50) then ((f6_isDigit (r1)).bind fun r27 => (if (b2i r27) = 0 then (some (false, v_rows, v_position, v_column)) else (lt (v_position + (nI 1)) fun u30 => ((f3_signAt (u30) (inp_signs) (inp_length)).bind fun r32 => (if (ch x2) = (nI 50) then ((f6_isDigit (r32)).bind fun r38 => (if (b2i r38) = 0 then ((f6_store ((r1 - (nI 48))) (v_rows) (v_count) (v_column)).bind fun (w41, w42) => (some (true, w41, u30, w42))) else (lt (u30 + (nI 1)) fun u44 => ((f6_store (((((r1 - (nI 48)) * (nI 10)) + r32) - (nI 48))) (v_rows) (v_count) (v_column)).bind fun (w46, w47) => (some (true, w46, u44, w47)))))) else ((f6_store ((r1 - (nI 48))) (v_rows) (v_count) (v_column)).bind fun (w35, w36) => (some (true, w35, u30, w36)))))))) else (if r1 = (ch x2) then (lt (v_position + (nI 1)) fun u50 => (some (true, v_rows, u50, v_column))) else (some (false, v_rows, v_position, v_column))))))
set_option maxHeartbeats 4000000 in
set_option maxRecDepth 100000 in
theorem c6_parseSign (l : Launch) (E : PE) (a : Nat → Nat) (a_inp : Nat → Nat)  (x2 : Int32) (v_rows : AI) (v_count : Int32) (v_position : Int32) (v_column : Int32) (inp_signs : AI) (inp_length : Int32) (r : Bool) (z_this_rows : AI) (z_this_position : Int32) (z_this_column : Int32) (h : f6_parseSign x2 v_rows v_count v_position v_column inp_signs inp_length = some (r, z_this_rows, z_this_position, z_this_column)) : MW l yX6_parseSign cX6_parseSign 6 (some .boolean) { frames := 1, cells := 0, slots := 0, locals := 22 } E [.ref (a 0), .ref (a_inp 0), .int (ch x2)] ([gX6 E a v_rows v_count v_position v_column, gX3 E a_inp inp_signs inp_length] : List va_W).flatten 0 0 (some (.int (b2i r))) ([gX6 E a z_this_rows v_count z_this_position z_this_column, gX3 E a_inp inp_signs inp_length] : List va_W).flatten := by
  refine px_startW (by decide +kernel) (Nat.le_of_ble_eq_true rfl) ?_
  intro p e s m args below meth c R Q A ls hC hA0 hQ
  obtain ⟨hx, hb, hr, hml, hts, hown, hlocks, hR, hK, hN, hP, hD, hA, hl, hin⟩ := hC
  have hl : lv_has ls 6 [(0, .ref (a 0)), (1, .ref (a_inp 0)), (2, .int (ch x2))] := hl
  suffices key : ∀ (H : Heap) (locs : List Loc), va_P E.1 vwCl ([gX6 E a v_rows v_count v_position v_column, gX3 E a_inp inp_signs inp_length] : List va_W).flatten H → va_S A s.heap H locs → W p l e R s m args below meth c H locs 0 0 Q (F0 m 0 ls []) from key s.heap [] hP va_S.rf
  unfold f6_parseSign at h
  intro H locs hP hS
  refine lv_aload_n hx hb dX6_parseSign_0 rfl (lv_at hl 1 rfl) ?_
  refine lv_aload_n hx hb dX6_parseSign_1 rfl (lv_at hl 0 rfl) ?_
  refine va_get (D := E.1) (ci := 6) (v := .int v_position) (C := RX6) (T := TX6) (N := 4) hx hb hts iX6 hown hK hP 0 rfl rfl 2 (by decide) (hts _ q190) (fun _ h9 => h9) rfl dX6_parseSign_2 ?_
  obtain ⟨r1, hr2, h⟩ := ob h
  refine px_Vp (As := [.int v_position]) (rest := []) (gs := ([gX6 E a v_rows v_count v_position v_column, gX3 E a_inp inp_signs inp_length] : List va_W)) (gc := ([gX3 E a_inp inp_signs inp_length] : List va_W)) ⟨hx, hb, hml, hown, hts⟩ (c3_signAt l E a_inp  (v_position) (inp_signs) (inp_length) r1 hr2) (cwV 1 hts (ws_v q746 q747 q748 q24 q749) rfl rfl rfl hdV_X3_signAt (by rw [hR]; exact ⟨Nat.le_of_ble_eq_true rfl, Nat.le_of_ble_eq_true rfl⟩)) hK hN hP hD [1] rfl (by decide) 0 3 rfl rfl rfl rfl hl.1 rfl (Nat.le_of_ble_eq_true rfl) dX6_parseSign_5 (by rw [hR]; exact ⟨Nat.le_of_ble_eq_true rfl, Nat.le_of_ble_eq_true rfl⟩) ?_
  refine W.eq (g2 := F0 m 8 ls [.int r1]) rfl ?_
  refine lv_istore_n (lv' := [(3, .int r1), (0, .ref (a 0)), (1, .ref (a_inp 0)), (2, .int (ch x2))]) hx hb dX6_parseSign_8 rfl hl (by decide) rfl (fun ls hl => ?_)
  refine lv_iload_n hx hb dX6_parseSign_9 rfl (lv_at hl 3 rfl) ?_
  refine lv_bipush (v := (nI 49)) hx hb dX6_parseSign_10 (by decide) ?_
  refine lv_icmp_eq (tgt := 40) hx hb dX6_parseSign_12 (by decide) (fun c3 => ?_) (fun c3 => ?_)
  · rw [if_pos c3] at h
    refine lv_iload_n hx hb dX6_parseSign_40 rfl (lv_at hl 0 rfl) ?_
    obtain ⟨r4, hr5, h⟩ := ob h
    refine px_Sp (As := [.int r1]) (rest := []) (gs := ([gX6 E a v_rows v_count v_position v_column, gX3 E a_inp inp_signs inp_length] : List va_W)) (gc := ([] : List va_W)) ⟨hx, hb, hml, hown, hts⟩ (c6_isDigit l E   (r1)  r4 hr5) (va_cwS 1 hts (ws_s q819 q820 q25 q821) rfl rfl rfl hdS_X6_isDigit (by rw [hR]; exact ⟨Nat.le_of_ble_eq_true rfl, Nat.le_of_ble_eq_true rfl⟩)) hK hN hP hD [] rfl (by decide) rfl hl.1 rfl (Nat.le_of_ble_eq_true rfl) dX6_parseSign_41 (by rw [hR]; exact ⟨Nat.le_of_ble_eq_true rfl, Nat.le_of_ble_eq_true rfl⟩) ?_
    refine W.eq (g2 := F0 m 44 ls [.int (b2i r4)]) rfl ?_
    refine lv_if_ne (tgt := 49) hx hb dX6_parseSign_44 (by decide) (fun c6 => ?_) (fun c6 => ?_)
    · rw [if_neg c6] at h
      refine lv_aload_n hx hb dX6_parseSign_49 rfl (lv_at hl 1 rfl) ?_
      refine lv_dup hx hb dX6_parseSign_50 rfl ?_
      refine va_get (D := E.1) (ci := 6) (v := .int v_position) (C := RX6) (T := TX6) (N := 4) hx hb hts iX6 hown hK hP 0 rfl rfl 2 (by decide) (hts _ q190) (fun _ h9 => h9) rfl dX6_parseSign_51 ?_
      refine lv_iconst (v := (nI 1)) hx hb dX6_parseSign_54 (by decide) ?_
      refine lv_iadd hx hb dX6_parseSign_55 ?_
      refine va_put (D := E.1) (ci := 6) (v := .int (v_position + (nI 1))) (ty := .int) (C := RX6) (T := TX6) (N := 4) hx hb hts iX6 tyX6 tyX6_ok nmX6 hown hK hP hD hS 0 rfl rfl 2 (by decide) (hts _ q190) (fun _ h9 => h9) rfl (tyX6_ok 2 (by decide)) rfl rfl (Nat.le_of_ble_eq_true rfl) dX6_parseSign_56 (fun H locs hP hD hS => ?_)
      have hP : va_P E.1 vwCl ([gX6 E a v_rows v_count (v_position + (nI 1)) v_column, gX3 E a_inp inp_signs inp_length] : List va_W).flatten H := hP
      have hD : va_D A ([gX6 E a v_rows v_count (v_position + (nI 1)) v_column, gX3 E a_inp inp_signs inp_length] : List va_W).flatten := hD
      obtain ⟨u7, e8, h⟩ := lt_e h
      rw [← e8] at hP hD
      refine lv_iload_n hx hb dX6_parseSign_59 rfl (lv_at hl 0 rfl) ?_
      refine lv_bipush (v := (nI 48)) hx hb dX6_parseSign_60 (by decide) ?_
      refine lv_isub hx hb dX6_parseSign_62 ?_
      refine lv_istore (lv' := [(4, .int (r1 - (nI 48))), (3, .int r1), (0, .ref (a 0)), (1, .ref (a_inp 0)), (2, .int (ch x2))]) hx hb dX6_parseSign_63 hl (by decide) rfl (fun ls hl => ?_)
      refine lv_aload_n hx hb dX6_parseSign_65 rfl (lv_at hl 3 rfl) ?_
      refine lv_aload_n hx hb dX6_parseSign_66 rfl (lv_at hl 2 rfl) ?_
      refine va_get (D := E.1) (ci := 6) (v := .int u7) (C := RX6) (T := TX6) (N := 4) hx hb hts iX6 hown hK hP 0 rfl rfl 2 (by decide) (hts _ q190) (fun _ h9 => h9) rfl dX6_parseSign_67 ?_
      obtain ⟨r9, hr10, h⟩ := ob h
      refine px_Vp (As := [.int u7]) (rest := []) (gs := ([gX6 E a v_rows v_count u7 v_column, gX3 E a_inp inp_signs inp_length] : List va_W)) (gc := ([gX3 E a_inp inp_signs inp_length] : List va_W)) ⟨hx, hb, hml, hown, hts⟩ (c3_signAt l E a_inp  (u7) (inp_signs) (inp_length) r9 hr10) (cwV 1 hts (ws_v q746 q747 q748 q24 q749) rfl rfl rfl hdV_X3_signAt (by rw [hR]; exact ⟨Nat.le_of_ble_eq_true rfl, Nat.le_of_ble_eq_true rfl⟩)) hK hN hP hD [1] rfl (by decide) 0 3 rfl rfl rfl rfl hl.1 rfl (Nat.le_of_ble_eq_true rfl) dX6_parseSign_70 (by rw [hR]; exact ⟨Nat.le_of_ble_eq_true rfl, Nat.le_of_ble_eq_true rfl⟩) ?_
      refine W.eq (g2 := F0 m 73 ls [.int r9]) rfl ?_
      refine lv_istore (lv' := [(5, .int r9), (4, .int (r1 - (nI 48))), (3, .int r1), (0, .ref (a 0)), (1, .ref (a_inp 0)), (2, .int (ch x2))]) hx hb dX6_parseSign_73 hl (by decide) rfl (fun ls hl => ?_)
      refine lv_iload_n hx hb dX6_parseSign_75 rfl (lv_at hl 5 rfl) ?_
      refine lv_bipush (v := (nI 50)) hx hb dX6_parseSign_76 (by decide) ?_
      refine lv_icmp_ne (tgt := 112) hx hb dX6_parseSign_78 (by decide) (fun c11 => ?_) (fun c11 => ?_)
      · rw [if_neg c11] at h
        refine lv_aload_n hx hb dX6_parseSign_112 rfl (lv_at hl 3 rfl) ?_
        refine lv_iload hx hb dX6_parseSign_113 (lv_at hl 1 rfl) ?_
        obtain ⟨⟨w12, w13⟩, hr14, h⟩ := ob h
        dsimp only at h
        refine px_V (As := [.int (r1 - (nI 48))]) (rest := []) (gs := ([gX6 E a v_rows v_count u7 v_column, gX3 E a_inp inp_signs inp_length] : List va_W)) (gr := ([gX3 E a_inp inp_signs inp_length] : List va_W)) (gc := ([gX6 E a v_rows v_count u7 v_column] : List va_W)) (g1 := ([gX6 E a w12 v_count u7 w13] : List va_W)) (g2 := ([gX6 E a w12 v_count u7 w13, gX3 E a_inp inp_signs inp_length] : List va_W)) ⟨hx, hb, hml, hown, hts⟩ (c6_store l E a  ((r1 - (nI 48))) (v_rows) (v_count) (u7) (v_column) w12 w13 hr14) (cwV 1 hts (ws_v q763 q765 q11 q25 q766) rfl rfl rfl hdV_X6_store (by rw [hR]; exact ⟨Nat.le_of_ble_eq_true rfl, Nat.le_of_ble_eq_true rfl⟩)) hK hN hP hD hS hA [1] [0] [1, 0] rfl rfl (by decide) (by decide) rfl (by decide) 0 6 rfl rfl rfl rfl hl.1 rfl (Nat.le_of_ble_eq_true rfl) dX6_parseSign_115 (by rw [hR]; exact ⟨Nat.le_of_ble_eq_true rfl, Nat.le_of_ble_eq_true rfl⟩) (fun H locs hP hD hS => ?_)
        refine W.eq (g2 := F0 m 118 ls []) rfl ?_
        refine lv_iconst (v := (nI 1)) hx hb dX6_parseSign_118 (by decide) ?_
        cases h
        refine W.eq (g2 := F0 m 119 ls [.int (b2i true)]) rfl ?_
        exact px_eWz (b2i_n _) hA0 hQ hP hD hS hx hb hr hlocks dX6_parseSign_119
      · rw [if_pos c11] at h
        refine lv_iload hx hb dX6_parseSign_81 (lv_at hl 0 rfl) ?_
        obtain ⟨r15, hr16, h⟩ := ob h
        refine px_Sp (As := [.int r9]) (rest := []) (gs := ([gX6 E a v_rows v_count u7 v_column, gX3 E a_inp inp_signs inp_length] : List va_W)) (gc := ([] : List va_W)) ⟨hx, hb, hml, hown, hts⟩ (c6_isDigit l E   (r9)  r15 hr16) (va_cwS 1 hts (ws_s q819 q820 q25 q821) rfl rfl rfl hdS_X6_isDigit (by rw [hR]; exact ⟨Nat.le_of_ble_eq_true rfl, Nat.le_of_ble_eq_true rfl⟩)) hK hN hP hD [] rfl (by decide) rfl hl.1 rfl (Nat.le_of_ble_eq_true rfl) dX6_parseSign_83 (by rw [hR]; exact ⟨Nat.le_of_ble_eq_true rfl, Nat.le_of_ble_eq_true rfl⟩) ?_
        refine W.eq (g2 := F0 m 86 ls [.int (b2i r15)]) rfl ?_
        refine lv_if_eq (tgt := 112) hx hb dX6_parseSign_86 (by decide) (fun c17 => ?_) (fun c17 => ?_)
        · rw [if_pos c17] at h
          refine lv_aload_n hx hb dX6_parseSign_112 rfl (lv_at hl 3 rfl) ?_
          refine lv_iload hx hb dX6_parseSign_113 (lv_at hl 1 rfl) ?_
          obtain ⟨⟨w18, w19⟩, hr20, h⟩ := ob h
          dsimp only at h
          refine px_V (As := [.int (r1 - (nI 48))]) (rest := []) (gs := ([gX6 E a v_rows v_count u7 v_column, gX3 E a_inp inp_signs inp_length] : List va_W)) (gr := ([gX3 E a_inp inp_signs inp_length] : List va_W)) (gc := ([gX6 E a v_rows v_count u7 v_column] : List va_W)) (g1 := ([gX6 E a w18 v_count u7 w19] : List va_W)) (g2 := ([gX6 E a w18 v_count u7 w19, gX3 E a_inp inp_signs inp_length] : List va_W)) ⟨hx, hb, hml, hown, hts⟩ (c6_store l E a  ((r1 - (nI 48))) (v_rows) (v_count) (u7) (v_column) w18 w19 hr20) (cwV 1 hts (ws_v q763 q765 q11 q25 q766) rfl rfl rfl hdV_X6_store (by rw [hR]; exact ⟨Nat.le_of_ble_eq_true rfl, Nat.le_of_ble_eq_true rfl⟩)) hK hN hP hD hS hA [1] [0] [1, 0] rfl rfl (by decide) (by decide) rfl (by decide) 0 6 rfl rfl rfl rfl hl.1 rfl (Nat.le_of_ble_eq_true rfl) dX6_parseSign_115 (by rw [hR]; exact ⟨Nat.le_of_ble_eq_true rfl, Nat.le_of_ble_eq_true rfl⟩) (fun H locs hP hD hS => ?_)
          refine W.eq (g2 := F0 m 118 ls []) rfl ?_
          refine lv_iconst (v := (nI 1)) hx hb dX6_parseSign_118 (by decide) ?_
          cases h
          refine W.eq (g2 := F0 m 119 ls [.int (b2i true)]) rfl ?_
          exact px_eWz (b2i_n _) hA0 hQ hP hD hS hx hb hr hlocks dX6_parseSign_119
        · rw [if_neg c17] at h
          refine lv_aload_n hx hb dX6_parseSign_89 rfl (lv_at hl 3 rfl) ?_
          refine lv_dup hx hb dX6_parseSign_90 rfl ?_
          refine va_get (D := E.1) (ci := 6) (v := .int u7) (C := RX6) (T := TX6) (N := 4) hx hb hts iX6 hown hK hP 0 rfl rfl 2 (by decide) (hts _ q190) (fun _ h9 => h9) rfl dX6_parseSign_91 ?_
          refine lv_iconst (v := (nI 1)) hx hb dX6_parseSign_94 (by decide) ?_
          refine lv_iadd hx hb dX6_parseSign_95 ?_
          refine va_put (D := E.1) (ci := 6) (v := .int (u7 + (nI 1))) (ty := .int) (C := RX6) (T := TX6) (N := 4) hx hb hts iX6 tyX6 tyX6_ok nmX6 hown hK hP hD hS 0 rfl rfl 2 (by decide) (hts _ q190) (fun _ h9 => h9) rfl (tyX6_ok 2 (by decide)) rfl rfl (Nat.le_of_ble_eq_true rfl) dX6_parseSign_96 (fun H locs hP hD hS => ?_)
          have hP : va_P E.1 vwCl ([gX6 E a v_rows v_count (u7 + (nI 1)) v_column, gX3 E a_inp inp_signs inp_length] : List va_W).flatten H := hP
          have hD : va_D A ([gX6 E a v_rows v_count (u7 + (nI 1)) v_column, gX3 E a_inp inp_signs inp_length] : List va_W).flatten := hD
          obtain ⟨u21, e22, h⟩ := lt_e h
          rw [← e22] at hP hD
          refine lv_iload hx hb dX6_parseSign_99 (lv_at hl 1 rfl) ?_
          refine lv_bipush (v := (nI 10)) hx hb dX6_parseSign_101 (by decide) ?_
          refine lv_imul hx hb dX6_parseSign_103 ?_
          refine lv_iload hx hb dX6_parseSign_104 (lv_at hl 0 rfl) ?_
          refine lv_iadd hx hb dX6_parseSign_106 ?_
          refine lv_bipush (v := (nI 48)) hx hb dX6_parseSign_107 (by decide) ?_
          refine lv_isub hx hb dX6_parseSign_109 ?_
          refine lv_istore (lv' := [(4, .int ((((r1 - (nI 48)) * (nI 10)) + r9) - (nI 48))), (5, .int r9), (3, .int r1), (0, .ref (a 0)), (1, .ref (a_inp 0)), (2, .int (ch x2))]) hx hb dX6_parseSign_110 hl (by decide) rfl (fun ls hl => ?_)
          refine lv_aload_n hx hb dX6_parseSign_112 rfl (lv_at hl 3 rfl) ?_
          refine lv_iload hx hb dX6_parseSign_113 (lv_at hl 0 rfl) ?_
          obtain ⟨⟨w23, w24⟩, hr25, h⟩ := ob h
          dsimp only at h
          refine px_V (As := [.int ((((r1 - (nI 48)) * (nI 10)) + r9) - (nI 48))]) (rest := []) (gs := ([gX6 E a v_rows v_count u21 v_column, gX3 E a_inp inp_signs inp_length] : List va_W)) (gr := ([gX3 E a_inp inp_signs inp_length] : List va_W)) (gc := ([gX6 E a v_rows v_count u21 v_column] : List va_W)) (g1 := ([gX6 E a w23 v_count u21 w24] : List va_W)) (g2 := ([gX6 E a w23 v_count u21 w24, gX3 E a_inp inp_signs inp_length] : List va_W)) ⟨hx, hb, hml, hown, hts⟩ (c6_store l E a  (((((r1 - (nI 48)) * (nI 10)) + r9) - (nI 48))) (v_rows) (v_count) (u21) (v_column) w23 w24 hr25) (cwV 1 hts (ws_v q763 q765 q11 q25 q766) rfl rfl rfl hdV_X6_store (by rw [hR]; exact ⟨Nat.le_of_ble_eq_true rfl, Nat.le_of_ble_eq_true rfl⟩)) hK hN hP hD hS hA [1] [0] [1, 0] rfl rfl (by decide) (by decide) rfl (by decide) 0 6 rfl rfl rfl rfl hl.1 rfl (Nat.le_of_ble_eq_true rfl) dX6_parseSign_115 (by rw [hR]; exact ⟨Nat.le_of_ble_eq_true rfl, Nat.le_of_ble_eq_true rfl⟩) (fun H locs hP hD hS => ?_)
          refine W.eq (g2 := F0 m 118 ls []) rfl ?_
          refine lv_iconst (v := (nI 1)) hx hb dX6_parseSign_118 (by decide) ?_
          cases h
          refine W.eq (g2 := F0 m 119 ls [.int (b2i true)]) rfl ?_
          exact px_eWz (b2i_n _) hA0 hQ hP hD hS hx hb hr hlocks dX6_parseSign_119
    · rw [if_pos c6] at h
      refine lv_iconst (v := (nI 0)) hx hb dX6_parseSign_47 (by decide) ?_
      cases h
      refine W.eq (g2 := F0 m 48 ls [.int (b2i false)]) rfl ?_
      exact px_eWz (b2i_n _) hA0 hQ hP hD hS hx hb hr hlocks dX6_parseSign_48
  · rw [if_neg c3] at h
    refine lv_iload_n hx hb dX6_parseSign_15 rfl (lv_at hl 3 rfl) ?_
    refine lv_bipush (v := (nI 50)) hx hb dX6_parseSign_16 (by decide) ?_
    refine lv_icmp_eq (tgt := 40) hx hb dX6_parseSign_18 (by decide) (fun c26 => ?_) (fun c26 => ?_)
    · rw [if_pos c26] at h
      refine lv_iload_n hx hb dX6_parseSign_40 rfl (lv_at hl 0 rfl) ?_
      obtain ⟨r27, hr28, h⟩ := ob h
      refine px_Sp (As := [.int r1]) (rest := []) (gs := ([gX6 E a v_rows v_count v_position v_column, gX3 E a_inp inp_signs inp_length] : List va_W)) (gc := ([] : List va_W)) ⟨hx, hb, hml, hown, hts⟩ (c6_isDigit l E   (r1)  r27 hr28) (va_cwS 1 hts (ws_s q819 q820 q25 q821) rfl rfl rfl hdS_X6_isDigit (by rw [hR]; exact ⟨Nat.le_of_ble_eq_true rfl, Nat.le_of_ble_eq_true rfl⟩)) hK hN hP hD [] rfl (by decide) rfl hl.1 rfl (Nat.le_of_ble_eq_true rfl) dX6_parseSign_41 (by rw [hR]; exact ⟨Nat.le_of_ble_eq_true rfl, Nat.le_of_ble_eq_true rfl⟩) ?_
      refine W.eq (g2 := F0 m 44 ls [.int (b2i r27)]) rfl ?_
      refine lv_if_ne (tgt := 49) hx hb dX6_parseSign_44 (by decide) (fun c29 => ?_) (fun c29 => ?_)
      · rw [if_neg c29] at h
        refine lv_aload_n hx hb dX6_parseSign_49 rfl (lv_at hl 1 rfl) ?_
        refine lv_dup hx hb dX6_parseSign_50 rfl ?_
        refine va_get (D := E.1) (ci := 6) (v := .int v_position) (C := RX6) (T := TX6) (N := 4) hx hb hts iX6 hown hK hP 0 rfl rfl 2 (by decide) (hts _ q190) (fun _ h9 => h9) rfl dX6_parseSign_51 ?_
        refine lv_iconst (v := (nI 1)) hx hb dX6_parseSign_54 (by decide) ?_
        refine lv_iadd hx hb dX6_parseSign_55 ?_
        refine va_put (D := E.1) (ci := 6) (v := .int (v_position + (nI 1))) (ty := .int) (C := RX6) (T := TX6) (N := 4) hx hb hts iX6 tyX6 tyX6_ok nmX6 hown hK hP hD hS 0 rfl rfl 2 (by decide) (hts _ q190) (fun _ h9 => h9) rfl (tyX6_ok 2 (by decide)) rfl rfl (Nat.le_of_ble_eq_true rfl) dX6_parseSign_56 (fun H locs hP hD hS => ?_)
        have hP : va_P E.1 vwCl ([gX6 E a v_rows v_count (v_position + (nI 1)) v_column, gX3 E a_inp inp_signs inp_length] : List va_W).flatten H := hP
        have hD : va_D A ([gX6 E a v_rows v_count (v_position + (nI 1)) v_column, gX3 E a_inp inp_signs inp_length] : List va_W).flatten := hD
        obtain ⟨u30, e31, h⟩ := lt_e h
        rw [← e31] at hP hD
        refine lv_iload_n hx hb dX6_parseSign_59 rfl (lv_at hl 0 rfl) ?_
        refine lv_bipush (v := (nI 48)) hx hb dX6_parseSign_60 (by decide) ?_
        refine lv_isub hx hb dX6_parseSign_62 ?_
        refine lv_istore (lv' := [(4, .int (r1 - (nI 48))), (3, .int r1), (0, .ref (a 0)), (1, .ref (a_inp 0)), (2, .int (ch x2))]) hx hb dX6_parseSign_63 hl (by decide) rfl (fun ls hl => ?_)
        refine lv_aload_n hx hb dX6_parseSign_65 rfl (lv_at hl 3 rfl) ?_
        refine lv_aload_n hx hb dX6_parseSign_66 rfl (lv_at hl 2 rfl) ?_
        refine va_get (D := E.1) (ci := 6) (v := .int u30) (C := RX6) (T := TX6) (N := 4) hx hb hts iX6 hown hK hP 0 rfl rfl 2 (by decide) (hts _ q190) (fun _ h9 => h9) rfl dX6_parseSign_67 ?_
        obtain ⟨r32, hr33, h⟩ := ob h
        refine px_Vp (As := [.int u30]) (rest := []) (gs := ([gX6 E a v_rows v_count u30 v_column, gX3 E a_inp inp_signs inp_length] : List va_W)) (gc := ([gX3 E a_inp inp_signs inp_length] : List va_W)) ⟨hx, hb, hml, hown, hts⟩ (c3_signAt l E a_inp  (u30) (inp_signs) (inp_length) r32 hr33) (cwV 1 hts (ws_v q746 q747 q748 q24 q749) rfl rfl rfl hdV_X3_signAt (by rw [hR]; exact ⟨Nat.le_of_ble_eq_true rfl, Nat.le_of_ble_eq_true rfl⟩)) hK hN hP hD [1] rfl (by decide) 0 3 rfl rfl rfl rfl hl.1 rfl (Nat.le_of_ble_eq_true rfl) dX6_parseSign_70 (by rw [hR]; exact ⟨Nat.le_of_ble_eq_true rfl, Nat.le_of_ble_eq_true rfl⟩) ?_
        refine W.eq (g2 := F0 m 73 ls [.int r32]) rfl ?_
        refine lv_istore (lv' := [(5, .int r32), (4, .int (r1 - (nI 48))), (3, .int r1), (0, .ref (a 0)), (1, .ref (a_inp 0)), (2, .int (ch x2))]) hx hb dX6_parseSign_73 hl (by decide) rfl (fun ls hl => ?_)
        refine lv_iload_n hx hb dX6_parseSign_75 rfl (lv_at hl 5 rfl) ?_
        refine lv_bipush (v := (nI 50)) hx hb dX6_parseSign_76 (by decide) ?_
        refine lv_icmp_ne (tgt := 112) hx hb dX6_parseSign_78 (by decide) (fun c34 => ?_) (fun c34 => ?_)
        · rw [if_neg c34] at h
          refine lv_aload_n hx hb dX6_parseSign_112 rfl (lv_at hl 3 rfl) ?_
          refine lv_iload hx hb dX6_parseSign_113 (lv_at hl 1 rfl) ?_
          obtain ⟨⟨w35, w36⟩, hr37, h⟩ := ob h
          dsimp only at h
          refine px_V (As := [.int (r1 - (nI 48))]) (rest := []) (gs := ([gX6 E a v_rows v_count u30 v_column, gX3 E a_inp inp_signs inp_length] : List va_W)) (gr := ([gX3 E a_inp inp_signs inp_length] : List va_W)) (gc := ([gX6 E a v_rows v_count u30 v_column] : List va_W)) (g1 := ([gX6 E a w35 v_count u30 w36] : List va_W)) (g2 := ([gX6 E a w35 v_count u30 w36, gX3 E a_inp inp_signs inp_length] : List va_W)) ⟨hx, hb, hml, hown, hts⟩ (c6_store l E a  ((r1 - (nI 48))) (v_rows) (v_count) (u30) (v_column) w35 w36 hr37) (cwV 1 hts (ws_v q763 q765 q11 q25 q766) rfl rfl rfl hdV_X6_store (by rw [hR]; exact ⟨Nat.le_of_ble_eq_true rfl, Nat.le_of_ble_eq_true rfl⟩)) hK hN hP hD hS hA [1] [0] [1, 0] rfl rfl (by decide) (by decide) rfl (by decide) 0 6 rfl rfl rfl rfl hl.1 rfl (Nat.le_of_ble_eq_true rfl) dX6_parseSign_115 (by rw [hR]; exact ⟨Nat.le_of_ble_eq_true rfl, Nat.le_of_ble_eq_true rfl⟩) (fun H locs hP hD hS => ?_)
          refine W.eq (g2 := F0 m 118 ls []) rfl ?_
          refine lv_iconst (v := (nI 1)) hx hb dX6_parseSign_118 (by decide) ?_
          cases h
          refine W.eq (g2 := F0 m 119 ls [.int (b2i true)]) rfl ?_
          exact px_eWz (b2i_n _) hA0 hQ hP hD hS hx hb hr hlocks dX6_parseSign_119
        · rw [if_pos c34] at h
          refine lv_iload hx hb dX6_parseSign_81 (lv_at hl 0 rfl) ?_
          obtain ⟨r38, hr39, h⟩ := ob h
          refine px_Sp (As := [.int r32]) (rest := []) (gs := ([gX6 E a v_rows v_count u30 v_column, gX3 E a_inp inp_signs inp_length] : List va_W)) (gc := ([] : List va_W)) ⟨hx, hb, hml, hown, hts⟩ (c6_isDigit l E   (r32)  r38 hr39) (va_cwS 1 hts (ws_s q819 q820 q25 q821) rfl rfl rfl hdS_X6_isDigit (by rw [hR]; exact ⟨Nat.le_of_ble_eq_true rfl, Nat.le_of_ble_eq_true rfl⟩)) hK hN hP hD [] rfl (by decide) rfl hl.1 rfl (Nat.le_of_ble_eq_true rfl) dX6_parseSign_83 (by rw [hR]; exact ⟨Nat.le_of_ble_eq_true rfl, Nat.le_of_ble_eq_true rfl⟩) ?_
          refine W.eq (g2 := F0 m 86 ls [.int (b2i r38)]) rfl ?_
          refine lv_if_eq (tgt := 112) hx hb dX6_parseSign_86 (by decide) (fun c40 => ?_) (fun c40 => ?_)
          · rw [if_pos c40] at h
            refine lv_aload_n hx hb dX6_parseSign_112 rfl (lv_at hl 3 rfl) ?_
            refine lv_iload hx hb dX6_parseSign_113 (lv_at hl 1 rfl) ?_
            obtain ⟨⟨w41, w42⟩, hr43, h⟩ := ob h
            dsimp only at h
            refine px_V (As := [.int (r1 - (nI 48))]) (rest := []) (gs := ([gX6 E a v_rows v_count u30 v_column, gX3 E a_inp inp_signs inp_length] : List va_W)) (gr := ([gX3 E a_inp inp_signs inp_length] : List va_W)) (gc := ([gX6 E a v_rows v_count u30 v_column] : List va_W)) (g1 := ([gX6 E a w41 v_count u30 w42] : List va_W)) (g2 := ([gX6 E a w41 v_count u30 w42, gX3 E a_inp inp_signs inp_length] : List va_W)) ⟨hx, hb, hml, hown, hts⟩ (c6_store l E a  ((r1 - (nI 48))) (v_rows) (v_count) (u30) (v_column) w41 w42 hr43) (cwV 1 hts (ws_v q763 q765 q11 q25 q766) rfl rfl rfl hdV_X6_store (by rw [hR]; exact ⟨Nat.le_of_ble_eq_true rfl, Nat.le_of_ble_eq_true rfl⟩)) hK hN hP hD hS hA [1] [0] [1, 0] rfl rfl (by decide) (by decide) rfl (by decide) 0 6 rfl rfl rfl rfl hl.1 rfl (Nat.le_of_ble_eq_true rfl) dX6_parseSign_115 (by rw [hR]; exact ⟨Nat.le_of_ble_eq_true rfl, Nat.le_of_ble_eq_true rfl⟩) (fun H locs hP hD hS => ?_)
            refine W.eq (g2 := F0 m 118 ls []) rfl ?_
            refine lv_iconst (v := (nI 1)) hx hb dX6_parseSign_118 (by decide) ?_
            cases h
            refine W.eq (g2 := F0 m 119 ls [.int (b2i true)]) rfl ?_
            exact px_eWz (b2i_n _) hA0 hQ hP hD hS hx hb hr hlocks dX6_parseSign_119
          · rw [if_neg c40] at h
            refine lv_aload_n hx hb dX6_parseSign_89 rfl (lv_at hl 3 rfl) ?_
            refine lv_dup hx hb dX6_parseSign_90 rfl ?_
            refine va_get (D := E.1) (ci := 6) (v := .int u30) (C := RX6) (T := TX6) (N := 4) hx hb hts iX6 hown hK hP 0 rfl rfl 2 (by decide) (hts _ q190) (fun _ h9 => h9) rfl dX6_parseSign_91 ?_
            refine lv_iconst (v := (nI 1)) hx hb dX6_parseSign_94 (by decide) ?_
            refine lv_iadd hx hb dX6_parseSign_95 ?_
            refine va_put (D := E.1) (ci := 6) (v := .int (u30 + (nI 1))) (ty := .int) (C := RX6) (T := TX6) (N := 4) hx hb hts iX6 tyX6 tyX6_ok nmX6 hown hK hP hD hS 0 rfl rfl 2 (by decide) (hts _ q190) (fun _ h9 => h9) rfl (tyX6_ok 2 (by decide)) rfl rfl (Nat.le_of_ble_eq_true rfl) dX6_parseSign_96 (fun H locs hP hD hS => ?_)
            have hP : va_P E.1 vwCl ([gX6 E a v_rows v_count (u30 + (nI 1)) v_column, gX3 E a_inp inp_signs inp_length] : List va_W).flatten H := hP
            have hD : va_D A ([gX6 E a v_rows v_count (u30 + (nI 1)) v_column, gX3 E a_inp inp_signs inp_length] : List va_W).flatten := hD
            obtain ⟨u44, e45, h⟩ := lt_e h
            rw [← e45] at hP hD
            refine lv_iload hx hb dX6_parseSign_99 (lv_at hl 1 rfl) ?_
            refine lv_bipush (v := (nI 10)) hx hb dX6_parseSign_101 (by decide) ?_
            refine lv_imul hx hb dX6_parseSign_103 ?_
            refine lv_iload hx hb dX6_parseSign_104 (lv_at hl 0 rfl) ?_
            refine lv_iadd hx hb dX6_parseSign_106 ?_
            refine lv_bipush (v := (nI 48)) hx hb dX6_parseSign_107 (by decide) ?_
            refine lv_isub hx hb dX6_parseSign_109 ?_
            refine lv_istore (lv' := [(4, .int ((((r1 - (nI 48)) * (nI 10)) + r32) - (nI 48))), (5, .int r32), (3, .int r1), (0, .ref (a 0)), (1, .ref (a_inp 0)), (2, .int (ch x2))]) hx hb dX6_parseSign_110 hl (by decide) rfl (fun ls hl => ?_)
            refine lv_aload_n hx hb dX6_parseSign_112 rfl (lv_at hl 3 rfl) ?_
            refine lv_iload hx hb dX6_parseSign_113 (lv_at hl 0 rfl) ?_
            obtain ⟨⟨w46, w47⟩, hr48, h⟩ := ob h
            dsimp only at h
            refine px_V (As := [.int ((((r1 - (nI 48)) * (nI 10)) + r32) - (nI 48))]) (rest := []) (gs := ([gX6 E a v_rows v_count u44 v_column, gX3 E a_inp inp_signs inp_length] : List va_W)) (gr := ([gX3 E a_inp inp_signs inp_length] : List va_W)) (gc := ([gX6 E a v_rows v_count u44 v_column] : List va_W)) (g1 := ([gX6 E a w46 v_count u44 w47] : List va_W)) (g2 := ([gX6 E a w46 v_count u44 w47, gX3 E a_inp inp_signs inp_length] : List va_W)) ⟨hx, hb, hml, hown, hts⟩ (c6_store l E a  (((((r1 - (nI 48)) * (nI 10)) + r32) - (nI 48))) (v_rows) (v_count) (u44) (v_column) w46 w47 hr48) (cwV 1 hts (ws_v q763 q765 q11 q25 q766) rfl rfl rfl hdV_X6_store (by rw [hR]; exact ⟨Nat.le_of_ble_eq_true rfl, Nat.le_of_ble_eq_true rfl⟩)) hK hN hP hD hS hA [1] [0] [1, 0] rfl rfl (by decide) (by decide) rfl (by decide) 0 6 rfl rfl rfl rfl hl.1 rfl (Nat.le_of_ble_eq_true rfl) dX6_parseSign_115 (by rw [hR]; exact ⟨Nat.le_of_ble_eq_true rfl, Nat.le_of_ble_eq_true rfl⟩) (fun H locs hP hD hS => ?_)
            refine W.eq (g2 := F0 m 118 ls []) rfl ?_
            refine lv_iconst (v := (nI 1)) hx hb dX6_parseSign_118 (by decide) ?_
            cases h
            refine W.eq (g2 := F0 m 119 ls [.int (b2i true)]) rfl ?_
            exact px_eWz (b2i_n _) hA0 hQ hP hD hS hx hb hr hlocks dX6_parseSign_119
      · rw [if_pos c29] at h
        refine lv_iconst (v := (nI 0)) hx hb dX6_parseSign_47 (by decide) ?_
        cases h
        refine W.eq (g2 := F0 m 48 ls [.int (b2i false)]) rfl ?_
        exact px_eWz (b2i_n _) hA0 hQ hP hD hS hx hb hr hlocks dX6_parseSign_48
    · rw [if_neg c26] at h
      refine lv_iload_n hx hb dX6_parseSign_21 rfl (lv_at hl 0 rfl) ?_
      refine lv_iload_n hx hb dX6_parseSign_22 rfl (lv_at hl 3 rfl) ?_
      refine lv_icmp_eq (tgt := 28) hx hb dX6_parseSign_23 (by decide) (fun c49 => ?_) (fun c49 => ?_)
      · rw [if_pos c49] at h
        refine lv_aload_n hx hb dX6_parseSign_28 rfl (lv_at hl 1 rfl) ?_
        refine lv_dup hx hb dX6_parseSign_29 rfl ?_
        refine va_get (D := E.1) (ci := 6) (v := .int v_position) (C := RX6) (T := TX6) (N := 4) hx hb hts iX6 hown hK hP 0 rfl rfl 2 (by decide) (hts _ q190) (fun _ h9 => h9) rfl dX6_parseSign_30 ?_
        refine lv_iconst (v := (nI 1)) hx hb dX6_parseSign_33 (by decide) ?_
        refine lv_iadd hx hb dX6_parseSign_34 ?_
        refine va_put (D := E.1) (ci := 6) (v := .int (v_position + (nI 1))) (ty := .int) (C := RX6) (T := TX6) (N := 4) hx hb hts iX6 tyX6 tyX6_ok nmX6 hown hK hP hD hS 0 rfl rfl 2 (by decide) (hts _ q190) (fun _ h9 => h9) rfl (tyX6_ok 2 (by decide)) rfl rfl (Nat.le_of_ble_eq_true rfl) dX6_parseSign_35 (fun H locs hP hD hS => ?_)
        have hP : va_P E.1 vwCl ([gX6 E a v_rows v_count (v_position + (nI 1)) v_column, gX3 E a_inp inp_signs inp_length] : List va_W).flatten H := hP
        have hD : va_D A ([gX6 E a v_rows v_count (v_position + (nI 1)) v_column, gX3 E a_inp inp_signs inp_length] : List va_W).flatten := hD
        obtain ⟨u50, e51, h⟩ := lt_e h
        rw [← e51] at hP hD
        refine lv_iconst (v := (nI 1)) hx hb dX6_parseSign_38 (by decide) ?_
        cases h
        refine W.eq (g2 := F0 m 39 ls [.int (b2i true)]) rfl ?_
        exact px_eWz (b2i_n _) hA0 hQ hP hD hS hx hb hr hlocks dX6_parseSign_39
      · rw [if_neg c49] at h
        refine lv_iconst (v := (nI 0)) hx hb dX6_parseSign_26 (by decide) ?_
        cases h
        refine W.eq (g2 := F0 m 27 ls [.int (b2i false)]) rfl ?_
        exact px_eWz (b2i_n _) hA0 hQ hP hD hS hx hb hr hlocks dX6_parseSign_27
def f6_parseOrder_L46 (inp_signs : AI) (inp_length : Int32) : Nat → Nat → Int32 → AI → Int32 → Int32 → Int32 → Option (Bool × AI × Int32 × Int32 × Int32)
  | 0, _, _, _, _, _, _ => none
  | n + 1, x3, x4, v_rows, v_count, v_position, v_column => (if x3 < 7 then (if (nI (sLen.getD x3 0)) ≤ x4 then (lt (v_count + (nI 1)) fun u14 => (some (true, v_rows, u14, v_position, v_column))) else (if x3 < 7 then (if inb x4 (sLen.getD x3 0) = true then ((f6_parseSign ((sCh x3 (x4).toNatClampNeg)) (v_rows) (v_count) (v_position) (v_column) (inp_signs) (inp_length)).bind fun (r18, w19, w20, w21) => (if (b2i r18) = 0 then (some (false, w19, v_count, w20, w21)) else (f6_parseOrder_L46 inp_signs inp_length n (x3) ((x4 + nI 1)) (w19) (v_count) (w20) (w21)))) else none) else none)) else none)
def f6_parseOrder  (v_rows : AI) (v_count : Int32) (v_position : Int32) (v_column : Int32) (inp_signs : AI) (inp_length : Int32) : Option (Bool × AI × Int32 × Int32 × Int32) := ((f3_signAt (v_position) (inp_signs) (inp_length)).bind fun r1 => ((f6_shapeOf (r1)).bind fun r3 => (if r3 < 7 then (if (b2i (decide (nI (sLen.getD r3 0) = 0))) = 0 then (lt (v_position + (nI 1)) fun u7 => ((f6_store (r1) (v_rows) (v_count) ((nI 0))).bind fun (w9, w10) => (f6_parseOrder_L46 inp_signs inp_length fuel (r3) ((nI 0)) (w9) (v_count) (u7) (w10)))) else (some (false, v_rows, v_count, v_position, v_column))) else none)))
set_option maxHeartbeats 4000000 in
set_option maxRecDepth 100000 in
theorem c6_parseOrder (l : Launch) (E : PE) (X : PX) (a : Nat → Nat) (a_inp : Nat → Nat)   (v_rows : AI) (v_count : Int32) (v_position : Int32) (v_column : Int32) (inp_signs : AI) (inp_length : Int32) (r : Bool) (z_this_rows : AI) (z_this_count : Int32) (z_this_position : Int32) (z_this_column : Int32) (h : f6_parseOrder v_rows v_count v_position v_column inp_signs inp_length = some (r, z_this_rows, z_this_count, z_this_position, z_this_column)) : MWX l yX6_parseOrder cX6_parseOrder 5 (some .boolean) { frames := 4, cells := 0, slots := 0, locals := 85 } E X [.ref (a 0), .ref (a_inp 0)] ([gX6 E a v_rows v_count v_position v_column, gX3 E a_inp inp_signs inp_length] : List va_W).flatten 0 0 (some (.int (b2i r))) ([gX6 E a z_this_rows z_this_count z_this_position z_this_column, gX3 E a_inp inp_signs inp_length] : List va_W).flatten := by
  refine px_startWX (by decide +kernel) (Nat.le_of_ble_eq_true rfl) ?_
  intro p e s m args below meth c R Q A ls hC hX hA0 hQ
  obtain ⟨hx, hb, hr, hml, hts, hown, hlocks, hR, hK, hN, hP, hD, hA, hl, hin⟩ := hC
  have hl : lv_has ls 5 [(0, .ref (a 0)), (1, .ref (a_inp 0))] := hl
  suffices key : ∀ (H : Heap) (locs : List Loc), va_P E.1 vwCl ([gX6 E a v_rows v_count v_position v_column, gX3 E a_inp inp_signs inp_length] : List va_W).flatten H → va_S A s.heap H locs → W p l e R s m args below meth c H locs 0 0 Q (F0 m 0 ls []) from key s.heap [] hP va_S.rf
  unfold f6_parseOrder at h
  have L46 : ∀ (n : Nat) (x3 : Nat) (x4 : Int32) (v_rows : AI) (v_count : Int32) (v_position : Int32) (v_column : Int32) (H : Heap) (locs : List Loc) (ls : Array Slot), va_P E.1 vwCl ([gX6 E a v_rows v_count v_position v_column, gX3 E a_inp inp_signs inp_length] : List va_W).flatten H → va_D A ([gX6 E a v_rows v_count v_position v_column, gX3 E a_inp inp_signs inp_length] : List va_W).flatten → va_S A s.heap H locs → lv_has ls 5 [(0, .ref (a 0)), (1, .ref (a_inp 0)), (3, .ref (X.1 x3)), (4, .int x4)] → f6_parseOrder_L46 inp_signs inp_length n x3 x4 v_rows v_count v_position v_column = some (r, z_this_rows, z_this_count, z_this_position, z_this_column) → W p l e R s m args below meth c H locs 0 0 Q (F0 m 46 ls []) := by
    intro n
    induction n with
    | zero =>
      intro x3 x4 v_rows v_count v_position v_column H locs ls hP hD hS hl h
      unfold f6_parseOrder_L46 at h; cases h
    | succ n ih =>
      intro x3 x4 v_rows v_count v_position v_column H locs ls hP hD hS hl h
      unfold f6_parseOrder_L46 at h
      refine lv_iload hx hb dX6_parseOrder_46 (lv_at hl 3 rfl) ?_
      refine lv_aload_n hx hb dX6_parseOrder_48 rfl (lv_at hl 2 rfl) ?_
      obtain ⟨i12, h⟩ := o_t h
      refine px_VpX (As := []) (rest := [.int x4]) (gs := ([gX6 E a v_rows v_count v_position v_column, gX3 E a_inp inp_signs inp_length] : List va_W)) (gc := []) ⟨hx, hb, hml, hown, hts⟩ (cJ0_length l E X x3 i12) (cwV 0 hts (ws_v q767 q768 q769 q38 q770) rfl rfl rfl hdV_J0_length_8abf5 (by rw [hR]; exact ⟨Nat.le_of_ble_eq_true rfl, Nat.le_of_ble_eq_true rfl⟩)) hK hN hX hP hD hS hA [] rfl (by decide) (px_strRecv hX hS (px_ct (show x3 < 17 by omega))) rfl hl.1 rfl (Nat.le_of_ble_eq_true rfl) dX6_parseOrder_49 (by rw [hR]; exact ⟨Nat.le_of_ble_eq_true rfl, Nat.le_of_ble_eq_true rfl⟩) ?_
      refine W.eq (g2 := F0 m 52 ls [.int (nI (sLen.getD x3 0)), .int x4]) rfl ?_
      refine lv_icmp_ge (tgt := 77) hx hb dX6_parseOrder_52 (by decide) (fun c13 => ?_) (fun c13 => ?_)
      · rw [if_pos c13] at h
        refine lv_aload_n hx hb dX6_parseOrder_77 rfl (lv_at hl 0 rfl) ?_
        refine lv_dup hx hb dX6_parseOrder_78 rfl ?_
        refine va_get (D := E.1) (ci := 6) (v := .int v_count) (C := RX6) (T := TX6) (N := 4) hx hb hts iX6 hown hK hP 0 rfl rfl 1 (by decide) (hts _ q189) (fun _ h9 => h9) rfl dX6_parseOrder_79 ?_
        refine lv_iconst (v := (nI 1)) hx hb dX6_parseOrder_82 (by decide) ?_
        refine lv_iadd hx hb dX6_parseOrder_83 ?_
        refine va_put (D := E.1) (ci := 6) (v := .int (v_count + (nI 1))) (ty := .int) (C := RX6) (T := TX6) (N := 4) hx hb hts iX6 tyX6 tyX6_ok nmX6 hown hK hP hD hS 0 rfl rfl 1 (by decide) (hts _ q189) (fun _ h9 => h9) rfl (tyX6_ok 1 (by decide)) rfl rfl (Nat.le_of_ble_eq_true rfl) dX6_parseOrder_84 (fun H locs hP hD hS => ?_)
        have hP : va_P E.1 vwCl ([gX6 E a v_rows (v_count + (nI 1)) v_position v_column, gX3 E a_inp inp_signs inp_length] : List va_W).flatten H := hP
        have hD : va_D A ([gX6 E a v_rows (v_count + (nI 1)) v_position v_column, gX3 E a_inp inp_signs inp_length] : List va_W).flatten := hD
        obtain ⟨u14, e15, h⟩ := lt_e h
        rw [← e15] at hP hD
        refine lv_iconst (v := (nI 1)) hx hb dX6_parseOrder_87 (by decide) ?_
        cases h
        refine W.eq (g2 := F0 m 88 ls [.int (b2i true)]) rfl ?_
        exact px_eWz (b2i_n _) hA0 hQ hP hD hS hx hb hr hlocks dX6_parseOrder_88
      · rw [if_neg c13] at h
        refine lv_aload_n hx hb dX6_parseOrder_55 rfl (lv_at hl 0 rfl) ?_
        refine lv_aload_n hx hb dX6_parseOrder_56 rfl (lv_at hl 1 rfl) ?_
        refine lv_aload_n hx hb dX6_parseOrder_57 rfl (lv_at hl 2 rfl) ?_
        refine lv_iload hx hb dX6_parseOrder_58 (lv_at hl 3 rfl) ?_
        obtain ⟨i16, h⟩ := o_t h
        obtain ⟨i17, h⟩ := o_t h
        refine px_VpX (As := [.int x4]) (rest := [.ref (a_inp 0), .ref (a 0)]) (gs := ([gX6 E a v_rows v_count v_position v_column, gX3 E a_inp inp_signs inp_length] : List va_W)) (gc := []) ⟨hx, hb, hml, hown, hts⟩ (cJ0_charAt2 l E X x3 x4 i16 i17) (cwV 1 hts (ws_v q777 q778 q779 q38 q780) rfl rfl rfl hdV_J0_charAt_5068e (by rw [hR]; exact ⟨Nat.le_of_ble_eq_true rfl, Nat.le_of_ble_eq_true rfl⟩)) hK hN hX hP hD hS hA [] rfl (by decide) (px_strRecv hX hS (px_ct (show x3 < 17 by omega))) rfl hl.1 rfl (Nat.le_of_ble_eq_true rfl) dX6_parseOrder_60 (by rw [hR]; exact ⟨Nat.le_of_ble_eq_true rfl, Nat.le_of_ble_eq_true rfl⟩) ?_
        refine W.eq (g2 := F0 m 63 ls [.int (ch (sCh x3 (x4).toNatClampNeg)), .ref (a_inp 0), .ref (a 0)]) rfl ?_
        obtain ⟨⟨r18, w19, w20, w21⟩, hr22, h⟩ := ob h
        dsimp only at h
        refine px_V (As := [.ref (a_inp 0), .int (ch (sCh x3 (x4).toNatClampNeg))]) (rest := []) (gs := ([gX6 E a v_rows v_count v_position v_column, gX3 E a_inp inp_signs inp_length] : List va_W)) (gr := ([] : List va_W)) (gc := ([gX6 E a v_rows v_count v_position v_column, gX3 E a_inp inp_signs inp_length] : List va_W)) (g1 := ([gX6 E a w19 v_count w20 w21, gX3 E a_inp inp_signs inp_length] : List va_W)) (g2 := ([gX6 E a w19 v_count w20 w21, gX3 E a_inp inp_signs inp_length] : List va_W)) ⟨hx, hb, hml, hown, hts⟩ (c6_parseSign l E a a_inp  ((sCh x3 (x4).toNatClampNeg)) (v_rows) (v_count) (v_position) (v_column) (inp_signs) (inp_length) r18 w19 w20 w21 hr22) (cwV 2 hts (ws_v q815 q817 q12 q25 q818) rfl rfl rfl hdV_X6_parseSign (by rw [hR]; exact ⟨Nat.le_of_ble_eq_true rfl, Nat.le_of_ble_eq_true rfl⟩)) hK hN hP hD hS hA [] [0, 1] [0, 1] rfl rfl (by decide) (by decide) rfl (by decide) 0 6 rfl rfl rfl rfl hl.1 rfl (Nat.le_of_ble_eq_true rfl) dX6_parseOrder_63 (by rw [hR]; exact ⟨Nat.le_of_ble_eq_true rfl, Nat.le_of_ble_eq_true rfl⟩) (fun H locs hP hD hS => ?_)
        refine W.eq (g2 := F0 m 66 ls [.int (b2i r18)]) rfl ?_
        refine lv_if_ne (tgt := 71) hx hb dX6_parseOrder_66 (by decide) (fun c23 => ?_) (fun c23 => ?_)
        · rw [if_neg c23] at h
          refine lv_iinc (v := (x4 + nI 1)) (lv' := [(4, .int (x4 + nI 1)), (0, .ref (a 0)), (1, .ref (a_inp 0)), (3, .ref (X.1 x3))]) hx hb dX6_parseOrder_71 hl (k := 3) rfl rfl (by decide) rfl (fun ls hl => ?_)
          refine lv_goto (tgt := 46) hx hb dX6_parseOrder_74 (by decide) ?_
          exact ih (x3) ((x4 + nI 1)) (w19) (v_count) (w20) (w21) H locs ls hP hD hS (lv_sub hl [1, 2, 3, 0] rfl) h
        · rw [if_pos c23] at h
          refine lv_iconst (v := (nI 0)) hx hb dX6_parseOrder_69 (by decide) ?_
          cases h
          refine W.eq (g2 := F0 m 70 ls [.int (b2i false)]) rfl ?_
          exact px_eWz (b2i_n _) hA0 hQ hP hD hS hx hb hr hlocks dX6_parseOrder_70
  intro H locs hP hS
  refine lv_aload_n hx hb dX6_parseOrder_0 rfl (lv_at hl 1 rfl) ?_
  refine lv_aload_n hx hb dX6_parseOrder_1 rfl (lv_at hl 0 rfl) ?_
  refine va_get (D := E.1) (ci := 6) (v := .int v_position) (C := RX6) (T := TX6) (N := 4) hx hb hts iX6 hown hK hP 0 rfl rfl 2 (by decide) (hts _ q190) (fun _ h9 => h9) rfl dX6_parseOrder_2 ?_
  obtain ⟨r1, hr2, h⟩ := ob h
  refine px_Vp (As := [.int v_position]) (rest := []) (gs := ([gX6 E a v_rows v_count v_position v_column, gX3 E a_inp inp_signs inp_length] : List va_W)) (gc := ([gX3 E a_inp inp_signs inp_length] : List va_W)) ⟨hx, hb, hml, hown, hts⟩ (c3_signAt l E a_inp  (v_position) (inp_signs) (inp_length) r1 hr2) (cwV 1 hts (ws_v q746 q747 q748 q24 q749) rfl rfl rfl hdV_X3_signAt (by rw [hR]; exact ⟨Nat.le_of_ble_eq_true rfl, Nat.le_of_ble_eq_true rfl⟩)) hK hN hP hD [1] rfl (by decide) 0 3 rfl rfl rfl rfl hl.1 rfl (Nat.le_of_ble_eq_true rfl) dX6_parseOrder_5 (by rw [hR]; exact ⟨Nat.le_of_ble_eq_true rfl, Nat.le_of_ble_eq_true rfl⟩) ?_
  refine W.eq (g2 := F0 m 8 ls [.int r1]) rfl ?_
  refine lv_istore_n (lv' := [(2, .int r1), (0, .ref (a 0)), (1, .ref (a_inp 0))]) hx hb dX6_parseOrder_8 rfl hl (by decide) rfl (fun ls hl => ?_)
  refine lv_iload_n hx hb dX6_parseOrder_9 rfl (lv_at hl 0 rfl) ?_
  obtain ⟨r3, hr4, h⟩ := ob h
  refine px_SpX (As := [.int r1]) (rest := []) (gs := ([gX6 E a v_rows v_count v_position v_column, gX3 E a_inp inp_signs inp_length] : List va_W)) (gc := ([] : List va_W)) ⟨hx, hb, hml, hown, hts⟩ (c6_shapeOf l E X   (r1)  r3 hr4) (va_cwS 1 hts (ws_s q750 q751 q25 q752) rfl rfl rfl hdS_X6_shapeOf (by rw [hR]; exact ⟨Nat.le_of_ble_eq_true rfl, Nat.le_of_ble_eq_true rfl⟩)) hK hN hX hP hD hS hA [] rfl (by decide) rfl hl.1 rfl (Nat.le_of_ble_eq_true rfl) dX6_parseOrder_10 (by rw [hR]; exact ⟨Nat.le_of_ble_eq_true rfl, Nat.le_of_ble_eq_true rfl⟩) ?_
  refine W.eq (g2 := F0 m 13 ls [.ref (X.1 r3)]) rfl ?_
  refine lv_astore_n (lv' := [(3, .ref (X.1 r3)), (2, .int r1), (0, .ref (a 0)), (1, .ref (a_inp 0))]) hx hb dX6_parseOrder_13 rfl hl (by decide) rfl (fun ls hl => ?_)
  refine lv_aload_n hx hb dX6_parseOrder_14 rfl (lv_at hl 0 rfl) ?_
  obtain ⟨i5, h⟩ := o_t h
  refine px_VpX (As := []) (rest := []) (gs := ([gX6 E a v_rows v_count v_position v_column, gX3 E a_inp inp_signs inp_length] : List va_W)) (gc := []) ⟨hx, hb, hml, hown, hts⟩ (cJ0_isEmpty l E X r3 i5) (cwV 0 hts (ws_v q759 q760 q761 q38 q762) rfl rfl rfl hdV_J0_isEmpty_aae02 (by rw [hR]; exact ⟨Nat.le_of_ble_eq_true rfl, Nat.le_of_ble_eq_true rfl⟩)) hK hN hX hP hD hS hA [] rfl (by decide) (px_strRecv hX hS (px_ct (show r3 < 17 by omega))) rfl hl.1 rfl (Nat.le_of_ble_eq_true rfl) dX6_parseOrder_15 (by rw [hR]; exact ⟨Nat.le_of_ble_eq_true rfl, Nat.le_of_ble_eq_true rfl⟩) ?_
  refine W.eq (g2 := F0 m 18 ls [.int (b2i (decide (nI (sLen.getD r3 0) = 0)))]) rfl ?_
  refine lv_if_eq (tgt := 23) hx hb dX6_parseOrder_18 (by decide) (fun c6 => ?_) (fun c6 => ?_)
  · rw [if_pos c6] at h
    refine lv_aload_n hx hb dX6_parseOrder_23 rfl (lv_at hl 2 rfl) ?_
    refine lv_dup hx hb dX6_parseOrder_24 rfl ?_
    refine va_get (D := E.1) (ci := 6) (v := .int v_position) (C := RX6) (T := TX6) (N := 4) hx hb hts iX6 hown hK hP 0 rfl rfl 2 (by decide) (hts _ q190) (fun _ h9 => h9) rfl dX6_parseOrder_25 ?_
    refine lv_iconst (v := (nI 1)) hx hb dX6_parseOrder_28 (by decide) ?_
    refine lv_iadd hx hb dX6_parseOrder_29 ?_
    refine va_put (D := E.1) (ci := 6) (v := .int (v_position + (nI 1))) (ty := .int) (C := RX6) (T := TX6) (N := 4) hx hb hts iX6 tyX6 tyX6_ok nmX6 hown hK hP hD hS 0 rfl rfl 2 (by decide) (hts _ q190) (fun _ h9 => h9) rfl (tyX6_ok 2 (by decide)) rfl rfl (Nat.le_of_ble_eq_true rfl) dX6_parseOrder_30 (fun H locs hP hD hS => ?_)
    have hP : va_P E.1 vwCl ([gX6 E a v_rows v_count (v_position + (nI 1)) v_column, gX3 E a_inp inp_signs inp_length] : List va_W).flatten H := hP
    have hD : va_D A ([gX6 E a v_rows v_count (v_position + (nI 1)) v_column, gX3 E a_inp inp_signs inp_length] : List va_W).flatten := hD
    obtain ⟨u7, e8, h⟩ := lt_e h
    rw [← e8] at hP hD
    refine lv_aload_n hx hb dX6_parseOrder_33 rfl (lv_at hl 2 rfl) ?_
    refine lv_iconst (v := (nI 0)) hx hb dX6_parseOrder_34 (by decide) ?_
    refine va_put (D := E.1) (ci := 6) (v := .int (nI 0)) (ty := .int) (C := RX6) (T := TX6) (N := 4) hx hb hts iX6 tyX6 tyX6_ok nmX6 hown hK hP hD hS 0 rfl rfl 3 (by decide) (hts _ q191) (fun _ h9 => h9) rfl (tyX6_ok 3 (by decide)) rfl rfl (Nat.le_of_ble_eq_true rfl) dX6_parseOrder_35 (fun H locs hP hD hS => ?_)
    have hP : va_P E.1 vwCl ([gX6 E a v_rows v_count u7 (nI 0), gX3 E a_inp inp_signs inp_length] : List va_W).flatten H := hP
    have hD : va_D A ([gX6 E a v_rows v_count u7 (nI 0), gX3 E a_inp inp_signs inp_length] : List va_W).flatten := hD
    refine lv_aload_n hx hb dX6_parseOrder_38 rfl (lv_at hl 2 rfl) ?_
    refine lv_iload_n hx hb dX6_parseOrder_39 rfl (lv_at hl 1 rfl) ?_
    obtain ⟨⟨w9, w10⟩, hr11, h⟩ := ob h
    dsimp only at h
    refine px_V (As := [.int r1]) (rest := []) (gs := ([gX6 E a v_rows v_count u7 (nI 0), gX3 E a_inp inp_signs inp_length] : List va_W)) (gr := ([gX3 E a_inp inp_signs inp_length] : List va_W)) (gc := ([gX6 E a v_rows v_count u7 (nI 0)] : List va_W)) (g1 := ([gX6 E a w9 v_count u7 w10] : List va_W)) (g2 := ([gX6 E a w9 v_count u7 w10, gX3 E a_inp inp_signs inp_length] : List va_W)) ⟨hx, hb, hml, hown, hts⟩ (c6_store l E a  (r1) (v_rows) (v_count) (u7) ((nI 0)) w9 w10 hr11) (cwV 1 hts (ws_v q763 q765 q11 q25 q766) rfl rfl rfl hdV_X6_store (by rw [hR]; exact ⟨Nat.le_of_ble_eq_true rfl, Nat.le_of_ble_eq_true rfl⟩)) hK hN hP hD hS hA [1] [0] [1, 0] rfl rfl (by decide) (by decide) rfl (by decide) 0 6 rfl rfl rfl rfl hl.1 rfl (Nat.le_of_ble_eq_true rfl) dX6_parseOrder_40 (by rw [hR]; exact ⟨Nat.le_of_ble_eq_true rfl, Nat.le_of_ble_eq_true rfl⟩) (fun H locs hP hD hS => ?_)
    refine W.eq (g2 := F0 m 43 ls []) rfl ?_
    refine lv_iconst (v := (nI 0)) hx hb dX6_parseOrder_43 (by decide) ?_
    refine lv_istore (lv' := [(4, .int (nI 0)), (3, .ref (X.1 r3)), (2, .int r1), (0, .ref (a 0)), (1, .ref (a_inp 0))]) hx hb dX6_parseOrder_44 hl (by decide) rfl (fun ls hl => ?_)
    exact L46 fuel (r3) ((nI 0)) (w9) (v_count) (u7) (w10) H locs ls hP hD hS (lv_sub hl [3, 4, 1, 0] rfl) h
  · rw [if_neg c6] at h
    refine lv_iconst (v := (nI 0)) hx hb dX6_parseOrder_21 (by decide) ?_
    cases h
    refine W.eq (g2 := F0 m 22 ls [.int (b2i false)]) rfl ?_
    exact px_eWz (b2i_n _) hA0 hQ hP hD hS hx hb hr hlocks dX6_parseOrder_22
def f6_parse_L12 (inp_signs : AI) (inp_length : Int32) : Nat → Int32 → AI → Int32 → Int32 → Int32 → Option (Int32 × AI × Int32 × Int32 × Int32)
  | 0, _, _, _, _, _ => none
  | n + 1, x2, v_rows, v_count, v_position, v_column => (if (nI 21) ≤ x2 then (some (v_position, v_rows, v_count, v_position, v_column)) else ((f6_parseOrder (v_rows) (v_count) (v_position) (v_column) (inp_signs) (inp_length)).bind fun (r2, w3, w4, w5, w6) => (if (b2i r2) = 0 then (some (w5, w3, w4, w5, w6)) else ((f3_signAt (w5) (inp_signs) (inp_length)).bind fun r9 => (if r9 = (-1 : Int32) then (some ((-1 : Int32), w3, w4, w5, w6)) else (if r9 = (nI 59) then (lt (w5 + (nI 1)) fun u13 => (f6_parse_L12 inp_signs inp_length n ((x2 + nI 1)) (w3) (w4) (u13) (w6))) else (some (w5, w3, w4, w5, w6))))))))
def f6_parse  (v_rows : AI) (v_count : Int32) (v_position : Int32) (v_column : Int32) (inp_signs : AI) (inp_length : Int32) : Option (Int32 × AI × Int32 × Int32 × Int32) := (f6_parse_L12 inp_signs inp_length fuel ((nI 0)) (v_rows) ((nI 0)) ((nI 0)) (v_column))
set_option maxHeartbeats 4000000 in
set_option maxRecDepth 100000 in
theorem c6_parse (l : Launch) (E : PE) (X : PX) (a : Nat → Nat) (a_inp : Nat → Nat)   (v_rows : AI) (v_count : Int32) (v_position : Int32) (v_column : Int32) (inp_signs : AI) (inp_length : Int32) (r : Int32) (z_this_rows : AI) (z_this_count : Int32) (z_this_position : Int32) (z_this_column : Int32) (h : f6_parse v_rows v_count v_position v_column inp_signs inp_length = some (r, z_this_rows, z_this_count, z_this_position, z_this_column)) : MWX l yX6_parse cX6_parse 4 (some .int) { frames := 5, cells := 0, slots := 0, locals := 109 } E X [.ref (a 0), .ref (a_inp 0)] ([gX6 E a v_rows v_count v_position v_column, gX3 E a_inp inp_signs inp_length] : List va_W).flatten 0 0 (some (.int r)) ([gX6 E a z_this_rows z_this_count z_this_position z_this_column, gX3 E a_inp inp_signs inp_length] : List va_W).flatten := by
  refine px_startWX (by decide +kernel) (Nat.le_of_ble_eq_true rfl) ?_
  intro p e s m args below meth c R Q A ls hC hX hA0 hQ
  obtain ⟨hx, hb, hr, hml, hts, hown, hlocks, hR, hK, hN, hP, hD, hA, hl, hin⟩ := hC
  have hl : lv_has ls 4 [(0, .ref (a 0)), (1, .ref (a_inp 0))] := hl
  suffices key : ∀ (H : Heap) (locs : List Loc), va_P E.1 vwCl ([gX6 E a v_rows v_count v_position v_column, gX3 E a_inp inp_signs inp_length] : List va_W).flatten H → va_S A s.heap H locs → W p l e R s m args below meth c H locs 0 0 Q (F0 m 0 ls []) from key s.heap [] hP va_S.rf
  unfold f6_parse at h
  have L12 : ∀ (n : Nat) (x2 : Int32) (v_rows : AI) (v_count : Int32) (v_position : Int32) (v_column : Int32) (H : Heap) (locs : List Loc) (ls : Array Slot), va_P E.1 vwCl ([gX6 E a v_rows v_count v_position v_column, gX3 E a_inp inp_signs inp_length] : List va_W).flatten H → va_D A ([gX6 E a v_rows v_count v_position v_column, gX3 E a_inp inp_signs inp_length] : List va_W).flatten → va_S A s.heap H locs → lv_has ls 4 [(0, .ref (a 0)), (1, .ref (a_inp 0)), (2, .int x2)] → f6_parse_L12 inp_signs inp_length n x2 v_rows v_count v_position v_column = some (r, z_this_rows, z_this_count, z_this_position, z_this_column) → W p l e R s m args below meth c H locs 0 0 Q (F0 m 12 ls []) := by
    intro n
    induction n with
    | zero =>
      intro x2 v_rows v_count v_position v_column H locs ls hP hD hS hl h
      unfold f6_parse_L12 at h; cases h
    | succ n ih =>
      intro x2 v_rows v_count v_position v_column H locs ls hP hD hS hl h
      unfold f6_parse_L12 at h
      refine lv_iload_n hx hb dX6_parse_12 rfl (lv_at hl 2 rfl) ?_
      refine lv_bipush (v := (nI 21)) hx hb dX6_parse_13 (by decide) ?_
      refine lv_icmp_ge (tgt := 74) hx hb dX6_parse_15 (by decide) (fun c1 => ?_) (fun c1 => ?_)
      · rw [if_pos c1] at h
        refine lv_aload_n hx hb dX6_parse_74 rfl (lv_at hl 0 rfl) ?_
        refine va_get (D := E.1) (ci := 6) (v := .int v_position) (C := RX6) (T := TX6) (N := 4) hx hb hts iX6 hown hK hP 0 rfl rfl 2 (by decide) (hts _ q190) (fun _ h9 => h9) rfl dX6_parse_75 ?_
        cases h
        exact px_eWi hA0 hQ hP hD hS hx hb hr hlocks dX6_parse_78
      · rw [if_neg c1] at h
        refine lv_aload_n hx hb dX6_parse_18 rfl (lv_at hl 0 rfl) ?_
        refine lv_aload_n hx hb dX6_parse_19 rfl (lv_at hl 1 rfl) ?_
        obtain ⟨⟨r2, w3, w4, w5, w6⟩, hr7, h⟩ := ob h
        dsimp only at h
        refine px_VX (As := [.ref (a_inp 0)]) (rest := []) (gs := ([gX6 E a v_rows v_count v_position v_column, gX3 E a_inp inp_signs inp_length] : List va_W)) (gr := ([] : List va_W)) (gc := ([gX6 E a v_rows v_count v_position v_column, gX3 E a_inp inp_signs inp_length] : List va_W)) (g1 := ([gX6 E a w3 w4 w5 w6, gX3 E a_inp inp_signs inp_length] : List va_W)) (g2 := ([gX6 E a w3 w4 w5 w6, gX3 E a_inp inp_signs inp_length] : List va_W)) ⟨hx, hb, hml, hown, hts⟩ (c6_parseOrder l E X a a_inp   (v_rows) (v_count) (v_position) (v_column) (inp_signs) (inp_length) r2 w3 w4 w5 w6 hr7) (cwV 1 hts (ws_v q742 q744 q10 q25 q745) rfl rfl rfl hdV_X6_parseOrder (by rw [hR]; exact ⟨Nat.le_of_ble_eq_true rfl, Nat.le_of_ble_eq_true rfl⟩)) hK hN hX hP hD hS hA [] [0, 1] [0, 1] rfl rfl (by decide) (by decide) rfl (by decide) 0 6 rfl rfl rfl rfl hl.1 rfl (Nat.le_of_ble_eq_true rfl) dX6_parse_20 (by rw [hR]; exact ⟨Nat.le_of_ble_eq_true rfl, Nat.le_of_ble_eq_true rfl⟩) (fun H locs hP hD hS => ?_)
        refine W.eq (g2 := F0 m 23 ls [.int (b2i r2)]) rfl ?_
        refine lv_if_ne (tgt := 31) hx hb dX6_parse_23 (by decide) (fun c8 => ?_) (fun c8 => ?_)
        · rw [if_neg c8] at h
          refine lv_aload_n hx hb dX6_parse_31 rfl (lv_at hl 1 rfl) ?_
          refine lv_aload_n hx hb dX6_parse_32 rfl (lv_at hl 0 rfl) ?_
          refine va_get (D := E.1) (ci := 6) (v := .int w5) (C := RX6) (T := TX6) (N := 4) hx hb hts iX6 hown hK hP 0 rfl rfl 2 (by decide) (hts _ q190) (fun _ h9 => h9) rfl dX6_parse_33 ?_
          obtain ⟨r9, hr10, h⟩ := ob h
          refine px_Vp (As := [.int w5]) (rest := []) (gs := ([gX6 E a w3 w4 w5 w6, gX3 E a_inp inp_signs inp_length] : List va_W)) (gc := ([gX3 E a_inp inp_signs inp_length] : List va_W)) ⟨hx, hb, hml, hown, hts⟩ (c3_signAt l E a_inp  (w5) (inp_signs) (inp_length) r9 hr10) (cwV 1 hts (ws_v q746 q747 q748 q24 q749) rfl rfl rfl hdV_X3_signAt (by rw [hR]; exact ⟨Nat.le_of_ble_eq_true rfl, Nat.le_of_ble_eq_true rfl⟩)) hK hN hP hD [1] rfl (by decide) 0 3 rfl rfl rfl rfl hl.1 rfl (Nat.le_of_ble_eq_true rfl) dX6_parse_36 (by rw [hR]; exact ⟨Nat.le_of_ble_eq_true rfl, Nat.le_of_ble_eq_true rfl⟩) ?_
          refine W.eq (g2 := F0 m 39 ls [.int r9]) rfl ?_
          refine lv_istore_n (lv' := [(3, .int r9), (0, .ref (a 0)), (1, .ref (a_inp 0)), (2, .int x2)]) hx hb dX6_parse_39 rfl hl (by decide) rfl (fun ls hl => ?_)
          refine lv_iload_n hx hb dX6_parse_40 rfl (lv_at hl 0 rfl) ?_
          refine lv_iconst (v := (-1 : Int32)) hx hb dX6_parse_41 (by decide) ?_
          refine lv_icmp_ne (tgt := 47) hx hb dX6_parse_42 (by decide) (fun c11 => ?_) (fun c11 => ?_)
          · rw [if_neg c11] at h
            refine lv_iload_n hx hb dX6_parse_47 rfl (lv_at hl 0 rfl) ?_
            refine lv_bipush (v := (nI 59)) hx hb dX6_parse_48 (by decide) ?_
            refine lv_icmp_eq (tgt := 58) hx hb dX6_parse_50 (by decide) (fun c12 => ?_) (fun c12 => ?_)
            · rw [if_pos c12] at h
              refine lv_aload_n hx hb dX6_parse_58 rfl (lv_at hl 1 rfl) ?_
              refine lv_dup hx hb dX6_parse_59 rfl ?_
              refine va_get (D := E.1) (ci := 6) (v := .int w5) (C := RX6) (T := TX6) (N := 4) hx hb hts iX6 hown hK hP 0 rfl rfl 2 (by decide) (hts _ q190) (fun _ h9 => h9) rfl dX6_parse_60 ?_
              refine lv_iconst (v := (nI 1)) hx hb dX6_parse_63 (by decide) ?_
              refine lv_iadd hx hb dX6_parse_64 ?_
              refine va_put (D := E.1) (ci := 6) (v := .int (w5 + (nI 1))) (ty := .int) (C := RX6) (T := TX6) (N := 4) hx hb hts iX6 tyX6 tyX6_ok nmX6 hown hK hP hD hS 0 rfl rfl 2 (by decide) (hts _ q190) (fun _ h9 => h9) rfl (tyX6_ok 2 (by decide)) rfl rfl (Nat.le_of_ble_eq_true rfl) dX6_parse_65 (fun H locs hP hD hS => ?_)
              have hP : va_P E.1 vwCl ([gX6 E a w3 w4 (w5 + (nI 1)) w6, gX3 E a_inp inp_signs inp_length] : List va_W).flatten H := hP
              have hD : va_D A ([gX6 E a w3 w4 (w5 + (nI 1)) w6, gX3 E a_inp inp_signs inp_length] : List va_W).flatten := hD
              obtain ⟨u13, e14, h⟩ := lt_e h
              rw [← e14] at hP hD
              refine lv_iinc (v := (x2 + nI 1)) (lv' := [(2, .int (x2 + nI 1)), (3, .int r9), (0, .ref (a 0)), (1, .ref (a_inp 0))]) hx hb dX6_parse_68 hl (k := 3) rfl rfl (by decide) rfl (fun ls hl => ?_)
              refine lv_goto (tgt := 12) hx hb dX6_parse_71 (by decide) ?_
              exact ih ((x2 + nI 1)) (w3) (w4) (u13) (w6) H locs ls hP hD hS (lv_sub hl [2, 3, 0] rfl) h
            · rw [if_neg c12] at h
              refine lv_aload_n hx hb dX6_parse_53 rfl (lv_at hl 1 rfl) ?_
              refine va_get (D := E.1) (ci := 6) (v := .int w5) (C := RX6) (T := TX6) (N := 4) hx hb hts iX6 hown hK hP 0 rfl rfl 2 (by decide) (hts _ q190) (fun _ h9 => h9) rfl dX6_parse_54 ?_
              cases h
              exact px_eWi hA0 hQ hP hD hS hx hb hr hlocks dX6_parse_57
          · rw [if_pos c11] at h
            refine lv_iconst (v := (-1 : Int32)) hx hb dX6_parse_45 (by decide) ?_
            cases h
            exact px_eWi hA0 hQ hP hD hS hx hb hr hlocks dX6_parse_46
        · rw [if_pos c8] at h
          refine lv_aload_n hx hb dX6_parse_26 rfl (lv_at hl 0 rfl) ?_
          refine va_get (D := E.1) (ci := 6) (v := .int w5) (C := RX6) (T := TX6) (N := 4) hx hb hts iX6 hown hK hP 0 rfl rfl 2 (by decide) (hts _ q190) (fun _ h9 => h9) rfl dX6_parse_27 ?_
          cases h
          exact px_eWi hA0 hQ hP hD hS hx hb hr hlocks dX6_parse_30
  intro H locs hP hS
  refine lv_aload_n hx hb dX6_parse_0 rfl (lv_at hl 0 rfl) ?_
  refine lv_iconst (v := (nI 0)) hx hb dX6_parse_1 (by decide) ?_
  refine va_put (D := E.1) (ci := 6) (v := .int (nI 0)) (ty := .int) (C := RX6) (T := TX6) (N := 4) hx hb hts iX6 tyX6 tyX6_ok nmX6 hown hK hP hD hS 0 rfl rfl 1 (by decide) (hts _ q189) (fun _ h9 => h9) rfl (tyX6_ok 1 (by decide)) rfl rfl (Nat.le_of_ble_eq_true rfl) dX6_parse_2 (fun H locs hP hD hS => ?_)
  have hP : va_P E.1 vwCl ([gX6 E a v_rows (nI 0) v_position v_column, gX3 E a_inp inp_signs inp_length] : List va_W).flatten H := hP
  have hD : va_D A ([gX6 E a v_rows (nI 0) v_position v_column, gX3 E a_inp inp_signs inp_length] : List va_W).flatten := hD
  refine lv_aload_n hx hb dX6_parse_5 rfl (lv_at hl 0 rfl) ?_
  refine lv_iconst (v := (nI 0)) hx hb dX6_parse_6 (by decide) ?_
  refine va_put (D := E.1) (ci := 6) (v := .int (nI 0)) (ty := .int) (C := RX6) (T := TX6) (N := 4) hx hb hts iX6 tyX6 tyX6_ok nmX6 hown hK hP hD hS 0 rfl rfl 2 (by decide) (hts _ q190) (fun _ h9 => h9) rfl (tyX6_ok 2 (by decide)) rfl rfl (Nat.le_of_ble_eq_true rfl) dX6_parse_7 (fun H locs hP hD hS => ?_)
  have hP : va_P E.1 vwCl ([gX6 E a v_rows (nI 0) (nI 0) v_column, gX3 E a_inp inp_signs inp_length] : List va_W).flatten H := hP
  have hD : va_D A ([gX6 E a v_rows (nI 0) (nI 0) v_column, gX3 E a_inp inp_signs inp_length] : List va_W).flatten := hD
  refine lv_iconst (v := (nI 0)) hx hb dX6_parse_10 (by decide) ?_
  refine lv_istore_n (lv' := [(2, .int (nI 0)), (0, .ref (a 0)), (1, .ref (a_inp 0))]) hx hb dX6_parse_11 rfl hl (by decide) rfl (fun ls hl => ?_)
  exact L12 fuel ((nI 0)) (v_rows) ((nI 0)) ((nI 0)) (v_column) H locs ls hP hD hS (lv_sub hl [1, 2, 0] rfl) h
def f6_carryOutOrder (x2 : Int32) (v_rows : AI) (desk_reason : Int32) (desk_detail : Int32) (mix_row : AI) (mix_conflictCount : Int32) (mix_lowest : Int32) (φ_forest : Fo) : Option (Int32 × Int32 × Int32 × AI × Int32 × Int32 × Fo) := ((f6_numberAt (x2) ((nI 1)) (v_rows)).bind fun r1 => ((f6_numberAt (x2) ((nI 2)) (v_rows)).bind fun r3 => ((f6_numberAt (x2) ((nI 3)) (v_rows)).bind fun r5 => ((f6_numberAt (x2) ((nI 0)) (v_rows)).bind fun r7 => (if r7 = nI 101 then ((f0_tryEdit (r1) (r3) (r5) (desk_reason) (desk_detail) (mix_row) (φ_forest)).bind fun (r10, w11, w12, w13, w14) => (some (r10, w11, w12, w13, mix_conflictCount, mix_lowest, w14))) else (if r7 = nI 102 then ((f0_tryFork (r1) (desk_reason) (desk_detail) (φ_forest)).bind fun (r17, w18, w19, w20) => (some (r17, w18, w19, mix_row, mix_conflictCount, mix_lowest, w20))) else (if r7 = nI 109 then ((f0_tryMerge (r1) (r3) (r5) (desk_reason) (desk_detail) (mix_row) (mix_conflictCount) (mix_lowest) (φ_forest)).bind fun (r23, w24, w25, w26, w27, w28, w29) => (some (r23, w24, w25, w26, w27, w28, w29))) else (if r7 = nI 112 then ((f0_tryPick (r1) (r3) (r5) (desk_reason) (desk_detail) (mix_row) (mix_conflictCount) (mix_lowest) (φ_forest)).bind fun (r32, w33, w34, w35, w36, w37, w38) => (some (r32, w33, w34, w35, w36, w37, w38))) else (if r7 = nI 114 then ((f0_tryReset (r1) (r3) (desk_reason) (desk_detail) (φ_forest)).bind fun (r41, w42, w43, w44) => (some (r41, w42, w43, mix_row, mix_conflictCount, mix_lowest, w44))) else (if r7 = nI 118 then ((f0_tryRevert (r1) (r3) (r5) (desk_reason) (desk_detail) (mix_row) (mix_conflictCount) (mix_lowest) (φ_forest)).bind fun (r47, w48, w49, w50, w51, w52, w53) => (some (r47, w48, w49, w50, w51, w52, w53))) else (some ((-2 : Int32), desk_reason, desk_detail, mix_row, mix_conflictCount, mix_lowest, φ_forest))))))))))))
set_option maxHeartbeats 4000000 in
set_option maxRecDepth 100000 in
theorem c6_carryOutOrder (l : Launch) (E : PE) (a : Nat → Nat) (a_desk : Nat → Nat) (a_mix : Nat → Nat) (a_forest : Nat → Nat)  (x2 : Int32) (v_rows : AI) (v_count : Int32) (v_position : Int32) (v_column : Int32) (desk_reason : Int32) (desk_detail : Int32) (mix_row : AI) (mix_conflictCount : Int32) (mix_lowest : Int32) (φ_forest : Fo) (r : Int32) (z_desk_reason : Int32) (z_desk_detail : Int32) (z_mix_row : AI) (z_mix_conflictCount : Int32) (z_mix_lowest : Int32) (z_forest_φ : Fo) (h : f6_carryOutOrder x2 v_rows desk_reason desk_detail mix_row mix_conflictCount mix_lowest φ_forest = some (r, z_desk_reason, z_desk_detail, z_mix_row, z_mix_conflictCount, z_mix_lowest, z_forest_φ)) : MW l yX6_carryOutOrder cX6_carryOutOrder 6 (some .int) { frames := 4, cells := 0, slots := 0, locals := 100 } E [.ref (a 0), .ref (a_desk 0), .int x2] ([gX6 E a v_rows v_count v_position v_column, gX0 E a_desk (a_forest 0) (a_mix 0) desk_reason desk_detail, gX5 E a_mix mix_row mix_conflictCount mix_lowest, gX1 E a_forest φ_forest] : List va_W).flatten 0 0 (some (.int r)) ([gX6 E a v_rows v_count v_position v_column, gX0 E a_desk (a_forest 0) (a_mix 0) z_desk_reason z_desk_detail, gX5 E a_mix z_mix_row z_mix_conflictCount z_mix_lowest, gX1 E a_forest z_forest_φ] : List va_W).flatten := by
  refine px_startW (by decide +kernel) (Nat.le_of_ble_eq_true rfl) ?_
  intro p e s m args below meth c R Q A ls hC hA0 hQ
  obtain ⟨hx, hb, hr, hml, hts, hown, hlocks, hR, hK, hN, hP, hD, hA, hl, hin⟩ := hC
  have hl : lv_has ls 6 [(0, .ref (a 0)), (1, .ref (a_desk 0)), (2, .int x2)] := hl
  suffices key : ∀ (H : Heap) (locs : List Loc), va_P E.1 vwCl ([gX6 E a v_rows v_count v_position v_column, gX0 E a_desk (a_forest 0) (a_mix 0) desk_reason desk_detail, gX5 E a_mix mix_row mix_conflictCount mix_lowest, gX1 E a_forest φ_forest] : List va_W).flatten H → va_S A s.heap H locs → W p l e R s m args below meth c H locs 0 0 Q (F0 m 0 ls []) from key s.heap [] hP va_S.rf
  unfold f6_carryOutOrder at h
  intro H locs hP hS
  refine lv_aload_n hx hb dX6_carryOutOrder_0 rfl (lv_at hl 0 rfl) ?_
  refine lv_iload_n hx hb dX6_carryOutOrder_1 rfl (lv_at hl 2 rfl) ?_
  refine lv_iconst (v := (nI 1)) hx hb dX6_carryOutOrder_2 (by decide) ?_
  obtain ⟨r1, hr2, h⟩ := ob h
  refine px_Vp (As := [.int x2, .int (nI 1)]) (rest := []) (gs := ([gX6 E a v_rows v_count v_position v_column, gX0 E a_desk (a_forest 0) (a_mix 0) desk_reason desk_detail, gX5 E a_mix mix_row mix_conflictCount mix_lowest, gX1 E a_forest φ_forest] : List va_W)) (gc := ([gX6 E a v_rows v_count v_position v_column] : List va_W)) ⟨hx, hb, hml, hown, hts⟩ (c6_numberAt l E a  (x2) ((nI 1)) (v_rows) (v_count) (v_position) (v_column) r1 hr2) (cwV 2 hts (ws_v q835 q837 q14 q25 q838) rfl rfl rfl hdV_X6_numberAt (by rw [hR]; exact ⟨Nat.le_of_ble_eq_true rfl, Nat.le_of_ble_eq_true rfl⟩)) hK hN hP hD [0] rfl (by decide) 0 6 rfl rfl rfl rfl hl.1 rfl (Nat.le_of_ble_eq_true rfl) dX6_carryOutOrder_3 (by rw [hR]; exact ⟨Nat.le_of_ble_eq_true rfl, Nat.le_of_ble_eq_true rfl⟩) ?_
  refine W.eq (g2 := F0 m 6 ls [.int r1]) rfl ?_
  refine lv_istore_n (lv' := [(3, .int r1), (0, .ref (a 0)), (1, .ref (a_desk 0)), (2, .int x2)]) hx hb dX6_carryOutOrder_6 rfl hl (by decide) rfl (fun ls hl => ?_)
  refine lv_aload_n hx hb dX6_carryOutOrder_7 rfl (lv_at hl 1 rfl) ?_
  refine lv_iload_n hx hb dX6_carryOutOrder_8 rfl (lv_at hl 3 rfl) ?_
  refine lv_iconst (v := (nI 2)) hx hb dX6_carryOutOrder_9 (by decide) ?_
  obtain ⟨r3, hr4, h⟩ := ob h
  refine px_Vp (As := [.int x2, .int (nI 2)]) (rest := []) (gs := ([gX6 E a v_rows v_count v_position v_column, gX0 E a_desk (a_forest 0) (a_mix 0) desk_reason desk_detail, gX5 E a_mix mix_row mix_conflictCount mix_lowest, gX1 E a_forest φ_forest] : List va_W)) (gc := ([gX6 E a v_rows v_count v_position v_column] : List va_W)) ⟨hx, hb, hml, hown, hts⟩ (c6_numberAt l E a  (x2) ((nI 2)) (v_rows) (v_count) (v_position) (v_column) r3 hr4) (cwV 2 hts (ws_v q835 q837 q14 q25 q838) rfl rfl rfl hdV_X6_numberAt (by rw [hR]; exact ⟨Nat.le_of_ble_eq_true rfl, Nat.le_of_ble_eq_true rfl⟩)) hK hN hP hD [0] rfl (by decide) 0 6 rfl rfl rfl rfl hl.1 rfl (Nat.le_of_ble_eq_true rfl) dX6_carryOutOrder_10 (by rw [hR]; exact ⟨Nat.le_of_ble_eq_true rfl, Nat.le_of_ble_eq_true rfl⟩) ?_
  refine W.eq (g2 := F0 m 13 ls [.int r3]) rfl ?_
  refine lv_istore (lv' := [(4, .int r3), (3, .int r1), (0, .ref (a 0)), (1, .ref (a_desk 0)), (2, .int x2)]) hx hb dX6_carryOutOrder_13 hl (by decide) rfl (fun ls hl => ?_)
  refine lv_aload_n hx hb dX6_carryOutOrder_15 rfl (lv_at hl 2 rfl) ?_
  refine lv_iload_n hx hb dX6_carryOutOrder_16 rfl (lv_at hl 4 rfl) ?_
  refine lv_iconst (v := (nI 3)) hx hb dX6_carryOutOrder_17 (by decide) ?_
  obtain ⟨r5, hr6, h⟩ := ob h
  refine px_Vp (As := [.int x2, .int (nI 3)]) (rest := []) (gs := ([gX6 E a v_rows v_count v_position v_column, gX0 E a_desk (a_forest 0) (a_mix 0) desk_reason desk_detail, gX5 E a_mix mix_row mix_conflictCount mix_lowest, gX1 E a_forest φ_forest] : List va_W)) (gc := ([gX6 E a v_rows v_count v_position v_column] : List va_W)) ⟨hx, hb, hml, hown, hts⟩ (c6_numberAt l E a  (x2) ((nI 3)) (v_rows) (v_count) (v_position) (v_column) r5 hr6) (cwV 2 hts (ws_v q835 q837 q14 q25 q838) rfl rfl rfl hdV_X6_numberAt (by rw [hR]; exact ⟨Nat.le_of_ble_eq_true rfl, Nat.le_of_ble_eq_true rfl⟩)) hK hN hP hD [0] rfl (by decide) 0 6 rfl rfl rfl rfl hl.1 rfl (Nat.le_of_ble_eq_true rfl) dX6_carryOutOrder_18 (by rw [hR]; exact ⟨Nat.le_of_ble_eq_true rfl, Nat.le_of_ble_eq_true rfl⟩) ?_
  refine W.eq (g2 := F0 m 21 ls [.int r5]) rfl ?_
  refine lv_istore (lv' := [(5, .int r5), (4, .int r3), (3, .int r1), (0, .ref (a 0)), (1, .ref (a_desk 0)), (2, .int x2)]) hx hb dX6_carryOutOrder_21 hl (by decide) rfl (fun ls hl => ?_)
  refine lv_aload_n hx hb dX6_carryOutOrder_23 rfl (lv_at hl 3 rfl) ?_
  refine lv_iload_n hx hb dX6_carryOutOrder_24 rfl (lv_at hl 5 rfl) ?_
  refine lv_iconst (v := (nI 0)) hx hb dX6_carryOutOrder_25 (by decide) ?_
  obtain ⟨r7, hr8, h⟩ := ob h
  refine px_Vp (As := [.int x2, .int (nI 0)]) (rest := []) (gs := ([gX6 E a v_rows v_count v_position v_column, gX0 E a_desk (a_forest 0) (a_mix 0) desk_reason desk_detail, gX5 E a_mix mix_row mix_conflictCount mix_lowest, gX1 E a_forest φ_forest] : List va_W)) (gc := ([gX6 E a v_rows v_count v_position v_column] : List va_W)) ⟨hx, hb, hml, hown, hts⟩ (c6_numberAt l E a  (x2) ((nI 0)) (v_rows) (v_count) (v_position) (v_column) r7 hr8) (cwV 2 hts (ws_v q835 q837 q14 q25 q838) rfl rfl rfl hdV_X6_numberAt (by rw [hR]; exact ⟨Nat.le_of_ble_eq_true rfl, Nat.le_of_ble_eq_true rfl⟩)) hK hN hP hD [0] rfl (by decide) 0 6 rfl rfl rfl rfl hl.1 rfl (Nat.le_of_ble_eq_true rfl) dX6_carryOutOrder_26 (by rw [hR]; exact ⟨Nat.le_of_ble_eq_true rfl, Nat.le_of_ble_eq_true rfl⟩) ?_
  refine W.eq (g2 := F0 m 29 ls [.int r7]) rfl ?_
  by_cases c9 : r7 = nI 101
  · rw [if_pos c9] at h
    refine lv_tableIn (off := 87) (tgt := 116) hx hb dX6_carryOutOrder_29 (by rw [c9]; decide) (by rw [c9]; decide) (by rw [c9]; rfl) (by decide) ?_
    refine lv_aload_n hx hb dX6_carryOutOrder_116 rfl (lv_at hl 4 rfl) ?_
    refine lv_iload_n hx hb dX6_carryOutOrder_117 rfl (lv_at hl 2 rfl) ?_
    refine lv_iload hx hb dX6_carryOutOrder_118 (lv_at hl 1 rfl) ?_
    refine lv_iload hx hb dX6_carryOutOrder_120 (lv_at hl 0 rfl) ?_
    obtain ⟨⟨r10, w11, w12, w13, w14⟩, hr15, h⟩ := ob h
    dsimp only at h
    refine px_V (As := [.int r1, .int r3, .int r5]) (rest := []) (gs := ([gX6 E a v_rows v_count v_position v_column, gX0 E a_desk (a_forest 0) (a_mix 0) desk_reason desk_detail, gX5 E a_mix mix_row mix_conflictCount mix_lowest, gX1 E a_forest φ_forest] : List va_W)) (gr := ([gX6 E a v_rows v_count v_position v_column] : List va_W)) (gc := ([gX0 E a_desk (a_forest 0) (a_mix 0) desk_reason desk_detail, gX5 E a_mix mix_row mix_conflictCount mix_lowest, gX1 E a_forest φ_forest] : List va_W)) (g1 := ([gX0 E a_desk (a_forest 0) (a_mix 0) w11 w12, gX5 E a_mix w13 mix_conflictCount mix_lowest, gX1 E a_forest w14] : List va_W)) (g2 := ([gX6 E a v_rows v_count v_position v_column, gX0 E a_desk (a_forest 0) (a_mix 0) w11 w12, gX5 E a_mix w13 mix_conflictCount mix_lowest, gX1 E a_forest w14] : List va_W)) ⟨hx, hb, hml, hown, hts⟩ (c0_tryEdit l E a_desk a_mix a_forest  (r1) (r3) (r5) (desk_reason) (desk_detail) (mix_row) (mix_conflictCount) (mix_lowest) (φ_forest) r10 w11 w12 w13 w14 hr15) (cwV 3 hts (ws_v q839 q281 q282 q21 q283) rfl rfl rfl hdV_X0_tryEdit (by rw [hR]; exact ⟨Nat.le_of_ble_eq_true rfl, Nat.le_of_ble_eq_true rfl⟩)) hK hN hP hD hS hA [0] [1, 2, 3] [0, 1, 2, 3] rfl rfl (by decide) (by decide) rfl (by decide) 0 0 rfl rfl rfl rfl hl.1 rfl (Nat.le_of_ble_eq_true rfl) dX6_carryOutOrder_122 (by rw [hR]; exact ⟨Nat.le_of_ble_eq_true rfl, Nat.le_of_ble_eq_true rfl⟩) (fun H locs hP hD hS => ?_)
    refine W.eq (g2 := F0 m 125 ls [.int r10]) rfl ?_
    cases h
    exact px_eWi hA0 hQ hP hD hS hx hb hr hlocks dX6_carryOutOrder_125
  · rw [if_neg c9] at h
    by_cases c16 : r7 = nI 102
    · rw [if_pos c16] at h
      refine lv_tableIn (off := 97) (tgt := 126) hx hb dX6_carryOutOrder_29 (by rw [c16]; decide) (by rw [c16]; decide) (by rw [c16]; rfl) (by decide) ?_
      refine lv_aload_n hx hb dX6_carryOutOrder_126 rfl (lv_at hl 4 rfl) ?_
      refine lv_iload_n hx hb dX6_carryOutOrder_127 rfl (lv_at hl 2 rfl) ?_
      obtain ⟨⟨r17, w18, w19, w20⟩, hr21, h⟩ := ob h
      dsimp only at h
      refine px_V (As := [.int r1]) (rest := []) (gs := ([gX6 E a v_rows v_count v_position v_column, gX0 E a_desk (a_forest 0) (a_mix 0) desk_reason desk_detail, gX5 E a_mix mix_row mix_conflictCount mix_lowest, gX1 E a_forest φ_forest] : List va_W)) (gr := ([gX6 E a v_rows v_count v_position v_column, gX5 E a_mix mix_row mix_conflictCount mix_lowest] : List va_W)) (gc := ([gX0 E a_desk (a_forest 0) (a_mix 0) desk_reason desk_detail, gX1 E a_forest φ_forest] : List va_W)) (g1 := ([gX0 E a_desk (a_forest 0) (a_mix 0) w18 w19, gX1 E a_forest w20] : List va_W)) (g2 := ([gX6 E a v_rows v_count v_position v_column, gX0 E a_desk (a_forest 0) (a_mix 0) w18 w19, gX5 E a_mix mix_row mix_conflictCount mix_lowest, gX1 E a_forest w20] : List va_W)) ⟨hx, hb, hml, hown, hts⟩ (c0_tryFork l E a_desk a_forest (a_mix 0) (r1) (desk_reason) (desk_detail) (φ_forest) r17 w18 w19 w20 hr21) (cwV 1 hts (ws_v q840 q464 q465 q21 q466) rfl rfl rfl hdV_X0_tryFork (by rw [hR]; exact ⟨Nat.le_of_ble_eq_true rfl, Nat.le_of_ble_eq_true rfl⟩)) hK hN hP hD hS hA [0, 2] [1, 3] [0, 2, 1, 3] rfl rfl (by decide) (by decide) rfl (by decide) 0 0 rfl rfl rfl rfl hl.1 rfl (Nat.le_of_ble_eq_true rfl) dX6_carryOutOrder_128 (by rw [hR]; exact ⟨Nat.le_of_ble_eq_true rfl, Nat.le_of_ble_eq_true rfl⟩) (fun H locs hP hD hS => ?_)
      refine W.eq (g2 := F0 m 131 ls [.int r17]) rfl ?_
      cases h
      exact px_eWi hA0 hQ hP hD hS hx hb hr hlocks dX6_carryOutOrder_131
    · rw [if_neg c16] at h
      by_cases c22 : r7 = nI 109
      · rw [if_pos c22] at h
        refine lv_tableIn (off := 103) (tgt := 132) hx hb dX6_carryOutOrder_29 (by rw [c22]; decide) (by rw [c22]; decide) (by rw [c22]; rfl) (by decide) ?_
        refine lv_aload_n hx hb dX6_carryOutOrder_132 rfl (lv_at hl 4 rfl) ?_
        refine lv_iload_n hx hb dX6_carryOutOrder_133 rfl (lv_at hl 2 rfl) ?_
        refine lv_iload hx hb dX6_carryOutOrder_134 (lv_at hl 1 rfl) ?_
        refine lv_iload hx hb dX6_carryOutOrder_136 (lv_at hl 0 rfl) ?_
        obtain ⟨⟨r23, w24, w25, w26, w27, w28, w29⟩, hr30, h⟩ := ob h
        dsimp only at h
        refine px_V (As := [.int r1, .int r3, .int r5]) (rest := []) (gs := ([gX6 E a v_rows v_count v_position v_column, gX0 E a_desk (a_forest 0) (a_mix 0) desk_reason desk_detail, gX5 E a_mix mix_row mix_conflictCount mix_lowest, gX1 E a_forest φ_forest] : List va_W)) (gr := ([gX6 E a v_rows v_count v_position v_column] : List va_W)) (gc := ([gX0 E a_desk (a_forest 0) (a_mix 0) desk_reason desk_detail, gX5 E a_mix mix_row mix_conflictCount mix_lowest, gX1 E a_forest φ_forest] : List va_W)) (g1 := ([gX0 E a_desk (a_forest 0) (a_mix 0) w24 w25, gX5 E a_mix w26 w27 w28, gX1 E a_forest w29] : List va_W)) (g2 := ([gX6 E a v_rows v_count v_position v_column, gX0 E a_desk (a_forest 0) (a_mix 0) w24 w25, gX5 E a_mix w26 w27 w28, gX1 E a_forest w29] : List va_W)) ⟨hx, hb, hml, hown, hts⟩ (c0_tryMerge l E a_desk a_mix a_forest  (r1) (r3) (r5) (desk_reason) (desk_detail) (mix_row) (mix_conflictCount) (mix_lowest) (φ_forest) r23 w24 w25 w26 w27 w28 w29 hr30) (cwV 3 hts (ws_v q841 q556 q557 q21 q558) rfl rfl rfl hdV_X0_tryMerge (by rw [hR]; exact ⟨Nat.le_of_ble_eq_true rfl, Nat.le_of_ble_eq_true rfl⟩)) hK hN hP hD hS hA [0] [1, 2, 3] [0, 1, 2, 3] rfl rfl (by decide) (by decide) rfl (by decide) 0 0 rfl rfl rfl rfl hl.1 rfl (Nat.le_of_ble_eq_true rfl) dX6_carryOutOrder_138 (by rw [hR]; exact ⟨Nat.le_of_ble_eq_true rfl, Nat.le_of_ble_eq_true rfl⟩) (fun H locs hP hD hS => ?_)
        refine W.eq (g2 := F0 m 141 ls [.int r23]) rfl ?_
        cases h
        exact px_eWi hA0 hQ hP hD hS hx hb hr hlocks dX6_carryOutOrder_141
      · rw [if_neg c22] at h
        by_cases c31 : r7 = nI 112
        · rw [if_pos c31] at h
          refine lv_tableIn (off := 113) (tgt := 142) hx hb dX6_carryOutOrder_29 (by rw [c31]; decide) (by rw [c31]; decide) (by rw [c31]; rfl) (by decide) ?_
          refine lv_aload_n hx hb dX6_carryOutOrder_142 rfl (lv_at hl 4 rfl) ?_
          refine lv_iload_n hx hb dX6_carryOutOrder_143 rfl (lv_at hl 2 rfl) ?_
          refine lv_iload hx hb dX6_carryOutOrder_144 (lv_at hl 1 rfl) ?_
          refine lv_iload hx hb dX6_carryOutOrder_146 (lv_at hl 0 rfl) ?_
          obtain ⟨⟨r32, w33, w34, w35, w36, w37, w38⟩, hr39, h⟩ := ob h
          dsimp only at h
          refine px_V (As := [.int r1, .int r3, .int r5]) (rest := []) (gs := ([gX6 E a v_rows v_count v_position v_column, gX0 E a_desk (a_forest 0) (a_mix 0) desk_reason desk_detail, gX5 E a_mix mix_row mix_conflictCount mix_lowest, gX1 E a_forest φ_forest] : List va_W)) (gr := ([gX6 E a v_rows v_count v_position v_column] : List va_W)) (gc := ([gX0 E a_desk (a_forest 0) (a_mix 0) desk_reason desk_detail, gX5 E a_mix mix_row mix_conflictCount mix_lowest, gX1 E a_forest φ_forest] : List va_W)) (g1 := ([gX0 E a_desk (a_forest 0) (a_mix 0) w33 w34, gX5 E a_mix w35 w36 w37, gX1 E a_forest w38] : List va_W)) (g2 := ([gX6 E a v_rows v_count v_position v_column, gX0 E a_desk (a_forest 0) (a_mix 0) w33 w34, gX5 E a_mix w35 w36 w37, gX1 E a_forest w38] : List va_W)) ⟨hx, hb, hml, hown, hts⟩ (c0_tryPick l E a_desk a_mix a_forest  (r1) (r3) (r5) (desk_reason) (desk_detail) (mix_row) (mix_conflictCount) (mix_lowest) (φ_forest) r32 w33 w34 w35 w36 w37 w38 hr39) (cwV 3 hts (ws_v q842 q843 q844 q21 q845) rfl rfl rfl hdV_X0_tryPick (by rw [hR]; exact ⟨Nat.le_of_ble_eq_true rfl, Nat.le_of_ble_eq_true rfl⟩)) hK hN hP hD hS hA [0] [1, 2, 3] [0, 1, 2, 3] rfl rfl (by decide) (by decide) rfl (by decide) 0 0 rfl rfl rfl rfl hl.1 rfl (Nat.le_of_ble_eq_true rfl) dX6_carryOutOrder_148 (by rw [hR]; exact ⟨Nat.le_of_ble_eq_true rfl, Nat.le_of_ble_eq_true rfl⟩) (fun H locs hP hD hS => ?_)
          refine W.eq (g2 := F0 m 151 ls [.int r32]) rfl ?_
          cases h
          exact px_eWi hA0 hQ hP hD hS hx hb hr hlocks dX6_carryOutOrder_151
        · rw [if_neg c31] at h
          by_cases c40 : r7 = nI 114
          · rw [if_pos c40] at h
            refine lv_tableIn (off := 133) (tgt := 162) hx hb dX6_carryOutOrder_29 (by rw [c40]; decide) (by rw [c40]; decide) (by rw [c40]; rfl) (by decide) ?_
            refine lv_aload_n hx hb dX6_carryOutOrder_162 rfl (lv_at hl 4 rfl) ?_
            refine lv_iload_n hx hb dX6_carryOutOrder_163 rfl (lv_at hl 2 rfl) ?_
            refine lv_iload hx hb dX6_carryOutOrder_164 (lv_at hl 1 rfl) ?_
            obtain ⟨⟨r41, w42, w43, w44⟩, hr45, h⟩ := ob h
            dsimp only at h
            refine px_V (As := [.int r1, .int r3]) (rest := []) (gs := ([gX6 E a v_rows v_count v_position v_column, gX0 E a_desk (a_forest 0) (a_mix 0) desk_reason desk_detail, gX5 E a_mix mix_row mix_conflictCount mix_lowest, gX1 E a_forest φ_forest] : List va_W)) (gr := ([gX6 E a v_rows v_count v_position v_column, gX5 E a_mix mix_row mix_conflictCount mix_lowest] : List va_W)) (gc := ([gX0 E a_desk (a_forest 0) (a_mix 0) desk_reason desk_detail, gX1 E a_forest φ_forest] : List va_W)) (g1 := ([gX0 E a_desk (a_forest 0) (a_mix 0) w42 w43, gX1 E a_forest w44] : List va_W)) (g2 := ([gX6 E a v_rows v_count v_position v_column, gX0 E a_desk (a_forest 0) (a_mix 0) w42 w43, gX5 E a_mix mix_row mix_conflictCount mix_lowest, gX1 E a_forest w44] : List va_W)) ⟨hx, hb, hml, hown, hts⟩ (c0_tryReset l E a_desk a_forest (a_mix 0) (r1) (r3) (desk_reason) (desk_detail) (φ_forest) r41 w42 w43 w44 hr45) (cwV 2 hts (ws_v q847 q483 q484 q21 q485) rfl rfl rfl hdV_X0_tryReset (by rw [hR]; exact ⟨Nat.le_of_ble_eq_true rfl, Nat.le_of_ble_eq_true rfl⟩)) hK hN hP hD hS hA [0, 2] [1, 3] [0, 2, 1, 3] rfl rfl (by decide) (by decide) rfl (by decide) 0 0 rfl rfl rfl rfl hl.1 rfl (Nat.le_of_ble_eq_true rfl) dX6_carryOutOrder_166 (by rw [hR]; exact ⟨Nat.le_of_ble_eq_true rfl, Nat.le_of_ble_eq_true rfl⟩) (fun H locs hP hD hS => ?_)
            refine W.eq (g2 := F0 m 169 ls [.int r41]) rfl ?_
            cases h
            exact px_eWi hA0 hQ hP hD hS hx hb hr hlocks dX6_carryOutOrder_169
          · rw [if_neg c40] at h
            by_cases c46 : r7 = nI 118
            · rw [if_pos c46] at h
              refine lv_tableIn (off := 123) (tgt := 152) hx hb dX6_carryOutOrder_29 (by rw [c46]; decide) (by rw [c46]; decide) (by rw [c46]; rfl) (by decide) ?_
              refine lv_aload_n hx hb dX6_carryOutOrder_152 rfl (lv_at hl 4 rfl) ?_
              refine lv_iload_n hx hb dX6_carryOutOrder_153 rfl (lv_at hl 2 rfl) ?_
              refine lv_iload hx hb dX6_carryOutOrder_154 (lv_at hl 1 rfl) ?_
              refine lv_iload hx hb dX6_carryOutOrder_156 (lv_at hl 0 rfl) ?_
              obtain ⟨⟨r47, w48, w49, w50, w51, w52, w53⟩, hr54, h⟩ := ob h
              dsimp only at h
              refine px_V (As := [.int r1, .int r3, .int r5]) (rest := []) (gs := ([gX6 E a v_rows v_count v_position v_column, gX0 E a_desk (a_forest 0) (a_mix 0) desk_reason desk_detail, gX5 E a_mix mix_row mix_conflictCount mix_lowest, gX1 E a_forest φ_forest] : List va_W)) (gr := ([gX6 E a v_rows v_count v_position v_column] : List va_W)) (gc := ([gX0 E a_desk (a_forest 0) (a_mix 0) desk_reason desk_detail, gX5 E a_mix mix_row mix_conflictCount mix_lowest, gX1 E a_forest φ_forest] : List va_W)) (g1 := ([gX0 E a_desk (a_forest 0) (a_mix 0) w48 w49, gX5 E a_mix w50 w51 w52, gX1 E a_forest w53] : List va_W)) (g2 := ([gX6 E a v_rows v_count v_position v_column, gX0 E a_desk (a_forest 0) (a_mix 0) w48 w49, gX5 E a_mix w50 w51 w52, gX1 E a_forest w53] : List va_W)) ⟨hx, hb, hml, hown, hts⟩ (c0_tryRevert l E a_desk a_mix a_forest  (r1) (r3) (r5) (desk_reason) (desk_detail) (mix_row) (mix_conflictCount) (mix_lowest) (φ_forest) r47 w48 w49 w50 w51 w52 w53 hr54) (cwV 3 hts (ws_v q846 q601 q602 q21 q603) rfl rfl rfl hdV_X0_tryRevert (by rw [hR]; exact ⟨Nat.le_of_ble_eq_true rfl, Nat.le_of_ble_eq_true rfl⟩)) hK hN hP hD hS hA [0] [1, 2, 3] [0, 1, 2, 3] rfl rfl (by decide) (by decide) rfl (by decide) 0 0 rfl rfl rfl rfl hl.1 rfl (Nat.le_of_ble_eq_true rfl) dX6_carryOutOrder_158 (by rw [hR]; exact ⟨Nat.le_of_ble_eq_true rfl, Nat.le_of_ble_eq_true rfl⟩) (fun H locs hP hD hS => ?_)
              refine W.eq (g2 := F0 m 161 ls [.int r47]) rfl ?_
              cases h
              exact px_eWi hA0 hQ hP hD hS hx hb hr hlocks dX6_carryOutOrder_161
            · rw [if_neg c46] at h
              refine px_tdef hx hb dX6_carryOutOrder_29 (fun w1 w2 => ?_) (tgt := 170) (by decide) ?_
              · obtain w | w | w | w | w | w | w | w | w | w | w | w | w | w | w | w | w | w : (r7).toInt = 101 ∨ (r7).toInt = 102 ∨ (r7).toInt = 103 ∨ (r7).toInt = 104 ∨ (r7).toInt = 105 ∨ (r7).toInt = 106 ∨ (r7).toInt = 107 ∨ (r7).toInt = 108 ∨ (r7).toInt = 109 ∨ (r7).toInt = 110 ∨ (r7).toInt = 111 ∨ (r7).toInt = 112 ∨ (r7).toInt = 113 ∨ (r7).toInt = 114 ∨ (r7).toInt = 115 ∨ (r7).toInt = 116 ∨ (r7).toInt = 117 ∨ (r7).toInt = 118 := by omega
                · exact absurd (Int32.toInt_inj.mp (w.trans (show (101 : Int) = (nI 101).toInt from by decide))) c9
                · exact absurd (Int32.toInt_inj.mp (w.trans (show (102 : Int) = (nI 102).toInt from by decide))) c16
                · rw [w]; rfl
                · rw [w]; rfl
                · rw [w]; rfl
                · rw [w]; rfl
                · rw [w]; rfl
                · rw [w]; rfl
                · exact absurd (Int32.toInt_inj.mp (w.trans (show (109 : Int) = (nI 109).toInt from by decide))) c22
                · rw [w]; rfl
                · rw [w]; rfl
                · exact absurd (Int32.toInt_inj.mp (w.trans (show (112 : Int) = (nI 112).toInt from by decide))) c31
                · rw [w]; rfl
                · exact absurd (Int32.toInt_inj.mp (w.trans (show (114 : Int) = (nI 114).toInt from by decide))) c40
                · rw [w]; rfl
                · rw [w]; rfl
                · rw [w]; rfl
                · exact absurd (Int32.toInt_inj.mp (w.trans (show (118 : Int) = (nI 118).toInt from by decide))) c46
              · refine lv_bipush (v := (-2 : Int32)) hx hb dX6_carryOutOrder_170 (by decide) ?_
                cases h
                exact px_eWi hA0 hQ hP hD hS hx hb hr hlocks dX6_carryOutOrder_172
def f6_carryOut_L2 (v_rows : AI) (v_count : Int32) : Nat → Int32 → Int32 → Int32 → AI → Int32 → Int32 → Fo → Option (Int32 × Int32 × Int32 × AI × Int32 × Int32 × Fo)
  | 0, _, _, _, _, _, _, _ => none
  | n + 1, x2, desk_reason, desk_detail, mix_row, mix_conflictCount, mix_lowest, φ_forest => (if v_count ≤ x2 then (some (v_count, desk_reason, desk_detail, mix_row, mix_conflictCount, mix_lowest, φ_forest)) else ((f6_carryOutOrder (x2) (v_rows) (desk_reason) (desk_detail) (mix_row) (mix_conflictCount) (mix_lowest) (φ_forest)).bind fun (r2, w3, w4, w5, w6, w7, w8) => (if 0 ≤ r2 then (f6_carryOut_L2 v_rows v_count n ((x2 + nI 1)) (w3) (w4) (w5) (w6) (w7) (w8)) else (if r2 = (-3 : Int32) then (some ((-3 : Int32), w3, w4, w5, w6, w7, w8)) else (some ((-2 : Int32), w3, w4, w5, w6, w7, w8))))))
def f6_carryOut  (v_rows : AI) (v_count : Int32) (desk_reason : Int32) (desk_detail : Int32) (mix_row : AI) (mix_conflictCount : Int32) (mix_lowest : Int32) (φ_forest : Fo) : Option (Int32 × Int32 × Int32 × AI × Int32 × Int32 × Fo) := (f6_carryOut_L2 v_rows v_count fuel ((nI 0)) (desk_reason) (desk_detail) (mix_row) (mix_conflictCount) (mix_lowest) (φ_forest))
set_option maxHeartbeats 4000000 in
set_option maxRecDepth 100000 in
theorem c6_carryOut (l : Launch) (E : PE) (a : Nat → Nat) (a_desk : Nat → Nat) (a_mix : Nat → Nat) (a_forest : Nat → Nat)   (v_rows : AI) (v_count : Int32) (v_position : Int32) (v_column : Int32) (desk_reason : Int32) (desk_detail : Int32) (mix_row : AI) (mix_conflictCount : Int32) (mix_lowest : Int32) (φ_forest : Fo) (r : Int32) (z_desk_reason : Int32) (z_desk_detail : Int32) (z_mix_row : AI) (z_mix_conflictCount : Int32) (z_mix_lowest : Int32) (z_forest_φ : Fo) (h : f6_carryOut v_rows v_count desk_reason desk_detail mix_row mix_conflictCount mix_lowest φ_forest = some (r, z_desk_reason, z_desk_detail, z_mix_row, z_mix_conflictCount, z_mix_lowest, z_forest_φ)) : MW l yX6_carryOut cX6_carryOut 4 (some .int) { frames := 5, cells := 0, slots := 0, locals := 125 } E [.ref (a 0), .ref (a_desk 0)] ([gX6 E a v_rows v_count v_position v_column, gX0 E a_desk (a_forest 0) (a_mix 0) desk_reason desk_detail, gX5 E a_mix mix_row mix_conflictCount mix_lowest, gX1 E a_forest φ_forest] : List va_W).flatten 0 0 (some (.int r)) ([gX6 E a v_rows v_count v_position v_column, gX0 E a_desk (a_forest 0) (a_mix 0) z_desk_reason z_desk_detail, gX5 E a_mix z_mix_row z_mix_conflictCount z_mix_lowest, gX1 E a_forest z_forest_φ] : List va_W).flatten := by
  refine px_startW (by decide +kernel) (Nat.le_of_ble_eq_true rfl) ?_
  intro p e s m args below meth c R Q A ls hC hA0 hQ
  obtain ⟨hx, hb, hr, hml, hts, hown, hlocks, hR, hK, hN, hP, hD, hA, hl, hin⟩ := hC
  have hl : lv_has ls 4 [(0, .ref (a 0)), (1, .ref (a_desk 0))] := hl
  suffices key : ∀ (H : Heap) (locs : List Loc), va_P E.1 vwCl ([gX6 E a v_rows v_count v_position v_column, gX0 E a_desk (a_forest 0) (a_mix 0) desk_reason desk_detail, gX5 E a_mix mix_row mix_conflictCount mix_lowest, gX1 E a_forest φ_forest] : List va_W).flatten H → va_S A s.heap H locs → W p l e R s m args below meth c H locs 0 0 Q (F0 m 0 ls []) from key s.heap [] hP va_S.rf
  unfold f6_carryOut at h
  have L2 : ∀ (n : Nat) (x2 : Int32) (desk_reason : Int32) (desk_detail : Int32) (mix_row : AI) (mix_conflictCount : Int32) (mix_lowest : Int32) (φ_forest : Fo) (H : Heap) (locs : List Loc) (ls : Array Slot), va_P E.1 vwCl ([gX6 E a v_rows v_count v_position v_column, gX0 E a_desk (a_forest 0) (a_mix 0) desk_reason desk_detail, gX5 E a_mix mix_row mix_conflictCount mix_lowest, gX1 E a_forest φ_forest] : List va_W).flatten H → va_D A ([gX6 E a v_rows v_count v_position v_column, gX0 E a_desk (a_forest 0) (a_mix 0) desk_reason desk_detail, gX5 E a_mix mix_row mix_conflictCount mix_lowest, gX1 E a_forest φ_forest] : List va_W).flatten → va_S A s.heap H locs → lv_has ls 4 [(0, .ref (a 0)), (1, .ref (a_desk 0)), (2, .int x2)] → f6_carryOut_L2 v_rows v_count n x2 desk_reason desk_detail mix_row mix_conflictCount mix_lowest φ_forest = some (r, z_desk_reason, z_desk_detail, z_mix_row, z_mix_conflictCount, z_mix_lowest, z_forest_φ) → W p l e R s m args below meth c H locs 0 0 Q (F0 m 2 ls []) := by
    intro n
    induction n with
    | zero =>
      intro x2 desk_reason desk_detail mix_row mix_conflictCount mix_lowest φ_forest H locs ls hP hD hS hl h
      unfold f6_carryOut_L2 at h; cases h
    | succ n ih =>
      intro x2 desk_reason desk_detail mix_row mix_conflictCount mix_lowest φ_forest H locs ls hP hD hS hl h
      unfold f6_carryOut_L2 at h
      refine lv_iload_n hx hb dX6_carryOut_2 rfl (lv_at hl 2 rfl) ?_
      refine lv_aload_n hx hb dX6_carryOut_3 rfl (lv_at hl 0 rfl) ?_
      refine va_get (D := E.1) (ci := 6) (v := .int v_count) (C := RX6) (T := TX6) (N := 4) hx hb hts iX6 hown hK hP 0 rfl rfl 1 (by decide) (hts _ q189) (fun _ h9 => h9) rfl dX6_carryOut_4 ?_
      refine lv_icmp_ge (tgt := 41) hx hb dX6_carryOut_7 (by decide) (fun c1 => ?_) (fun c1 => ?_)
      · rw [if_pos c1] at h
        refine lv_aload_n hx hb dX6_carryOut_41 rfl (lv_at hl 0 rfl) ?_
        refine va_get (D := E.1) (ci := 6) (v := .int v_count) (C := RX6) (T := TX6) (N := 4) hx hb hts iX6 hown hK hP 0 rfl rfl 1 (by decide) (hts _ q189) (fun _ h9 => h9) rfl dX6_carryOut_42 ?_
        cases h
        exact px_eWi hA0 hQ hP hD hS hx hb hr hlocks dX6_carryOut_45
      · rw [if_neg c1] at h
        refine lv_aload_n hx hb dX6_carryOut_10 rfl (lv_at hl 0 rfl) ?_
        refine lv_aload_n hx hb dX6_carryOut_11 rfl (lv_at hl 1 rfl) ?_
        refine lv_iload_n hx hb dX6_carryOut_12 rfl (lv_at hl 2 rfl) ?_
        obtain ⟨⟨r2, w3, w4, w5, w6, w7, w8⟩, hr9, h⟩ := ob h
        dsimp only at h
        refine px_V (As := [.ref (a_desk 0), .int x2]) (rest := []) (gs := ([gX6 E a v_rows v_count v_position v_column, gX0 E a_desk (a_forest 0) (a_mix 0) desk_reason desk_detail, gX5 E a_mix mix_row mix_conflictCount mix_lowest, gX1 E a_forest φ_forest] : List va_W)) (gr := ([] : List va_W)) (gc := ([gX6 E a v_rows v_count v_position v_column, gX0 E a_desk (a_forest 0) (a_mix 0) desk_reason desk_detail, gX5 E a_mix mix_row mix_conflictCount mix_lowest, gX1 E a_forest φ_forest] : List va_W)) (g1 := ([gX6 E a v_rows v_count v_position v_column, gX0 E a_desk (a_forest 0) (a_mix 0) w3 w4, gX5 E a_mix w5 w6 w7, gX1 E a_forest w8] : List va_W)) (g2 := ([gX6 E a v_rows v_count v_position v_column, gX0 E a_desk (a_forest 0) (a_mix 0) w3 w4, gX5 E a_mix w5 w6 w7, gX1 E a_forest w8] : List va_W)) ⟨hx, hb, hml, hown, hts⟩ (c6_carryOutOrder l E a a_desk a_mix a_forest  (x2) (v_rows) (v_count) (v_position) (v_column) (desk_reason) (desk_detail) (mix_row) (mix_conflictCount) (mix_lowest) (φ_forest) r2 w3 w4 w5 w6 w7 w8 hr9) (cwV 2 hts (ws_v q831 q833 q13 q25 q834) rfl rfl rfl hdV_X6_carryOutOrder (by rw [hR]; exact ⟨Nat.le_of_ble_eq_true rfl, Nat.le_of_ble_eq_true rfl⟩)) hK hN hP hD hS hA [] [0, 1, 2, 3] [0, 1, 2, 3] rfl rfl (by decide) (by decide) rfl (by decide) 0 6 rfl rfl rfl rfl hl.1 rfl (Nat.le_of_ble_eq_true rfl) dX6_carryOut_13 (by rw [hR]; exact ⟨Nat.le_of_ble_eq_true rfl, Nat.le_of_ble_eq_true rfl⟩) (fun H locs hP hD hS => ?_)
        refine W.eq (g2 := F0 m 16 ls [.int r2]) rfl ?_
        refine lv_istore_n (lv' := [(3, .int r2), (0, .ref (a 0)), (1, .ref (a_desk 0)), (2, .int x2)]) hx hb dX6_carryOut_16 rfl hl (by decide) rfl (fun ls hl => ?_)
        refine lv_iload_n hx hb dX6_carryOut_17 rfl (lv_at hl 0 rfl) ?_
        refine lv_if_ge (tgt := 35) hx hb dX6_carryOut_18 (by decide) (fun c10 => ?_) (fun c10 => ?_)
        · rw [if_pos c10] at h
          refine lv_iinc (v := (x2 + nI 1)) (lv' := [(2, .int (x2 + nI 1)), (3, .int r2), (0, .ref (a 0)), (1, .ref (a_desk 0))]) hx hb dX6_carryOut_35 hl (k := 3) rfl rfl (by decide) rfl (fun ls hl => ?_)
          refine lv_goto (tgt := 2) hx hb dX6_carryOut_38 (by decide) ?_
          exact ih ((x2 + nI 1)) (w3) (w4) (w5) (w6) (w7) (w8) H locs ls hP hD hS (lv_sub hl [2, 3, 0] rfl) h
        · rw [if_neg c10] at h
          refine lv_iload_n hx hb dX6_carryOut_21 rfl (lv_at hl 0 rfl) ?_
          refine lv_bipush (v := (-3 : Int32)) hx hb dX6_carryOut_22 (by decide) ?_
          refine lv_icmp_ne (tgt := 32) hx hb dX6_carryOut_24 (by decide) (fun c11 => ?_) (fun c11 => ?_)
          · rw [if_neg c11] at h
            refine lv_bipush (v := (-2 : Int32)) hx hb dX6_carryOut_32 (by decide) ?_
            cases h
            exact px_eWi hA0 hQ hP hD hS hx hb hr hlocks dX6_carryOut_34
          · rw [if_pos c11] at h
            refine lv_bipush (v := (-3 : Int32)) hx hb dX6_carryOut_27 (by decide) ?_
            refine lv_goto (tgt := 34) hx hb dX6_carryOut_29 (by decide) ?_
            cases h
            exact px_eWi hA0 hQ hP hD hS hx hb hr hlocks dX6_carryOut_34
  intro H locs hP hS
  refine lv_iconst (v := (nI 0)) hx hb dX6_carryOut_0 (by decide) ?_
  refine lv_istore_n (lv' := [(2, .int (nI 0)), (0, .ref (a 0)), (1, .ref (a_desk 0))]) hx hb dX6_carryOut_1 rfl hl (by decide) rfl (fun ls hl => ?_)
  exact L2 fuel ((nI 0)) (desk_reason) (desk_detail) (mix_row) (mix_conflictCount) (mix_lowest) (φ_forest) H locs ls hP hD hS (lv_sub hl [1, 2, 0] rfl) h
