def f8_isIngredient (x0 : Int32)  : Option (Bool) := (if x0 < 0 then (some false) else (if (nI 6) ≤ x0 then (some false) else (some true)))
set_option maxHeartbeats 4000000 in
set_option maxRecDepth 100000 in
theorem c8_isIngredient (l : Launch) (E : PE)   (x0 : Int32)  (r : Bool) (h : f8_isIngredient x0 = some r) : MP l yX8_isIngredient cX8_isIngredient 1 (some .boolean) { frames := 0, cells := 0, slots := 0, locals := 0 } E [.int x0] ([] : List va_W).flatten (some (.int (b2i r))) := by
  refine px_startP (by decide +kernel) (Nat.le_of_ble_eq_true rfl) ?_
  intro p e s m args below meth c R Q A ls hC hQ
  obtain ⟨hx, hb, hr, hml, hts, hown, hlocks, hR, hK, hN, hP, hD, hA, hl, hin⟩ := hC
  have hl : lv_has ls 1 [(0, .int x0)] := hl
  unfold f8_isIngredient at h
  refine lv_iload_n hx hb dX8_isIngredient_0 rfl (lv_at hl 0 rfl) ?_
  refine lv_if_lt (tgt := 14) hx hb dX8_isIngredient_1 (by decide) (fun c1 => ?_) (fun c1 => ?_)
  · rw [if_pos c1] at h
    refine lv_iconst (v := (nI 0)) hx hb dX8_isIngredient_14 (by decide) ?_
    cases h
    refine W.eq (g2 := F0 m 15 ls [.int (b2i false)]) rfl ?_
    exact px_ePz (b2i_n _) hQ hx hb hr hlocks dX8_isIngredient_15
  · rw [if_neg c1] at h
    refine lv_iload_n hx hb dX8_isIngredient_4 rfl (lv_at hl 0 rfl) ?_
    refine lv_bipush (v := (nI 6)) hx hb dX8_isIngredient_5 (by decide) ?_
    refine lv_icmp_ge (tgt := 14) hx hb dX8_isIngredient_7 (by decide) (fun c2 => ?_) (fun c2 => ?_)
    · rw [if_pos c2] at h
      refine lv_iconst (v := (nI 0)) hx hb dX8_isIngredient_14 (by decide) ?_
      cases h
      refine W.eq (g2 := F0 m 15 ls [.int (b2i false)]) rfl ?_
      exact px_ePz (b2i_n _) hQ hx hb hr hlocks dX8_isIngredient_15
    · rw [if_neg c2] at h
      refine lv_iconst (v := (nI 1)) hx hb dX8_isIngredient_10 (by decide) ?_
      refine lv_goto (tgt := 15) hx hb dX8_isIngredient_11 (by decide) ?_
      cases h
      refine W.eq (g2 := F0 m 15 ls [.int (b2i true)]) rfl ?_
      exact px_ePz (b2i_n _) hQ hx hb hr hlocks dX8_isIngredient_15
def f8_isAmount (x0 : Int32)  : Option (Bool) := (if x0 < 0 then (some false) else (if (nI 99) < x0 then (some false) else (some true)))
set_option maxHeartbeats 4000000 in
set_option maxRecDepth 100000 in
theorem c8_isAmount (l : Launch) (E : PE)   (x0 : Int32)  (r : Bool) (h : f8_isAmount x0 = some r) : MP l yX8_isAmount cX8_isAmount 1 (some .boolean) { frames := 0, cells := 0, slots := 0, locals := 0 } E [.int x0] ([] : List va_W).flatten (some (.int (b2i r))) := by
  refine px_startP (by decide +kernel) (Nat.le_of_ble_eq_true rfl) ?_
  intro p e s m args below meth c R Q A ls hC hQ
  obtain ⟨hx, hb, hr, hml, hts, hown, hlocks, hR, hK, hN, hP, hD, hA, hl, hin⟩ := hC
  have hl : lv_has ls 1 [(0, .int x0)] := hl
  unfold f8_isAmount at h
  refine lv_iload_n hx hb dX8_isAmount_0 rfl (lv_at hl 0 rfl) ?_
  refine lv_if_lt (tgt := 14) hx hb dX8_isAmount_1 (by decide) (fun c1 => ?_) (fun c1 => ?_)
  · rw [if_pos c1] at h
    refine lv_iconst (v := (nI 0)) hx hb dX8_isAmount_14 (by decide) ?_
    cases h
    refine W.eq (g2 := F0 m 15 ls [.int (b2i false)]) rfl ?_
    exact px_ePz (b2i_n _) hQ hx hb hr hlocks dX8_isAmount_15
  · rw [if_neg c1] at h
    refine lv_iload_n hx hb dX8_isAmount_4 rfl (lv_at hl 0 rfl) ?_
    refine lv_bipush (v := (nI 99)) hx hb dX8_isAmount_5 (by decide) ?_
    refine lv_icmp_gt (tgt := 14) hx hb dX8_isAmount_7 (by decide) (fun c2 => ?_) (fun c2 => ?_)
    · rw [if_pos c2] at h
      refine lv_iconst (v := (nI 0)) hx hb dX8_isAmount_14 (by decide) ?_
      cases h
      refine W.eq (g2 := F0 m 15 ls [.int (b2i false)]) rfl ?_
      exact px_ePz (b2i_n _) hQ hx hb hr hlocks dX8_isAmount_15
    · rw [if_neg c2] at h
      refine lv_iconst (v := (nI 1)) hx hb dX8_isAmount_10 (by decide) ?_
      refine lv_goto (tgt := 15) hx hb dX8_isAmount_11 (by decide) ?_
      cases h
      refine W.eq (g2 := F0 m 15 ls [.int (b2i true)]) rfl ?_
      exact px_ePz (b2i_n _) hQ hx hb hr hlocks dX8_isAmount_15
def f8_isRule (x0 : Int32)  : Option (Bool) := (if x0 < 0 then (some false) else (if (nI 3) < x0 then (some false) else (some true)))
set_option maxHeartbeats 4000000 in
set_option maxRecDepth 100000 in
theorem c8_isRule (l : Launch) (E : PE)   (x0 : Int32)  (r : Bool) (h : f8_isRule x0 = some r) : MP l yX8_isRule cX8_isRule 1 (some .boolean) { frames := 0, cells := 0, slots := 0, locals := 0 } E [.int x0] ([] : List va_W).flatten (some (.int (b2i r))) := by
  refine px_startP (by decide +kernel) (Nat.le_of_ble_eq_true rfl) ?_
  intro p e s m args below meth c R Q A ls hC hQ
  obtain ⟨hx, hb, hr, hml, hts, hown, hlocks, hR, hK, hN, hP, hD, hA, hl, hin⟩ := hC
  have hl : lv_has ls 1 [(0, .int x0)] := hl
  unfold f8_isRule at h
  refine lv_iload_n hx hb dX8_isRule_0 rfl (lv_at hl 0 rfl) ?_
  refine lv_if_lt (tgt := 13) hx hb dX8_isRule_1 (by decide) (fun c1 => ?_) (fun c1 => ?_)
  · rw [if_pos c1] at h
    refine lv_iconst (v := (nI 0)) hx hb dX8_isRule_13 (by decide) ?_
    cases h
    refine W.eq (g2 := F0 m 14 ls [.int (b2i false)]) rfl ?_
    exact px_ePz (b2i_n _) hQ hx hb hr hlocks dX8_isRule_14
  · rw [if_neg c1] at h
    refine lv_iload_n hx hb dX8_isRule_4 rfl (lv_at hl 0 rfl) ?_
    refine lv_iconst (v := (nI 3)) hx hb dX8_isRule_5 (by decide) ?_
    refine lv_icmp_gt (tgt := 13) hx hb dX8_isRule_6 (by decide) (fun c2 => ?_) (fun c2 => ?_)
    · rw [if_pos c2] at h
      refine lv_iconst (v := (nI 0)) hx hb dX8_isRule_13 (by decide) ?_
      cases h
      refine W.eq (g2 := F0 m 14 ls [.int (b2i false)]) rfl ?_
      exact px_ePz (b2i_n _) hQ hx hb hr hlocks dX8_isRule_14
    · rw [if_neg c2] at h
      refine lv_iconst (v := (nI 1)) hx hb dX8_isRule_9 (by decide) ?_
      refine lv_goto (tgt := 14) hx hb dX8_isRule_10 (by decide) ?_
      cases h
      refine W.eq (g2 := F0 m 14 ls [.int (b2i true)]) rfl ?_
      exact px_ePz (b2i_n _) hQ hx hb hr hlocks dX8_isRule_14
def f8_isPlace (x0 : Int32)  : Option (Bool) := (if x0 < 0 then (some false) else (if (nI 4) ≤ x0 then (some false) else (some true)))
set_option maxHeartbeats 4000000 in
set_option maxRecDepth 100000 in
theorem c8_isPlace (l : Launch) (E : PE)   (x0 : Int32)  (r : Bool) (h : f8_isPlace x0 = some r) : MP l yX8_isPlace cX8_isPlace 1 (some .boolean) { frames := 0, cells := 0, slots := 0, locals := 0 } E [.int x0] ([] : List va_W).flatten (some (.int (b2i r))) := by
  refine px_startP (by decide +kernel) (Nat.le_of_ble_eq_true rfl) ?_
  intro p e s m args below meth c R Q A ls hC hQ
  obtain ⟨hx, hb, hr, hml, hts, hown, hlocks, hR, hK, hN, hP, hD, hA, hl, hin⟩ := hC
  have hl : lv_has ls 1 [(0, .int x0)] := hl
  unfold f8_isPlace at h
  refine lv_iload_n hx hb dX8_isPlace_0 rfl (lv_at hl 0 rfl) ?_
  refine lv_if_lt (tgt := 13) hx hb dX8_isPlace_1 (by decide) (fun c1 => ?_) (fun c1 => ?_)
  · rw [if_pos c1] at h
    refine lv_iconst (v := (nI 0)) hx hb dX8_isPlace_13 (by decide) ?_
    cases h
    refine W.eq (g2 := F0 m 14 ls [.int (b2i false)]) rfl ?_
    exact px_ePz (b2i_n _) hQ hx hb hr hlocks dX8_isPlace_14
  · rw [if_neg c1] at h
    refine lv_iload_n hx hb dX8_isPlace_4 rfl (lv_at hl 0 rfl) ?_
    refine lv_iconst (v := (nI 4)) hx hb dX8_isPlace_5 (by decide) ?_
    refine lv_icmp_ge (tgt := 13) hx hb dX8_isPlace_6 (by decide) (fun c2 => ?_) (fun c2 => ?_)
    · rw [if_pos c2] at h
      refine lv_iconst (v := (nI 0)) hx hb dX8_isPlace_13 (by decide) ?_
      cases h
      refine W.eq (g2 := F0 m 14 ls [.int (b2i false)]) rfl ?_
      exact px_ePz (b2i_n _) hQ hx hb hr hlocks dX8_isPlace_14
    · rw [if_neg c2] at h
      refine lv_iconst (v := (nI 1)) hx hb dX8_isPlace_9 (by decide) ?_
      refine lv_goto (tgt := 14) hx hb dX8_isPlace_10 (by decide) ?_
      cases h
      refine W.eq (g2 := F0 m 14 ls [.int (b2i true)]) rfl ?_
      exact px_ePz (b2i_n _) hQ hx hb hr hlocks dX8_isPlace_14
def f8_isInSet (x0 : Int32) (x1 : Int32)  : Option (Bool) := (if x1 < 0 then (some false) else (if (nI 24) ≤ x1 then (some false) else (if ((x0 >>> (x1 &&& 31)) &&& (nI 1)) = (nI 1) then (some true) else (some false))))
set_option maxHeartbeats 4000000 in
set_option maxRecDepth 100000 in
theorem c8_isInSet (l : Launch) (E : PE)   (x0 : Int32) (x1 : Int32)  (r : Bool) (h : f8_isInSet x0 x1 = some r) : MP l yX8_isInSet cX8_isInSet 2 (some .boolean) { frames := 0, cells := 0, slots := 0, locals := 0 } E [.int x0, .int x1] ([] : List va_W).flatten (some (.int (b2i r))) := by
  refine px_startP (by decide +kernel) (Nat.le_of_ble_eq_true rfl) ?_
  intro p e s m args below meth c R Q A ls hC hQ
  obtain ⟨hx, hb, hr, hml, hts, hown, hlocks, hR, hK, hN, hP, hD, hA, hl, hin⟩ := hC
  have hl : lv_has ls 2 [(0, .int x0), (1, .int x1)] := hl
  unfold f8_isInSet at h
  refine lv_iload_n hx hb dX8_isInSet_0 rfl (lv_at hl 1 rfl) ?_
  refine lv_if_lt (tgt := 23) hx hb dX8_isInSet_1 (by decide) (fun c1 => ?_) (fun c1 => ?_)
  · rw [if_pos c1] at h
    refine lv_iconst (v := (nI 0)) hx hb dX8_isInSet_23 (by decide) ?_
    cases h
    refine W.eq (g2 := F0 m 24 ls [.int (b2i false)]) rfl ?_
    exact px_ePz (b2i_n _) hQ hx hb hr hlocks dX8_isInSet_24
  · rw [if_neg c1] at h
    refine lv_iload_n hx hb dX8_isInSet_4 rfl (lv_at hl 1 rfl) ?_
    refine lv_bipush (v := (nI 24)) hx hb dX8_isInSet_5 (by decide) ?_
    refine lv_icmp_ge (tgt := 23) hx hb dX8_isInSet_7 (by decide) (fun c2 => ?_) (fun c2 => ?_)
    · rw [if_pos c2] at h
      refine lv_iconst (v := (nI 0)) hx hb dX8_isInSet_23 (by decide) ?_
      cases h
      refine W.eq (g2 := F0 m 24 ls [.int (b2i false)]) rfl ?_
      exact px_ePz (b2i_n _) hQ hx hb hr hlocks dX8_isInSet_24
    · rw [if_neg c2] at h
      refine lv_iload_n hx hb dX8_isInSet_10 rfl (lv_at hl 0 rfl) ?_
      refine lv_iload_n hx hb dX8_isInSet_11 rfl (lv_at hl 1 rfl) ?_
      refine lv_ishr hx hb dX8_isInSet_12 ?_
      refine lv_iconst (v := (nI 1)) hx hb dX8_isInSet_13 (by decide) ?_
      refine lv_iand hx hb dX8_isInSet_14 ?_
      refine lv_iconst (v := (nI 1)) hx hb dX8_isInSet_15 (by decide) ?_
      refine lv_icmp_ne (tgt := 23) hx hb dX8_isInSet_16 (by decide) (fun c3 => ?_) (fun c3 => ?_)
      · rw [if_neg c3] at h
        refine lv_iconst (v := (nI 0)) hx hb dX8_isInSet_23 (by decide) ?_
        cases h
        refine W.eq (g2 := F0 m 24 ls [.int (b2i false)]) rfl ?_
        exact px_ePz (b2i_n _) hQ hx hb hr hlocks dX8_isInSet_24
      · rw [if_pos c3] at h
        refine lv_iconst (v := (nI 1)) hx hb dX8_isInSet_19 (by decide) ?_
        refine lv_goto (tgt := 24) hx hb dX8_isInSet_20 (by decide) ?_
        cases h
        refine W.eq (g2 := F0 m 24 ls [.int (b2i true)]) rfl ?_
        exact px_ePz (b2i_n _) hQ hx hb hr hlocks dX8_isInSet_24
def f8_setOf (x0 : Int32)  : Option (Int32) := (if x0 < 0 then (some (nI 0)) else (if (nI 24) ≤ x0 then (some (nI 0)) else (some ((nI 1) <<< (x0 &&& 31)))))
set_option maxHeartbeats 4000000 in
set_option maxRecDepth 100000 in
theorem c8_setOf (l : Launch) (E : PE)   (x0 : Int32)  (r : Int32) (h : f8_setOf x0 = some r) : MP l yX8_setOf cX8_setOf 1 (some .int) { frames := 0, cells := 0, slots := 0, locals := 0 } E [.int x0] ([] : List va_W).flatten (some (.int r)) := by
  refine px_startP (by decide +kernel) (Nat.le_of_ble_eq_true rfl) ?_
  intro p e s m args below meth c R Q A ls hC hQ
  obtain ⟨hx, hb, hr, hml, hts, hown, hlocks, hR, hK, hN, hP, hD, hA, hl, hin⟩ := hC
  have hl : lv_has ls 1 [(0, .int x0)] := hl
  unfold f8_setOf at h
  refine lv_iload_n hx hb dX8_setOf_0 rfl (lv_at hl 0 rfl) ?_
  refine lv_if_lt (tgt := 16) hx hb dX8_setOf_1 (by decide) (fun c1 => ?_) (fun c1 => ?_)
  · rw [if_pos c1] at h
    refine lv_iconst (v := (nI 0)) hx hb dX8_setOf_16 (by decide) ?_
    cases h
    exact px_ePi hQ hx hb hr hlocks dX8_setOf_17
  · rw [if_neg c1] at h
    refine lv_iload_n hx hb dX8_setOf_4 rfl (lv_at hl 0 rfl) ?_
    refine lv_bipush (v := (nI 24)) hx hb dX8_setOf_5 (by decide) ?_
    refine lv_icmp_ge (tgt := 16) hx hb dX8_setOf_7 (by decide) (fun c2 => ?_) (fun c2 => ?_)
    · rw [if_pos c2] at h
      refine lv_iconst (v := (nI 0)) hx hb dX8_setOf_16 (by decide) ?_
      cases h
      exact px_ePi hQ hx hb hr hlocks dX8_setOf_17
    · rw [if_neg c2] at h
      refine lv_iconst (v := (nI 1)) hx hb dX8_setOf_10 (by decide) ?_
      refine lv_iload_n hx hb dX8_setOf_11 rfl (lv_at hl 0 rfl) ?_
      refine lv_ishl hx hb dX8_setOf_12 ?_
      refine lv_goto (tgt := 17) hx hb dX8_setOf_13 (by decide) ?_
      cases h
      exact px_ePi hQ hx hb hr hlocks dX8_setOf_17
