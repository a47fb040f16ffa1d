def f1_isCommit (x1 : Int32) (φ : Fo) : Option (Bool) := (if x1 < 0 then (some false) else (if (fo_commits φ) ≤ x1 then (some false) else (if (nI 24) ≤ x1 then (some false) else (some true))))
set_option maxHeartbeats 4000000 in
set_option maxRecDepth 100000 in
theorem c1_isCommit (l : Launch) (E : PE) (a : Nat → Nat)  (x1 : Int32) (φ : Fo) (r : Bool) (h : f1_isCommit x1 φ = some r) : MP l yX1_isCommit cX1_isCommit 2 (some .boolean) { frames := 0, cells := 0, slots := 0, locals := 0 } E [.ref (a 0), .int x1] ([gX1 E a φ] : List va_W).flatten (some (.int (b2i r))) := by
  refine px_startP (by decide +kernel) (Nat.le_of_ble_eq_true rfl) ?_
  intro p e s m args below meth c R Q A ls hC hQ
  obtain ⟨hx, hb, hr, hml, hts, hown, hlocks, hR, hK, hN, hP, hD, hA, hl, hin⟩ := hC
  have hl : lv_has ls 2 [(0, .ref (a 0)), (1, .int x1)] := hl
  unfold f1_isCommit at h
  refine lv_iload_n hx hb dX1_isCommit_0 rfl (lv_at hl 1 rfl) ?_
  refine lv_if_lt (tgt := 22) hx hb dX1_isCommit_1 (by decide) (fun c1 => ?_) (fun c1 => ?_)
  · rw [if_pos c1] at h
    refine lv_iconst (v := (nI 0)) hx hb dX1_isCommit_22 (by decide) ?_
    cases h
    refine W.eq (g2 := F0 m 23 ls [.int (b2i false)]) rfl ?_
    exact px_ePz (b2i_n _) hQ hx hb hr hlocks dX1_isCommit_23
  · rw [if_neg c1] at h
    refine lv_iload_n hx hb dX1_isCommit_4 rfl (lv_at hl 1 rfl) ?_
    refine lv_aload_n hx hb dX1_isCommit_5 rfl (lv_at hl 0 rfl) ?_
    refine va_get (D := E.1) (ci := 1) (v := .int (fo_commits φ)) (C := RX1) (T := TX1) (N := 11) hx hb hts iX1 hown hK hP 0 rfl rfl 0 (by decide) (hts _ q63) (fun _ h9 => h9) rfl dX1_isCommit_6 ?_
    refine lv_icmp_ge (tgt := 22) hx hb dX1_isCommit_9 (by decide) (fun c2 => ?_) (fun c2 => ?_)
    · rw [if_pos c2] at h
      refine lv_iconst (v := (nI 0)) hx hb dX1_isCommit_22 (by decide) ?_
      cases h
      refine W.eq (g2 := F0 m 23 ls [.int (b2i false)]) rfl ?_
      exact px_ePz (b2i_n _) hQ hx hb hr hlocks dX1_isCommit_23
    · rw [if_neg c2] at h
      refine lv_iload_n hx hb dX1_isCommit_12 rfl (lv_at hl 1 rfl) ?_
      refine lv_bipush (v := (nI 24)) hx hb dX1_isCommit_13 (by decide) ?_
      refine lv_icmp_ge (tgt := 22) hx hb dX1_isCommit_15 (by decide) (fun c3 => ?_) (fun c3 => ?_)
      · rw [if_pos c3] at h
        refine lv_iconst (v := (nI 0)) hx hb dX1_isCommit_22 (by decide) ?_
        cases h
        refine W.eq (g2 := F0 m 23 ls [.int (b2i false)]) rfl ?_
        exact px_ePz (b2i_n _) hQ hx hb hr hlocks dX1_isCommit_23
      · rw [if_neg c3] at h
        refine lv_iconst (v := (nI 1)) hx hb dX1_isCommit_18 (by decide) ?_
        refine lv_goto (tgt := 23) hx hb dX1_isCommit_19 (by decide) ?_
        cases h
        refine W.eq (g2 := F0 m 23 ls [.int (b2i true)]) rfl ?_
        exact px_ePz (b2i_n _) hQ hx hb hr hlocks dX1_isCommit_23
def f1_isBranch (x1 : Int32) (φ : Fo) : Option (Bool) := (if x1 < 0 then (some false) else (if (fo_branches φ) ≤ x1 then (some false) else (if (nI 5) ≤ x1 then (some false) else (some true))))
set_option maxHeartbeats 4000000 in
set_option maxRecDepth 100000 in
theorem c1_isBranch (l : Launch) (E : PE) (a : Nat → Nat)  (x1 : Int32) (φ : Fo) (r : Bool) (h : f1_isBranch x1 φ = some r) : MP l yX1_isBranch cX1_isBranch 2 (some .boolean) { frames := 0, cells := 0, slots := 0, locals := 0 } E [.ref (a 0), .int x1] ([gX1 E a φ] : List va_W).flatten (some (.int (b2i r))) := by
  refine px_startP (by decide +kernel) (Nat.le_of_ble_eq_true rfl) ?_
  intro p e s m args below meth c R Q A ls hC hQ
  obtain ⟨hx, hb, hr, hml, hts, hown, hlocks, hR, hK, hN, hP, hD, hA, hl, hin⟩ := hC
  have hl : lv_has ls 2 [(0, .ref (a 0)), (1, .int x1)] := hl
  unfold f1_isBranch at h
  refine lv_iload_n hx hb dX1_isBranch_0 rfl (lv_at hl 1 rfl) ?_
  refine lv_if_lt (tgt := 21) hx hb dX1_isBranch_1 (by decide) (fun c1 => ?_) (fun c1 => ?_)
  · rw [if_pos c1] at h
    refine lv_iconst (v := (nI 0)) hx hb dX1_isBranch_21 (by decide) ?_
    cases h
    refine W.eq (g2 := F0 m 22 ls [.int (b2i false)]) rfl ?_
    exact px_ePz (b2i_n _) hQ hx hb hr hlocks dX1_isBranch_22
  · rw [if_neg c1] at h
    refine lv_iload_n hx hb dX1_isBranch_4 rfl (lv_at hl 1 rfl) ?_
    refine lv_aload_n hx hb dX1_isBranch_5 rfl (lv_at hl 0 rfl) ?_
    refine va_get (D := E.1) (ci := 1) (v := .int (fo_branches φ)) (C := RX1) (T := TX1) (N := 11) hx hb hts iX1 hown hK hP 0 rfl rfl 1 (by decide) (hts _ q64) (fun _ h9 => h9) rfl dX1_isBranch_6 ?_
    refine lv_icmp_ge (tgt := 21) hx hb dX1_isBranch_9 (by decide) (fun c2 => ?_) (fun c2 => ?_)
    · rw [if_pos c2] at h
      refine lv_iconst (v := (nI 0)) hx hb dX1_isBranch_21 (by decide) ?_
      cases h
      refine W.eq (g2 := F0 m 22 ls [.int (b2i false)]) rfl ?_
      exact px_ePz (b2i_n _) hQ hx hb hr hlocks dX1_isBranch_22
    · rw [if_neg c2] at h
      refine lv_iload_n hx hb dX1_isBranch_12 rfl (lv_at hl 1 rfl) ?_
      refine lv_iconst (v := (nI 5)) hx hb dX1_isBranch_13 (by decide) ?_
      refine lv_icmp_ge (tgt := 21) hx hb dX1_isBranch_14 (by decide) (fun c3 => ?_) (fun c3 => ?_)
      · rw [if_pos c3] at h
        refine lv_iconst (v := (nI 0)) hx hb dX1_isBranch_21 (by decide) ?_
        cases h
        refine W.eq (g2 := F0 m 22 ls [.int (b2i false)]) rfl ?_
        exact px_ePz (b2i_n _) hQ hx hb hr hlocks dX1_isBranch_22
      · rw [if_neg c3] at h
        refine lv_iconst (v := (nI 1)) hx hb dX1_isBranch_17 (by decide) ?_
        refine lv_goto (tgt := 22) hx hb dX1_isBranch_18 (by decide) ?_
        cases h
        refine W.eq (g2 := F0 m 22 ls [.int (b2i true)]) rfl ?_
        exact px_ePz (b2i_n _) hQ hx hb hr hlocks dX1_isBranch_22
def f1_isFull  (φ : Fo) : Option (Bool) := (if (fo_commits φ) < (nI 24) then (some false) else (some true))
set_option maxHeartbeats 4000000 in
set_option maxRecDepth 100000 in
theorem c1_isFull (l : Launch) (E : PE) (a : Nat → Nat)   (φ : Fo) (r : Bool) (h : f1_isFull φ = some r) : MP l yX1_isFull cX1_isFull 1 (some .boolean) { frames := 0, cells := 0, slots := 0, locals := 0 } E [.ref (a 0)] ([gX1 E a φ] : List va_W).flatten (some (.int (b2i r))) := by
  refine px_startP (by decide +kernel) (Nat.le_of_ble_eq_true rfl) ?_
  intro p e s m args below meth c R Q A ls hC hQ
  obtain ⟨hx, hb, hr, hml, hts, hown, hlocks, hR, hK, hN, hP, hD, hA, hl, hin⟩ := hC
  have hl : lv_has ls 1 [(0, .ref (a 0))] := hl
  unfold f1_isFull at h
  refine lv_aload_n hx hb dX1_isFull_0 rfl (lv_at hl 0 rfl) ?_
  refine va_get (D := E.1) (ci := 1) (v := .int (fo_commits φ)) (C := RX1) (T := TX1) (N := 11) hx hb hts iX1 hown hK hP 0 rfl rfl 0 (by decide) (hts _ q63) (fun _ h9 => h9) rfl dX1_isFull_1 ?_
  refine lv_bipush (v := (nI 24)) hx hb dX1_isFull_4 (by decide) ?_
  refine lv_icmp_lt (tgt := 13) hx hb dX1_isFull_6 (by decide) (fun c1 => ?_) (fun c1 => ?_)
  · rw [if_pos c1] at h
    refine lv_iconst (v := (nI 0)) hx hb dX1_isFull_13 (by decide) ?_
    cases h
    refine W.eq (g2 := F0 m 14 ls [.int (b2i false)]) rfl ?_
    exact px_ePz (b2i_n _) hQ hx hb hr hlocks dX1_isFull_14
  · rw [if_neg c1] at h
    refine lv_iconst (v := (nI 1)) hx hb dX1_isFull_9 (by decide) ?_
    refine lv_goto (tgt := 14) hx hb dX1_isFull_10 (by decide) ?_
    cases h
    refine W.eq (g2 := F0 m 14 ls [.int (b2i true)]) rfl ?_
    exact px_ePz (b2i_n _) hQ hx hb hr hlocks dX1_isFull_14
def f1_commitCount  (φ : Fo) : Option (Int32) := (some (fo_commits φ))
set_option maxHeartbeats 4000000 in
set_option maxRecDepth 100000 in
theorem c1_commitCount (l : Launch) (E : PE) (a : Nat → Nat)   (φ : Fo) (r : Int32) (h : f1_commitCount φ = some r) : MP l yX1_commitCount cX1_commitCount 1 (some .int) { frames := 0, cells := 0, slots := 0, locals := 0 } E [.ref (a 0)] ([gX1 E a φ] : List va_W).flatten (some (.int r)) := by
  refine px_startP (by decide +kernel) (Nat.le_of_ble_eq_true rfl) ?_
  intro p e s m args below meth c R Q A ls hC hQ
  obtain ⟨hx, hb, hr, hml, hts, hown, hlocks, hR, hK, hN, hP, hD, hA, hl, hin⟩ := hC
  have hl : lv_has ls 1 [(0, .ref (a 0))] := hl
  unfold f1_commitCount at h
  refine lv_aload_n hx hb dX1_commitCount_0 rfl (lv_at hl 0 rfl) ?_
  refine va_get (D := E.1) (ci := 1) (v := .int (fo_commits φ)) (C := RX1) (T := TX1) (N := 11) hx hb hts iX1 hown hK hP 0 rfl rfl 0 (by decide) (hts _ q63) (fun _ h9 => h9) rfl dX1_commitCount_1 ?_
  cases h
  exact px_ePi hQ hx hb hr hlocks dX1_commitCount_4
def f1_branchCount  (φ : Fo) : Option (Int32) := (some (fo_branches φ))
set_option maxHeartbeats 4000000 in
set_option maxRecDepth 100000 in
theorem c1_branchCount (l : Launch) (E : PE) (a : Nat → Nat)   (φ : Fo) (r : Int32) (h : f1_branchCount φ = some r) : MP l yX1_branchCount cX1_branchCount 1 (some .int) { frames := 0, cells := 0, slots := 0, locals := 0 } E [.ref (a 0)] ([gX1 E a φ] : List va_W).flatten (some (.int r)) := by
  refine px_startP (by decide +kernel) (Nat.le_of_ble_eq_true rfl) ?_
  intro p e s m args below meth c R Q A ls hC hQ
  obtain ⟨hx, hb, hr, hml, hts, hown, hlocks, hR, hK, hN, hP, hD, hA, hl, hin⟩ := hC
  have hl : lv_has ls 1 [(0, .ref (a 0))] := hl
  unfold f1_branchCount at h
  refine lv_aload_n hx hb dX1_branchCount_0 rfl (lv_at hl 0 rfl) ?_
  refine va_get (D := E.1) (ci := 1) (v := .int (fo_branches φ)) (C := RX1) (T := TX1) (N := 11) hx hb hts iX1 hown hK hP 0 rfl rfl 1 (by decide) (hts _ q64) (fun _ h9 => h9) rfl dX1_branchCount_1 ?_
  cases h
  exact px_ePi hQ hx hb hr hlocks dX1_branchCount_4
def f1_tipOf (x1 : Int32) (φ : Fo) : Option (Int32) := (if x1 < 0 then (some (-1 : Int32)) else (if (nI 5) ≤ x1 then (some (-1 : Int32)) else (if inb x1 5 = true then (some ((fo_tips φ) (x1).toNatClampNeg)) else none)))
set_option maxHeartbeats 4000000 in
set_option maxRecDepth 100000 in
theorem c1_tipOf (l : Launch) (E : PE) (a : Nat → Nat)  (x1 : Int32) (φ : Fo) (r : Int32) (h : f1_tipOf x1 φ = some r) : MP l yX1_tipOf cX1_tipOf 2 (some .int) { frames := 0, cells := 0, slots := 0, locals := 0 } E [.ref (a 0), .int x1] ([gX1 E a φ] : List va_W).flatten (some (.int r)) := by
  refine px_startP (by decide +kernel) (Nat.le_of_ble_eq_true rfl) ?_
  intro p e s m args below meth c R Q A ls hC hQ
  obtain ⟨hx, hb, hr, hml, hts, hown, hlocks, hR, hK, hN, hP, hD, hA, hl, hin⟩ := hC
  have hl : lv_has ls 2 [(0, .ref (a 0)), (1, .int x1)] := hl
  unfold f1_tipOf at h
  refine lv_iload_n hx hb dX1_tipOf_0 rfl (lv_at hl 1 rfl) ?_
  refine lv_if_lt (tgt := 18) hx hb dX1_tipOf_1 (by decide) (fun c1 => ?_) (fun c1 => ?_)
  · rw [if_pos c1] at h
    refine lv_iconst (v := (-1 : Int32)) hx hb dX1_tipOf_18 (by decide) ?_
    cases h
    exact px_ePi hQ hx hb hr hlocks dX1_tipOf_19
  · rw [if_neg c1] at h
    refine lv_iload_n hx hb dX1_tipOf_4 rfl (lv_at hl 1 rfl) ?_
    refine lv_iconst (v := (nI 5)) hx hb dX1_tipOf_5 (by decide) ?_
    refine lv_icmp_ge (tgt := 18) hx hb dX1_tipOf_6 (by decide) (fun c2 => ?_) (fun c2 => ?_)
    · rw [if_pos c2] at h
      refine lv_iconst (v := (-1 : Int32)) hx hb dX1_tipOf_18 (by decide) ?_
      cases h
      exact px_ePi hQ hx hb hr hlocks dX1_tipOf_19
    · rw [if_neg c2] at h
      refine lv_aload_n hx hb dX1_tipOf_9 rfl (lv_at hl 0 rfl) ?_
      refine va_get (D := E.1) (ci := 1) (v := .ref (a 7)) (C := RX1) (T := TX1) (N := 11) hx hb hts iX1 hown hK hP 0 rfl rfl 9 (by decide) (hts _ q72) (fun _ h9 => h9) rfl dX1_tipOf_10 ?_
      refine lv_iload_n hx hb dX1_tipOf_13 rfl (lv_at hl 1 rfl) ?_
      obtain ⟨i3, h⟩ := o_t h
      refine va_iald (f := (fo_tips φ)) hx hb hK hP 7 0 rfl rfl (inb_in i3) dX1_tipOf_14 ?_
      refine lv_goto (tgt := 19) hx hb dX1_tipOf_15 (by decide) ?_
      cases h
      exact px_ePi hQ hx hb hr hlocks dX1_tipOf_19
def f1_kindOf (x1 : Int32) (φ : Fo) : Option (Int32) := (if x1 < 0 then (some (-1 : Int32)) else (if (nI 24) ≤ x1 then (some (-1 : Int32)) else (if inb x1 24 = true then (some ((fo_kinds φ) (x1).toNatClampNeg)) else none)))
set_option maxHeartbeats 4000000 in
set_option maxRecDepth 100000 in
theorem c1_kindOf (l : Launch) (E : PE) (a : Nat → Nat)  (x1 : Int32) (φ : Fo) (r : Int32) (h : f1_kindOf x1 φ = some r) : MP l yX1_kindOf cX1_kindOf 2 (some .int) { frames := 0, cells := 0, slots := 0, locals := 0 } E [.ref (a 0), .int x1] ([gX1 E a φ] : List va_W).flatten (some (.int r)) := by
  refine px_startP (by decide +kernel) (Nat.le_of_ble_eq_true rfl) ?_
  intro p e s m args below meth c R Q A ls hC hQ
  obtain ⟨hx, hb, hr, hml, hts, hown, hlocks, hR, hK, hN, hP, hD, hA, hl, hin⟩ := hC
  have hl : lv_has ls 2 [(0, .ref (a 0)), (1, .int x1)] := hl
  unfold f1_kindOf at h
  refine lv_iload_n hx hb dX1_kindOf_0 rfl (lv_at hl 1 rfl) ?_
  refine lv_if_lt (tgt := 19) hx hb dX1_kindOf_1 (by decide) (fun c1 => ?_) (fun c1 => ?_)
  · rw [if_pos c1] at h
    refine lv_iconst (v := (-1 : Int32)) hx hb dX1_kindOf_19 (by decide) ?_
    cases h
    exact px_ePi hQ hx hb hr hlocks dX1_kindOf_20
  · rw [if_neg c1] at h
    refine lv_iload_n hx hb dX1_kindOf_4 rfl (lv_at hl 1 rfl) ?_
    refine lv_bipush (v := (nI 24)) hx hb dX1_kindOf_5 (by decide) ?_
    refine lv_icmp_ge (tgt := 19) hx hb dX1_kindOf_7 (by decide) (fun c2 => ?_) (fun c2 => ?_)
    · rw [if_pos c2] at h
      refine lv_iconst (v := (-1 : Int32)) hx hb dX1_kindOf_19 (by decide) ?_
      cases h
      exact px_ePi hQ hx hb hr hlocks dX1_kindOf_20
    · rw [if_neg c2] at h
      refine lv_aload_n hx hb dX1_kindOf_10 rfl (lv_at hl 0 rfl) ?_
      refine va_get (D := E.1) (ci := 1) (v := .ref (a 1)) (C := RX1) (T := TX1) (N := 11) hx hb hts iX1 hown hK hP 0 rfl rfl 3 (by decide) (hts _ q66) (fun _ h9 => h9) rfl dX1_kindOf_11 ?_
      refine lv_iload_n hx hb dX1_kindOf_14 rfl (lv_at hl 1 rfl) ?_
      obtain ⟨i3, h⟩ := o_t h
      refine va_iald (f := (fo_kinds φ)) hx hb hK hP 1 0 rfl rfl (inb_in i3) dX1_kindOf_15 ?_
      refine lv_goto (tgt := 20) hx hb dX1_kindOf_16 (by decide) ?_
      cases h
      exact px_ePi hQ hx hb hr hlocks dX1_kindOf_20
def f1_firstOf (x1 : Int32) (φ : Fo) : Option (Int32) := (if x1 < 0 then (some (-1 : Int32)) else (if (nI 24) ≤ x1 then (some (-1 : Int32)) else (if inb x1 24 = true then (some ((fo_firsts φ) (x1).toNatClampNeg)) else none)))
set_option maxHeartbeats 4000000 in
set_option maxRecDepth 100000 in
theorem c1_firstOf (l : Launch) (E : PE) (a : Nat → Nat)  (x1 : Int32) (φ : Fo) (r : Int32) (h : f1_firstOf x1 φ = some r) : MP l yX1_firstOf cX1_firstOf 2 (some .int) { frames := 0, cells := 0, slots := 0, locals := 0 } E [.ref (a 0), .int x1] ([gX1 E a φ] : List va_W).flatten (some (.int r)) := by
  refine px_startP (by decide +kernel) (Nat.le_of_ble_eq_true rfl) ?_
  intro p e s m args below meth c R Q A ls hC hQ
  obtain ⟨hx, hb, hr, hml, hts, hown, hlocks, hR, hK, hN, hP, hD, hA, hl, hin⟩ := hC
  have hl : lv_has ls 2 [(0, .ref (a 0)), (1, .int x1)] := hl
  unfold f1_firstOf at h
  refine lv_iload_n hx hb dX1_firstOf_0 rfl (lv_at hl 1 rfl) ?_
  refine lv_if_lt (tgt := 19) hx hb dX1_firstOf_1 (by decide) (fun c1 => ?_) (fun c1 => ?_)
  · rw [if_pos c1] at h
    refine lv_iconst (v := (-1 : Int32)) hx hb dX1_firstOf_19 (by decide) ?_
    cases h
    exact px_ePi hQ hx hb hr hlocks dX1_firstOf_20
  · rw [if_neg c1] at h
    refine lv_iload_n hx hb dX1_firstOf_4 rfl (lv_at hl 1 rfl) ?_
    refine lv_bipush (v := (nI 24)) hx hb dX1_firstOf_5 (by decide) ?_
    refine lv_icmp_ge (tgt := 19) hx hb dX1_firstOf_7 (by decide) (fun c2 => ?_) (fun c2 => ?_)
    · rw [if_pos c2] at h
      refine lv_iconst (v := (-1 : Int32)) hx hb dX1_firstOf_19 (by decide) ?_
      cases h
      exact px_ePi hQ hx hb hr hlocks dX1_firstOf_20
    · rw [if_neg c2] at h
      refine lv_aload_n hx hb dX1_firstOf_10 rfl (lv_at hl 0 rfl) ?_
      refine va_get (D := E.1) (ci := 1) (v := .ref (a 2)) (C := RX1) (T := TX1) (N := 11) hx hb hts iX1 hown hK hP 0 rfl rfl 4 (by decide) (hts _ q67) (fun _ h9 => h9) rfl dX1_firstOf_11 ?_
      refine lv_iload_n hx hb dX1_firstOf_14 rfl (lv_at hl 1 rfl) ?_
      obtain ⟨i3, h⟩ := o_t h
      refine va_iald (f := (fo_firsts φ)) hx hb hK hP 2 0 rfl rfl (inb_in i3) dX1_firstOf_15 ?_
      refine lv_goto (tgt := 20) hx hb dX1_firstOf_16 (by decide) ?_
      cases h
      exact px_ePi hQ hx hb hr hlocks dX1_firstOf_20
def f1_secondOf (x1 : Int32) (φ : Fo) : Option (Int32) := (if x1 < 0 then (some (-1 : Int32)) else (if (nI 24) ≤ x1 then (some (-1 : Int32)) else (if inb x1 24 = true then (some ((fo_seconds φ) (x1).toNatClampNeg)) else none)))
set_option maxHeartbeats 4000000 in
set_option maxRecDepth 100000 in
theorem c1_secondOf (l : Launch) (E : PE) (a : Nat → Nat)  (x1 : Int32) (φ : Fo) (r : Int32) (h : f1_secondOf x1 φ = some r) : MP l yX1_secondOf cX1_secondOf 2 (some .int) { frames := 0, cells := 0, slots := 0, locals := 0 } E [.ref (a 0), .int x1] ([gX1 E a φ] : List va_W).flatten (some (.int r)) := by
  refine px_startP (by decide +kernel) (Nat.le_of_ble_eq_true rfl) ?_
  intro p e s m args below meth c R Q A ls hC hQ
  obtain ⟨hx, hb, hr, hml, hts, hown, hlocks, hR, hK, hN, hP, hD, hA, hl, hin⟩ := hC
  have hl : lv_has ls 2 [(0, .ref (a 0)), (1, .int x1)] := hl
  unfold f1_secondOf at h
  refine lv_iload_n hx hb dX1_secondOf_0 rfl (lv_at hl 1 rfl) ?_
  refine lv_if_lt (tgt := 19) hx hb dX1_secondOf_1 (by decide) (fun c1 => ?_) (fun c1 => ?_)
  · rw [if_pos c1] at h
    refine lv_iconst (v := (-1 : Int32)) hx hb dX1_secondOf_19 (by decide) ?_
    cases h
    exact px_ePi hQ hx hb hr hlocks dX1_secondOf_20
  · rw [if_neg c1] at h
    refine lv_iload_n hx hb dX1_secondOf_4 rfl (lv_at hl 1 rfl) ?_
    refine lv_bipush (v := (nI 24)) hx hb dX1_secondOf_5 (by decide) ?_
    refine lv_icmp_ge (tgt := 19) hx hb dX1_secondOf_7 (by decide) (fun c2 => ?_) (fun c2 => ?_)
    · rw [if_pos c2] at h
      refine lv_iconst (v := (-1 : Int32)) hx hb dX1_secondOf_19 (by decide) ?_
      cases h
      exact px_ePi hQ hx hb hr hlocks dX1_secondOf_20
    · rw [if_neg c2] at h
      refine lv_aload_n hx hb dX1_secondOf_10 rfl (lv_at hl 0 rfl) ?_
      refine va_get (D := E.1) (ci := 1) (v := .ref (a 3)) (C := RX1) (T := TX1) (N := 11) hx hb hts iX1 hown hK hP 0 rfl rfl 5 (by decide) (hts _ q68) (fun _ h9 => h9) rfl dX1_secondOf_11 ?_
      refine lv_iload_n hx hb dX1_secondOf_14 rfl (lv_at hl 1 rfl) ?_
      obtain ⟨i3, h⟩ := o_t h
      refine va_iald (f := (fo_seconds φ)) hx hb hK hP 3 0 rfl rfl (inb_in i3) dX1_secondOf_15 ?_
      refine lv_goto (tgt := 20) hx hb dX1_secondOf_16 (by decide) ?_
      cases h
      exact px_ePi hQ hx hb hr hlocks dX1_secondOf_20
def f1_familyOf (x1 : Int32) (φ : Fo) : Option (Int32) := (if x1 < 0 then (some (nI 0)) else (if (nI 24) ≤ x1 then (some (nI 0)) else (if inb x1 24 = true then (some ((fo_families φ) (x1).toNatClampNeg)) else none)))
set_option maxHeartbeats 4000000 in
set_option maxRecDepth 100000 in
theorem c1_familyOf (l : Launch) (E : PE) (a : Nat → Nat)  (x1 : Int32) (φ : Fo) (r : Int32) (h : f1_familyOf x1 φ = some r) : MP l yX1_familyOf cX1_familyOf 2 (some .int) { frames := 0, cells := 0, slots := 0, locals := 0 } E [.ref (a 0), .int x1] ([gX1 E a φ] : List va_W).flatten (some (.int r)) := by
  refine px_startP (by decide +kernel) (Nat.le_of_ble_eq_true rfl) ?_
  intro p e s m args below meth c R Q A ls hC hQ
  obtain ⟨hx, hb, hr, hml, hts, hown, hlocks, hR, hK, hN, hP, hD, hA, hl, hin⟩ := hC
  have hl : lv_has ls 2 [(0, .ref (a 0)), (1, .int x1)] := hl
  unfold f1_familyOf at h
  refine lv_iload_n hx hb dX1_familyOf_0 rfl (lv_at hl 1 rfl) ?_
  refine lv_if_lt (tgt := 19) hx hb dX1_familyOf_1 (by decide) (fun c1 => ?_) (fun c1 => ?_)
  · rw [if_pos c1] at h
    refine lv_iconst (v := (nI 0)) hx hb dX1_familyOf_19 (by decide) ?_
    cases h
    exact px_ePi hQ hx hb hr hlocks dX1_familyOf_20
  · rw [if_neg c1] at h
    refine lv_iload_n hx hb dX1_familyOf_4 rfl (lv_at hl 1 rfl) ?_
    refine lv_bipush (v := (nI 24)) hx hb dX1_familyOf_5 (by decide) ?_
    refine lv_icmp_ge (tgt := 19) hx hb dX1_familyOf_7 (by decide) (fun c2 => ?_) (fun c2 => ?_)
    · rw [if_pos c2] at h
      refine lv_iconst (v := (nI 0)) hx hb dX1_familyOf_19 (by decide) ?_
      cases h
      exact px_ePi hQ hx hb hr hlocks dX1_familyOf_20
    · rw [if_neg c2] at h
      refine lv_aload_n hx hb dX1_familyOf_10 rfl (lv_at hl 0 rfl) ?_
      refine va_get (D := E.1) (ci := 1) (v := .ref (a 4)) (C := RX1) (T := TX1) (N := 11) hx hb hts iX1 hown hK hP 0 rfl rfl 6 (by decide) (hts _ q69) (fun _ h9 => h9) rfl dX1_familyOf_11 ?_
      refine lv_iload_n hx hb dX1_familyOf_14 rfl (lv_at hl 1 rfl) ?_
      obtain ⟨i3, h⟩ := o_t h
      refine va_iald (f := (fo_families φ)) hx hb hK hP 4 0 rfl rfl (inb_in i3) dX1_familyOf_15 ?_
      refine lv_goto (tgt := 20) hx hb dX1_familyOf_16 (by decide) ?_
      cases h
      exact px_ePi hQ hx hb hr hlocks dX1_familyOf_20
def f1_depthOf (x1 : Int32) (φ : Fo) : Option (Int32) := (if x1 < 0 then (some (-1 : Int32)) else (if (nI 24) ≤ x1 then (some (-1 : Int32)) else (if inb x1 24 = true then (some ((fo_depths φ) (x1).toNatClampNeg)) else none)))
set_option maxHeartbeats 4000000 in
set_option maxRecDepth 100000 in
theorem c1_depthOf (l : Launch) (E : PE) (a : Nat → Nat)  (x1 : Int32) (φ : Fo) (r : Int32) (h : f1_depthOf x1 φ = some r) : MP l yX1_depthOf cX1_depthOf 2 (some .int) { frames := 0, cells := 0, slots := 0, locals := 0 } E [.ref (a 0), .int x1] ([gX1 E a φ] : List va_W).flatten (some (.int r)) := by
  refine px_startP (by decide +kernel) (Nat.le_of_ble_eq_true rfl) ?_
  intro p e s m args below meth c R Q A ls hC hQ
  obtain ⟨hx, hb, hr, hml, hts, hown, hlocks, hR, hK, hN, hP, hD, hA, hl, hin⟩ := hC
  have hl : lv_has ls 2 [(0, .ref (a 0)), (1, .int x1)] := hl
  unfold f1_depthOf at h
  refine lv_iload_n hx hb dX1_depthOf_0 rfl (lv_at hl 1 rfl) ?_
  refine lv_if_lt (tgt := 19) hx hb dX1_depthOf_1 (by decide) (fun c1 => ?_) (fun c1 => ?_)
  · rw [if_pos c1] at h
    refine lv_iconst (v := (-1 : Int32)) hx hb dX1_depthOf_19 (by decide) ?_
    cases h
    exact px_ePi hQ hx hb hr hlocks dX1_depthOf_20
  · rw [if_neg c1] at h
    refine lv_iload_n hx hb dX1_depthOf_4 rfl (lv_at hl 1 rfl) ?_
    refine lv_bipush (v := (nI 24)) hx hb dX1_depthOf_5 (by decide) ?_
    refine lv_icmp_ge (tgt := 19) hx hb dX1_depthOf_7 (by decide) (fun c2 => ?_) (fun c2 => ?_)
    · rw [if_pos c2] at h
      refine lv_iconst (v := (-1 : Int32)) hx hb dX1_depthOf_19 (by decide) ?_
      cases h
      exact px_ePi hQ hx hb hr hlocks dX1_depthOf_20
    · rw [if_neg c2] at h
      refine lv_aload_n hx hb dX1_depthOf_10 rfl (lv_at hl 0 rfl) ?_
      refine va_get (D := E.1) (ci := 1) (v := .ref (a 5)) (C := RX1) (T := TX1) (N := 11) hx hb hts iX1 hown hK hP 0 rfl rfl 7 (by decide) (hts _ q70) (fun _ h9 => h9) rfl dX1_depthOf_11 ?_
      refine lv_iload_n hx hb dX1_depthOf_14 rfl (lv_at hl 1 rfl) ?_
      obtain ⟨i3, h⟩ := o_t h
      refine va_iald (f := (fo_depths φ)) hx hb hK hP 5 0 rfl rfl (inb_in i3) dX1_depthOf_15 ?_
      refine lv_goto (tgt := 20) hx hb dX1_depthOf_16 (by decide) ?_
      cases h
      exact px_ePi hQ hx hb hr hlocks dX1_depthOf_20
def f1_amountIn (x1 : Int32) (x2 : Int32) (φ : Fo) : Option (Int32) := (if x1 < 0 then (some (nI 0)) else (if (nI 24) ≤ x1 then (some (nI 0)) else (if x2 < 0 then (some (nI 0)) else (if x2 < (nI 6) then (if inb ((x1 * (nI 6)) + x2) 144 = true then (some ((fo_amounts φ) (((x1 * (nI 6)) + x2)).toNatClampNeg)) else none) else (some (nI 0))))))
set_option maxHeartbeats 4000000 in
set_option maxRecDepth 100000 in
theorem c1_amountIn (l : Launch) (E : PE) (a : Nat → Nat)  (x1 : Int32) (x2 : Int32) (φ : Fo) (r : Int32) (h : f1_amountIn x1 x2 φ = some r) : MP l yX1_amountIn cX1_amountIn 3 (some .int) { frames := 0, cells := 0, slots := 0, locals := 0 } E [.ref (a 0), .int x1, .int x2] ([gX1 E a φ] : List va_W).flatten (some (.int r)) := by
  refine px_startP (by decide +kernel) (Nat.le_of_ble_eq_true rfl) ?_
  intro p e s m args below meth c R Q A ls hC hQ
  obtain ⟨hx, hb, hr, hml, hts, hown, hlocks, hR, hK, hN, hP, hD, hA, hl, hin⟩ := hC
  have hl : lv_has ls 3 [(0, .ref (a 0)), (1, .int x1), (2, .int x2)] := hl
  unfold f1_amountIn at h
  refine lv_iload_n hx hb dX1_amountIn_0 rfl (lv_at hl 1 rfl) ?_
  refine lv_if_lt (tgt := 20) hx hb dX1_amountIn_1 (by decide) (fun c1 => ?_) (fun c1 => ?_)
  · rw [if_pos c1] at h
    refine lv_iconst (v := (nI 0)) hx hb dX1_amountIn_20 (by decide) ?_
    cases h
    exact px_ePi hQ hx hb hr hlocks dX1_amountIn_21
  · rw [if_neg c1] at h
    refine lv_iload_n hx hb dX1_amountIn_4 rfl (lv_at hl 1 rfl) ?_
    refine lv_bipush (v := (nI 24)) hx hb dX1_amountIn_5 (by decide) ?_
    refine lv_icmp_ge (tgt := 20) hx hb dX1_amountIn_7 (by decide) (fun c2 => ?_) (fun c2 => ?_)
    · rw [if_pos c2] at h
      refine lv_iconst (v := (nI 0)) hx hb dX1_amountIn_20 (by decide) ?_
      cases h
      exact px_ePi hQ hx hb hr hlocks dX1_amountIn_21
    · rw [if_neg c2] at h
      refine lv_iload_n hx hb dX1_amountIn_10 rfl (lv_at hl 2 rfl) ?_
      refine lv_if_lt (tgt := 20) hx hb dX1_amountIn_11 (by decide) (fun c3 => ?_) (fun c3 => ?_)
      · rw [if_pos c3] at h
        refine lv_iconst (v := (nI 0)) hx hb dX1_amountIn_20 (by decide) ?_
        cases h
        exact px_ePi hQ hx hb hr hlocks dX1_amountIn_21
      · rw [if_neg c3] at h
        refine lv_iload_n hx hb dX1_amountIn_14 rfl (lv_at hl 2 rfl) ?_
        refine lv_bipush (v := (nI 6)) hx hb dX1_amountIn_15 (by decide) ?_
        refine lv_icmp_lt (tgt := 22) hx hb dX1_amountIn_17 (by decide) (fun c4 => ?_) (fun c4 => ?_)
        · rw [if_pos c4] at h
          refine lv_aload_n hx hb dX1_amountIn_22 rfl (lv_at hl 0 rfl) ?_
          refine va_get (D := E.1) (ci := 1) (v := .ref (a 6)) (C := RX1) (T := TX1) (N := 11) hx hb hts iX1 hown hK hP 0 rfl rfl 8 (by decide) (hts _ q71) (fun _ h9 => h9) rfl dX1_amountIn_23 ?_
          refine lv_iload_n hx hb dX1_amountIn_26 rfl (lv_at hl 1 rfl) ?_
          refine lv_bipush (v := (nI 6)) hx hb dX1_amountIn_27 (by decide) ?_
          refine lv_imul hx hb dX1_amountIn_29 ?_
          refine lv_iload_n hx hb dX1_amountIn_30 rfl (lv_at hl 2 rfl) ?_
          refine lv_iadd hx hb dX1_amountIn_31 ?_
          obtain ⟨i5, h⟩ := o_t h
          refine va_iald (f := (fo_amounts φ)) hx hb hK hP 6 0 rfl rfl (inb_in i5) dX1_amountIn_32 ?_
          cases h
          exact px_ePi hQ hx hb hr hlocks dX1_amountIn_33
        · rw [if_neg c4] at h
          refine lv_iconst (v := (nI 0)) hx hb dX1_amountIn_20 (by decide) ?_
          cases h
          exact px_ePi hQ hx hb hr hlocks dX1_amountIn_21
def f1_changedIn_L18 (x1 : Int32) (φ : Fo) : Nat → Int32 → Int32 → Int32 → Option (Int32)
  | 0, _, _, _ => none
  | n + 1, x2, x3, x4 => (if (nI 6) ≤ x4 then (some x3) else ((f1_amountIn (x1) (x4) (φ)).bind fun r5 => ((f1_amountIn (x2) (x4) (φ)).bind fun r7 => (if r5 = r7 then (f1_changedIn_L18 x1 φ n (x2) (x3) ((x4 + nI 1))) else (f1_changedIn_L18 x1 φ n (x2) ((x3 + nI 1)) ((x4 + nI 1)))))))
def f1_changedIn (x1 : Int32) (φ : Fo) : Option (Int32) := ((f1_firstOf (x1) (φ)).bind fun r1 => (if r1 = (-1 : Int32) then (some (nI 0)) else (f1_changedIn_L18 x1 φ fuel (r1) ((nI 0)) ((nI 0)))))
set_option maxHeartbeats 4000000 in
set_option maxRecDepth 100000 in
theorem c1_changedIn (l : Launch) (E : PE) (a : Nat → Nat)  (x1 : Int32) (φ : Fo) (r : Int32) (h : f1_changedIn x1 φ = some r) : MP l yX1_changedIn cX1_changedIn 5 (some .int) { frames := 1, cells := 0, slots := 0, locals := 22 } E [.ref (a 0), .int x1] ([gX1 E a φ] : List va_W).flatten (some (.int r)) := by
  refine px_startP (by decide +kernel) (Nat.le_of_ble_eq_true rfl) ?_
  intro p e s m args below meth c R Q A ls hC hQ
  obtain ⟨hx, hb, hr, hml, hts, hown, hlocks, hR, hK, hN, hP, hD, hA, hl, hin⟩ := hC
  have hl : lv_has ls 5 [(0, .ref (a 0)), (1, .int x1)] := hl
  unfold f1_changedIn at h
  have L18 : ∀ (n : Nat) (x2 : Int32) (x3 : Int32) (x4 : Int32) (ls : Array Slot), lv_has ls 5 [(0, .ref (a 0)), (1, .int x1), (2, .int x2), (3, .int x3), (4, .int x4)] → f1_changedIn_L18 x1 φ n x2 x3 x4 = some r → W p l e R s m args below meth c s.heap [] 0 0 Q (F0 m 18 ls []) := by
    intro n
    induction n with
    | zero =>
      intro x2 x3 x4 ls hl h
      unfold f1_changedIn_L18 at h; cases h
    | succ n ih =>
      intro x2 x3 x4 ls hl h
      unfold f1_changedIn_L18 at h
      refine lv_iload hx hb dX1_changedIn_18 (lv_at hl 4 rfl) ?_
      refine lv_bipush (v := (nI 6)) hx hb dX1_changedIn_20 (by decide) ?_
      refine lv_icmp_ge (tgt := 51) hx hb dX1_changedIn_22 (by decide) (fun c4 => ?_) (fun c4 => ?_)
      · rw [if_pos c4] at h
        refine lv_iload_n hx hb dX1_changedIn_51 rfl (lv_at hl 3 rfl) ?_
        cases h
        exact px_ePi hQ hx hb hr hlocks dX1_changedIn_52
      · rw [if_neg c4] at h
        refine lv_aload_n hx hb dX1_changedIn_25 rfl (lv_at hl 0 rfl) ?_
        refine lv_iload_n hx hb dX1_changedIn_26 rfl (lv_at hl 1 rfl) ?_
        refine lv_iload hx hb dX1_changedIn_27 (lv_at hl 4 rfl) ?_
        obtain ⟨r5, hr6, h⟩ := ob h
        refine px_Vp (As := [.int x1, .int x4]) (rest := []) (gs := ([gX1 E a φ] : List va_W)) (gc := ([gX1 E a φ] : List va_W)) ⟨hx, hb, hml, hown, hts⟩ (c1_amountIn l E a  (x1) (x4) (φ) r5 hr6) (cwV 2 hts (ws_v q538 q299 q300 q19 q301) rfl rfl rfl hdV_X1_amountIn (by rw [hR]; exact ⟨Nat.le_of_ble_eq_true rfl, Nat.le_of_ble_eq_true rfl⟩)) hK hN hP hD [0] rfl (by decide) 0 1 rfl rfl rfl rfl hl.1 rfl (Nat.le_of_ble_eq_true rfl) dX1_changedIn_29 (by rw [hR]; exact ⟨Nat.le_of_ble_eq_true rfl, Nat.le_of_ble_eq_true rfl⟩) ?_
        refine W.eq (g2 := F0 m 32 ls [.int r5]) rfl ?_
        refine lv_aload_n hx hb dX1_changedIn_32 rfl (lv_at hl 0 rfl) ?_
        refine lv_iload_n hx hb dX1_changedIn_33 rfl (lv_at hl 2 rfl) ?_
        refine lv_iload hx hb dX1_changedIn_34 (lv_at hl 4 rfl) ?_
        obtain ⟨r7, hr8, h⟩ := ob h
        refine px_Vp (As := [.int x2, .int x4]) (rest := [.int r5]) (gs := ([gX1 E a φ] : List va_W)) (gc := ([gX1 E a φ] : List va_W)) ⟨hx, hb, hml, hown, hts⟩ (c1_amountIn l E a  (x2) (x4) (φ) r7 hr8) (cwV 2 hts (ws_v q538 q299 q300 q19 q301) rfl rfl rfl hdV_X1_amountIn (by rw [hR]; exact ⟨Nat.le_of_ble_eq_true rfl, Nat.le_of_ble_eq_true rfl⟩)) hK hN hP hD [0] rfl (by decide) 0 1 rfl rfl rfl rfl hl.1 rfl (Nat.le_of_ble_eq_true rfl) dX1_changedIn_36 (by rw [hR]; exact ⟨Nat.le_of_ble_eq_true rfl, Nat.le_of_ble_eq_true rfl⟩) ?_
        refine W.eq (g2 := F0 m 39 ls [.int r7, .int r5]) rfl ?_
        refine lv_icmp_eq (tgt := 45) hx hb dX1_changedIn_39 (by decide) (fun c9 => ?_) (fun c9 => ?_)
        · rw [if_pos c9] at h
          refine lv_iinc (v := (x4 + nI 1)) (lv' := [(4, .int (x4 + nI 1)), (0, .ref (a 0)), (1, .int x1), (2, .int x2), (3, .int x3)]) hx hb dX1_changedIn_45 hl (k := 4) rfl rfl (by decide) rfl (fun ls hl => ?_)
          refine lv_goto (tgt := 18) hx hb dX1_changedIn_48 (by decide) ?_
          exact ih (x2) (x3) ((x4 + nI 1)) ls (lv_sub hl [1, 2, 3, 4, 0] rfl) h
        · rw [if_neg c9] at h
          refine lv_iinc (v := (x3 + nI 1)) (lv' := [(3, .int (x3 + nI 1)), (0, .ref (a 0)), (1, .int x1), (2, .int x2), (4, .int x4)]) hx hb dX1_changedIn_42 hl (k := 3) rfl rfl (by decide) rfl (fun ls hl => ?_)
          refine lv_iinc (v := (x4 + nI 1)) (lv' := [(4, .int (x4 + nI 1)), (3, .int (x3 + nI 1)), (0, .ref (a 0)), (1, .int x1), (2, .int x2)]) hx hb dX1_changedIn_45 hl (k := 4) rfl rfl (by decide) rfl (fun ls hl => ?_)
          refine lv_goto (tgt := 18) hx hb dX1_changedIn_48 (by decide) ?_
          exact ih (x2) ((x3 + nI 1)) ((x4 + nI 1)) ls (lv_sub hl [2, 3, 4, 1, 0] rfl) h
  refine lv_aload_n hx hb dX1_changedIn_0 rfl (lv_at hl 0 rfl) ?_
  refine lv_iload_n hx hb dX1_changedIn_1 rfl (lv_at hl 1 rfl) ?_
  obtain ⟨r1, hr2, h⟩ := ob h
  refine px_Vp (As := [.int x1]) (rest := []) (gs := ([gX1 E a φ] : List va_W)) (gc := ([gX1 E a φ] : List va_W)) ⟨hx, hb, hml, hown, hts⟩ (c1_firstOf l E a  (x1) (φ) r1 hr2) (cwV 1 hts (ws_v q537 q526 q527 q19 q528) rfl rfl rfl hdV_X1_firstOf (by rw [hR]; exact ⟨Nat.le_of_ble_eq_true rfl, Nat.le_of_ble_eq_true rfl⟩)) hK hN hP hD [0] rfl (by decide) 0 1 rfl rfl rfl rfl hl.1 rfl (Nat.le_of_ble_eq_true rfl) dX1_changedIn_2 (by rw [hR]; exact ⟨Nat.le_of_ble_eq_true rfl, Nat.le_of_ble_eq_true rfl⟩) ?_
  refine W.eq (g2 := F0 m 5 ls [.int r1]) rfl ?_
  refine lv_istore_n (lv' := [(2, .int r1), (0, .ref (a 0)), (1, .int x1)]) hx hb dX1_changedIn_5 rfl hl (by decide) rfl (fun ls hl => ?_)
  refine lv_iload_n hx hb dX1_changedIn_6 rfl (lv_at hl 0 rfl) ?_
  refine lv_iconst (v := (-1 : Int32)) hx hb dX1_changedIn_7 (by decide) ?_
  refine lv_icmp_ne (tgt := 13) hx hb dX1_changedIn_8 (by decide) (fun c3 => ?_) (fun c3 => ?_)
  · rw [if_neg c3] at h
    refine lv_iconst (v := (nI 0)) hx hb dX1_changedIn_13 (by decide) ?_
    refine lv_istore_n (lv' := [(3, .int (nI 0)), (2, .int r1), (0, .ref (a 0)), (1, .int x1)]) hx hb dX1_changedIn_14 rfl hl (by decide) rfl (fun ls hl => ?_)
    refine lv_iconst (v := (nI 0)) hx hb dX1_changedIn_15 (by decide) ?_
    refine lv_istore (lv' := [(4, .int (nI 0)), (3, .int (nI 0)), (2, .int r1), (0, .ref (a 0)), (1, .int x1)]) hx hb dX1_changedIn_16 hl (by decide) rfl (fun ls hl => ?_)
    exact L18 fuel (r1) ((nI 0)) ((nI 0)) ls (lv_sub hl [3, 4, 2, 1, 0] rfl) h
  · rw [if_pos c3] at h
    refine lv_iconst (v := (nI 0)) hx hb dX1_changedIn_11 (by decide) ?_
    cases h
    exact px_ePi hQ hx hb hr hlocks dX1_changedIn_12
def f1_become  (φ : Fo) (φ_other : Fo) : Option (Fo) := (lt (fo_s_kinds φ (fo_kinds φ_other)) fun φ1 => (lt (fo_s_firsts φ1 (fo_firsts φ_other)) fun φ3 => (lt (fo_s_seconds φ3 (fo_seconds φ_other)) fun φ5 => (lt (fo_s_families φ5 (fo_families φ_other)) fun φ7 => (lt (fo_s_depths φ7 (fo_depths φ_other)) fun φ9 => (lt (fo_s_amounts φ9 (fo_amounts φ_other)) fun φ11 => (lt (fo_s_tips φ11 (fo_tips φ_other)) fun φ13 => (lt (fo_s_bundled φ13 (fo_bundled φ_other)) fun φ15 => (lt (fo_s_commits φ15 (fo_commits φ_other)) fun φ17 => (lt (fo_s_branches φ17 (fo_branches φ_other)) fun φ19 => (lt (fo_s_purpose φ19 (fo_purpose φ_other)) fun φ21 => (some φ21))))))))))))
set_option maxHeartbeats 4000000 in
set_option maxRecDepth 100000 in
theorem c1_become (l : Launch) (E : PE) (a : Nat → Nat) (a_other : Nat → Nat)   (φ : Fo) (φ_other : Fo) (z_this_φ : Fo) (h : f1_become φ φ_other = some z_this_φ) : MW l yX1_become cX1_become 2 none { frames := 1, cells := 0, slots := 0, locals := 24 } E [.ref (a 0), .ref (a_other 0)] ([gX1 E a φ, gX1 E a_other φ_other] : List va_W).flatten 0 0 none ([gX1 E a z_this_φ, gX1 E a_other φ_other] : List va_W).flatten := by
  refine px_startW (by decide +kernel) (Nat.le_of_ble_eq_true rfl) ?_
  intro p e s m args below meth c R Q A ls hC hA0 hQ
  obtain ⟨hx, hb, hr, hml, hts, hown, hlocks, hR, hK, hN, hP, hD, hA, hl, hin⟩ := hC
  have hl : lv_has ls 2 [(0, .ref (a 0)), (1, .ref (a_other 0))] := hl
  suffices key : ∀ (H : Heap) (locs : List Loc), va_P E.1 vwCl ([gX1 E a φ, gX1 E a_other φ_other] : List va_W).flatten H → va_S A s.heap H locs → W p l e R s m args below meth c H locs 0 0 Q (F0 m 0 ls []) from key s.heap [] hP va_S.rf
  unfold f1_become at h
  intro H locs hP hS
  refine lv_aload_n hx hb dX1_become_0 rfl (lv_at hl 1 rfl) ?_
  refine va_get (D := E.1) (ci := 1) (v := .ref (a_other 1)) (C := RX1) (T := TX1) (N := 11) hx hb hts iX1 hown hK hP 9 rfl rfl 3 (by decide) (hts _ q66) (fun _ h9 => h9) rfl dX1_become_1 ?_
  refine lv_iconst (v := (nI 0)) hx hb dX1_become_4 (by decide) ?_
  refine lv_aload_n hx hb dX1_become_5 rfl (lv_at hl 0 rfl) ?_
  refine va_get (D := E.1) (ci := 1) (v := .ref (a 1)) (C := RX1) (T := TX1) (N := 11) hx hb hts iX1 hown hK hP 0 rfl rfl 3 (by decide) (hts _ q66) (fun _ h9 => h9) rfl dX1_become_6 ?_
  refine lv_iconst (v := (nI 0)) hx hb dX1_become_9 (by decide) ?_
  refine lv_bipush (v := (nI 24)) hx hb dX1_become_10 (by decide) ?_
  refine va_copyi (f := (fo_kinds φ_other)) (g := (fo_kinds φ)) (ty := .int) hx hb (hml.trans hl.1.symm) hown (hts _ q260) (hts _ q262) (hts _ q261) (hts _ q31) hK hP hD hS 10 1 0 0 rfl rfl rfl rfl rfl (by decide) (by decide) (by decide) (by decide) (by decide) (fun _ _ => rfl) (by rw [hR]; exact Nat.le_of_ble_eq_true rfl) (by rw [hR]; exact Nat.le_of_ble_eq_true rfl) dX1_become_12 (fun H locs hP hD hS => ?_)
  have hP : va_P E.1 vwCl ([gX1 E a (fo_s_kinds φ (fo_kinds φ_other)), gX1 E a_other φ_other] : List va_W).flatten H := px_cpyP (f := (fo_kinds φ_other)) (g := (fo_kinds φ)) (n := 24) 1 hP rfl rfl
  have hD : va_D A ([gX1 E a (fo_s_kinds φ (fo_kinds φ_other)), gX1 E a_other φ_other] : List va_W).flatten := px_setD 1 hD rfl (e2 := .inl (E.2.1, 24, .inl (fo_kinds φ_other))) rfl
  obtain ⟨φ1, e2, h⟩ := lt_e h
  rw [← e2] at hP hD
  refine lv_aload_n hx hb dX1_become_15 rfl (lv_at hl 1 rfl) ?_
  refine va_get (D := E.1) (ci := 1) (v := .ref (a_other 2)) (C := RX1) (T := TX1) (N := 11) hx hb hts iX1 hown hK hP 9 rfl rfl 4 (by decide) (hts _ q67) (fun _ h9 => h9) rfl dX1_become_16 ?_
  refine lv_iconst (v := (nI 0)) hx hb dX1_become_19 (by decide) ?_
  refine lv_aload_n hx hb dX1_become_20 rfl (lv_at hl 0 rfl) ?_
  refine va_get (D := E.1) (ci := 1) (v := .ref (a 2)) (C := RX1) (T := TX1) (N := 11) hx hb hts iX1 hown hK hP 0 rfl rfl 4 (by decide) (hts _ q67) (fun _ h9 => h9) rfl dX1_become_21 ?_
  refine lv_iconst (v := (nI 0)) hx hb dX1_become_24 (by decide) ?_
  refine lv_bipush (v := (nI 24)) hx hb dX1_become_25 (by decide) ?_
  refine va_copyi (f := (fo_firsts φ_other)) (g := (fo_firsts φ1)) (ty := .int) hx hb (hml.trans hl.1.symm) hown (hts _ q260) (hts _ q262) (hts _ q261) (hts _ q31) hK hP hD hS 11 2 0 0 rfl rfl rfl rfl rfl (by decide) (by decide) (by decide) (by decide) (by decide) (fun _ _ => rfl) (by rw [hR]; exact Nat.le_of_ble_eq_true rfl) (by rw [hR]; exact Nat.le_of_ble_eq_true rfl) dX1_become_27 (fun H locs hP hD hS => ?_)
  have hP : va_P E.1 vwCl ([gX1 E a (fo_s_firsts φ1 (fo_firsts φ_other)), gX1 E a_other φ_other] : List va_W).flatten H := px_cpyP (f := (fo_firsts φ_other)) (g := (fo_firsts φ1)) (n := 24) 2 hP rfl rfl
  have hD : va_D A ([gX1 E a (fo_s_firsts φ1 (fo_firsts φ_other)), gX1 E a_other φ_other] : List va_W).flatten := px_setD 2 hD rfl (e2 := .inl (E.2.1, 24, .inl (fo_firsts φ_other))) rfl
  obtain ⟨φ3, e4, h⟩ := lt_e h
  rw [← e4] at hP hD
  refine lv_aload_n hx hb dX1_become_30 rfl (lv_at hl 1 rfl) ?_
  refine va_get (D := E.1) (ci := 1) (v := .ref (a_other 3)) (C := RX1) (T := TX1) (N := 11) hx hb hts iX1 hown hK hP 9 rfl rfl 5 (by decide) (hts _ q68) (fun _ h9 => h9) rfl dX1_become_31 ?_
  refine lv_iconst (v := (nI 0)) hx hb dX1_become_34 (by decide) ?_
  refine lv_aload_n hx hb dX1_become_35 rfl (lv_at hl 0 rfl) ?_
  refine va_get (D := E.1) (ci := 1) (v := .ref (a 3)) (C := RX1) (T := TX1) (N := 11) hx hb hts iX1 hown hK hP 0 rfl rfl 5 (by decide) (hts _ q68) (fun _ h9 => h9) rfl dX1_become_36 ?_
  refine lv_iconst (v := (nI 0)) hx hb dX1_become_39 (by decide) ?_
  refine lv_bipush (v := (nI 24)) hx hb dX1_become_40 (by decide) ?_
  refine va_copyi (f := (fo_seconds φ_other)) (g := (fo_seconds φ3)) (ty := .int) hx hb (hml.trans hl.1.symm) hown (hts _ q260) (hts _ q262) (hts _ q261) (hts _ q31) hK hP hD hS 12 3 0 0 rfl rfl rfl rfl rfl (by decide) (by decide) (by decide) (by decide) (by decide) (fun _ _ => rfl) (by rw [hR]; exact Nat.le_of_ble_eq_true rfl) (by rw [hR]; exact Nat.le_of_ble_eq_true rfl) dX1_become_42 (fun H locs hP hD hS => ?_)
  have hP : va_P E.1 vwCl ([gX1 E a (fo_s_seconds φ3 (fo_seconds φ_other)), gX1 E a_other φ_other] : List va_W).flatten H := px_cpyP (f := (fo_seconds φ_other)) (g := (fo_seconds φ3)) (n := 24) 3 hP rfl rfl
  have hD : va_D A ([gX1 E a (fo_s_seconds φ3 (fo_seconds φ_other)), gX1 E a_other φ_other] : List va_W).flatten := px_setD 3 hD rfl (e2 := .inl (E.2.1, 24, .inl (fo_seconds φ_other))) rfl
  obtain ⟨φ5, e6, h⟩ := lt_e h
  rw [← e6] at hP hD
  refine lv_aload_n hx hb dX1_become_45 rfl (lv_at hl 1 rfl) ?_
  refine va_get (D := E.1) (ci := 1) (v := .ref (a_other 4)) (C := RX1) (T := TX1) (N := 11) hx hb hts iX1 hown hK hP 9 rfl rfl 6 (by decide) (hts _ q69) (fun _ h9 => h9) rfl dX1_become_46 ?_
  refine lv_iconst (v := (nI 0)) hx hb dX1_become_49 (by decide) ?_
  refine lv_aload_n hx hb dX1_become_50 rfl (lv_at hl 0 rfl) ?_
  refine va_get (D := E.1) (ci := 1) (v := .ref (a 4)) (C := RX1) (T := TX1) (N := 11) hx hb hts iX1 hown hK hP 0 rfl rfl 6 (by decide) (hts _ q69) (fun _ h9 => h9) rfl dX1_become_51 ?_
  refine lv_iconst (v := (nI 0)) hx hb dX1_become_54 (by decide) ?_
  refine lv_bipush (v := (nI 24)) hx hb dX1_become_55 (by decide) ?_
  refine va_copyi (f := (fo_families φ_other)) (g := (fo_families φ5)) (ty := .int) hx hb (hml.trans hl.1.symm) hown (hts _ q260) (hts _ q262) (hts _ q261) (hts _ q31) hK hP hD hS 13 4 0 0 rfl rfl rfl rfl rfl (by decide) (by decide) (by decide) (by decide) (by decide) (fun _ _ => rfl) (by rw [hR]; exact Nat.le_of_ble_eq_true rfl) (by rw [hR]; exact Nat.le_of_ble_eq_true rfl) dX1_become_57 (fun H locs hP hD hS => ?_)
  have hP : va_P E.1 vwCl ([gX1 E a (fo_s_families φ5 (fo_families φ_other)), gX1 E a_other φ_other] : List va_W).flatten H := px_cpyP (f := (fo_families φ_other)) (g := (fo_families φ5)) (n := 24) 4 hP rfl rfl
  have hD : va_D A ([gX1 E a (fo_s_families φ5 (fo_families φ_other)), gX1 E a_other φ_other] : List va_W).flatten := px_setD 4 hD rfl (e2 := .inl (E.2.1, 24, .inl (fo_families φ_other))) rfl
  obtain ⟨φ7, e8, h⟩ := lt_e h
  rw [← e8] at hP hD
  refine lv_aload_n hx hb dX1_become_60 rfl (lv_at hl 1 rfl) ?_
  refine va_get (D := E.1) (ci := 1) (v := .ref (a_other 5)) (C := RX1) (T := TX1) (N := 11) hx hb hts iX1 hown hK hP 9 rfl rfl 7 (by decide) (hts _ q70) (fun _ h9 => h9) rfl dX1_become_61 ?_
  refine lv_iconst (v := (nI 0)) hx hb dX1_become_64 (by decide) ?_
  refine lv_aload_n hx hb dX1_become_65 rfl (lv_at hl 0 rfl) ?_
  refine va_get (D := E.1) (ci := 1) (v := .ref (a 5)) (C := RX1) (T := TX1) (N := 11) hx hb hts iX1 hown hK hP 0 rfl rfl 7 (by decide) (hts _ q70) (fun _ h9 => h9) rfl dX1_become_66 ?_
  refine lv_iconst (v := (nI 0)) hx hb dX1_become_69 (by decide) ?_
  refine lv_bipush (v := (nI 24)) hx hb dX1_become_70 (by decide) ?_
  refine va_copyi (f := (fo_depths φ_other)) (g := (fo_depths φ7)) (ty := .int) hx hb (hml.trans hl.1.symm) hown (hts _ q260) (hts _ q262) (hts _ q261) (hts _ q31) hK hP hD hS 14 5 0 0 rfl rfl rfl rfl rfl (by decide) (by decide) (by decide) (by decide) (by decide) (fun _ _ => rfl) (by rw [hR]; exact Nat.le_of_ble_eq_true rfl) (by rw [hR]; exact Nat.le_of_ble_eq_true rfl) dX1_become_72 (fun H locs hP hD hS => ?_)
  have hP : va_P E.1 vwCl ([gX1 E a (fo_s_depths φ7 (fo_depths φ_other)), gX1 E a_other φ_other] : List va_W).flatten H := px_cpyP (f := (fo_depths φ_other)) (g := (fo_depths φ7)) (n := 24) 5 hP rfl rfl
  have hD : va_D A ([gX1 E a (fo_s_depths φ7 (fo_depths φ_other)), gX1 E a_other φ_other] : List va_W).flatten := px_setD 5 hD rfl (e2 := .inl (E.2.1, 24, .inl (fo_depths φ_other))) rfl
  obtain ⟨φ9, e10, h⟩ := lt_e h
  rw [← e10] at hP hD
  refine lv_aload_n hx hb dX1_become_75 rfl (lv_at hl 1 rfl) ?_
  refine va_get (D := E.1) (ci := 1) (v := .ref (a_other 6)) (C := RX1) (T := TX1) (N := 11) hx hb hts iX1 hown hK hP 9 rfl rfl 8 (by decide) (hts _ q71) (fun _ h9 => h9) rfl dX1_become_76 ?_
  refine lv_iconst (v := (nI 0)) hx hb dX1_become_79 (by decide) ?_
  refine lv_aload_n hx hb dX1_become_80 rfl (lv_at hl 0 rfl) ?_
  refine va_get (D := E.1) (ci := 1) (v := .ref (a 6)) (C := RX1) (T := TX1) (N := 11) hx hb hts iX1 hown hK hP 0 rfl rfl 8 (by decide) (hts _ q71) (fun _ h9 => h9) rfl dX1_become_81 ?_
  refine lv_iconst (v := (nI 0)) hx hb dX1_become_84 (by decide) ?_
  refine lv_sipush (v := (nI 144)) hx hb dX1_become_85 (by decide) ?_
  refine va_copyi (f := (fo_amounts φ_other)) (g := (fo_amounts φ9)) (ty := .int) hx hb (hml.trans hl.1.symm) hown (hts _ q260) (hts _ q262) (hts _ q261) (hts _ q31) hK hP hD hS 15 6 0 0 rfl rfl rfl rfl rfl (by decide) (by decide) (by decide) (by decide) (by decide) (fun _ _ => rfl) (by rw [hR]; exact Nat.le_of_ble_eq_true rfl) (by rw [hR]; exact Nat.le_of_ble_eq_true rfl) dX1_become_88 (fun H locs hP hD hS => ?_)
  have hP : va_P E.1 vwCl ([gX1 E a (fo_s_amounts φ9 (fo_amounts φ_other)), gX1 E a_other φ_other] : List va_W).flatten H := px_cpyP (f := (fo_amounts φ_other)) (g := (fo_amounts φ9)) (n := 144) 6 hP rfl rfl
  have hD : va_D A ([gX1 E a (fo_s_amounts φ9 (fo_amounts φ_other)), gX1 E a_other φ_other] : List va_W).flatten := px_setD 6 hD rfl (e2 := .inl (E.2.1, 144, .inl (fo_amounts φ_other))) rfl
  obtain ⟨φ11, e12, h⟩ := lt_e h
  rw [← e12] at hP hD
  refine lv_aload_n hx hb dX1_become_91 rfl (lv_at hl 1 rfl) ?_
  refine va_get (D := E.1) (ci := 1) (v := .ref (a_other 7)) (C := RX1) (T := TX1) (N := 11) hx hb hts iX1 hown hK hP 9 rfl rfl 9 (by decide) (hts _ q72) (fun _ h9 => h9) rfl dX1_become_92 ?_
  refine lv_iconst (v := (nI 0)) hx hb dX1_become_95 (by decide) ?_
  refine lv_aload_n hx hb dX1_become_96 rfl (lv_at hl 0 rfl) ?_
  refine va_get (D := E.1) (ci := 1) (v := .ref (a 7)) (C := RX1) (T := TX1) (N := 11) hx hb hts iX1 hown hK hP 0 rfl rfl 9 (by decide) (hts _ q72) (fun _ h9 => h9) rfl dX1_become_97 ?_
  refine lv_iconst (v := (nI 0)) hx hb dX1_become_100 (by decide) ?_
  refine lv_iconst (v := (nI 5)) hx hb dX1_become_101 (by decide) ?_
  refine va_copyi (f := (fo_tips φ_other)) (g := (fo_tips φ11)) (ty := .int) hx hb (hml.trans hl.1.symm) hown (hts _ q260) (hts _ q262) (hts _ q261) (hts _ q31) hK hP hD hS 16 7 0 0 rfl rfl rfl rfl rfl (by decide) (by decide) (by decide) (by decide) (by decide) (fun _ _ => rfl) (by rw [hR]; exact Nat.le_of_ble_eq_true rfl) (by rw [hR]; exact Nat.le_of_ble_eq_true rfl) dX1_become_102 (fun H locs hP hD hS => ?_)
  have hP : va_P E.1 vwCl ([gX1 E a (fo_s_tips φ11 (fo_tips φ_other)), gX1 E a_other φ_other] : List va_W).flatten H := px_cpyP (f := (fo_tips φ_other)) (g := (fo_tips φ11)) (n := 5) 7 hP rfl rfl
  have hD : va_D A ([gX1 E a (fo_s_tips φ11 (fo_tips φ_other)), gX1 E a_other φ_other] : List va_W).flatten := px_setD 7 hD rfl (e2 := .inl (E.2.1, 5, .inl (fo_tips φ_other))) rfl
  obtain ⟨φ13, e14, h⟩ := lt_e h
  rw [← e14] at hP hD
  refine lv_aload_n hx hb dX1_become_105 rfl (lv_at hl 1 rfl) ?_
  refine va_get (D := E.1) (ci := 1) (v := .ref (a_other 8)) (C := RX1) (T := TX1) (N := 11) hx hb hts iX1 hown hK hP 9 rfl rfl 10 (by decide) (hts _ q73) (fun _ h9 => h9) rfl dX1_become_106 ?_
  refine lv_iconst (v := (nI 0)) hx hb dX1_become_109 (by decide) ?_
  refine lv_aload_n hx hb dX1_become_110 rfl (lv_at hl 0 rfl) ?_
  refine va_get (D := E.1) (ci := 1) (v := .ref (a 8)) (C := RX1) (T := TX1) (N := 11) hx hb hts iX1 hown hK hP 0 rfl rfl 10 (by decide) (hts _ q73) (fun _ h9 => h9) rfl dX1_become_111 ?_
  refine lv_iconst (v := (nI 0)) hx hb dX1_become_114 (by decide) ?_
  refine lv_iconst (v := (nI 4)) hx hb dX1_become_115 (by decide) ?_
  refine va_copyi (f := (fo_bundled φ_other)) (g := (fo_bundled φ13)) (ty := .int) hx hb (hml.trans hl.1.symm) hown (hts _ q260) (hts _ q262) (hts _ q261) (hts _ q31) hK hP hD hS 17 8 0 0 rfl rfl rfl rfl rfl (by decide) (by decide) (by decide) (by decide) (by decide) (fun _ _ => rfl) (by rw [hR]; exact Nat.le_of_ble_eq_true rfl) (by rw [hR]; exact Nat.le_of_ble_eq_true rfl) dX1_become_116 (fun H locs hP hD hS => ?_)
  have hP : va_P E.1 vwCl ([gX1 E a (fo_s_bundled φ13 (fo_bundled φ_other)), gX1 E a_other φ_other] : List va_W).flatten H := px_cpyP (f := (fo_bundled φ_other)) (g := (fo_bundled φ13)) (n := 4) 8 hP rfl rfl
  have hD : va_D A ([gX1 E a (fo_s_bundled φ13 (fo_bundled φ_other)), gX1 E a_other φ_other] : List va_W).flatten := px_setD 8 hD rfl (e2 := .inl (E.2.1, 4, .inl (fo_bundled φ_other))) rfl
  obtain ⟨φ15, e16, h⟩ := lt_e h
  rw [← e16] at hP hD
  refine lv_aload_n hx hb dX1_become_119 rfl (lv_at hl 0 rfl) ?_
  refine lv_aload_n hx hb dX1_become_120 rfl (lv_at hl 1 rfl) ?_
  refine va_get (D := E.1) (ci := 1) (v := .int (fo_commits φ_other)) (C := RX1) (T := TX1) (N := 11) hx hb hts iX1 hown hK hP 9 rfl rfl 0 (by decide) (hts _ q63) (fun _ h9 => h9) rfl dX1_become_121 ?_
  refine va_put (D := E.1) (ci := 1) (v := .int (fo_commits φ_other)) (ty := .int) (C := RX1) (T := TX1) (N := 11) hx hb hts iX1 tyX1 tyX1_ok nmX1 hown hK hP hD hS 0 rfl rfl 0 (by decide) (hts _ q63) (fun _ h9 => h9) rfl (tyX1_ok 0 (by decide)) rfl rfl (Nat.le_of_ble_eq_true rfl) dX1_become_124 (fun H locs hP hD hS => ?_)
  have hP : va_P E.1 vwCl ([gX1 E a (fo_s_commits φ15 (fo_commits φ_other)), gX1 E a_other φ_other] : List va_W).flatten H := hP
  have hD : va_D A ([gX1 E a (fo_s_commits φ15 (fo_commits φ_other)), gX1 E a_other φ_other] : List va_W).flatten := hD
  obtain ⟨φ17, e18, h⟩ := lt_e h
  rw [← e18] at hP hD
  refine lv_aload_n hx hb dX1_become_127 rfl (lv_at hl 0 rfl) ?_
  refine lv_aload_n hx hb dX1_become_128 rfl (lv_at hl 1 rfl) ?_
  refine va_get (D := E.1) (ci := 1) (v := .int (fo_branches φ_other)) (C := RX1) (T := TX1) (N := 11) hx hb hts iX1 hown hK hP 9 rfl rfl 1 (by decide) (hts _ q64) (fun _ h9 => h9) rfl dX1_become_129 ?_
  refine va_put (D := E.1) (ci := 1) (v := .int (fo_branches φ_other)) (ty := .int) (C := RX1) (T := TX1) (N := 11) hx hb hts iX1 tyX1 tyX1_ok nmX1 hown hK hP hD hS 0 rfl rfl 1 (by decide) (hts _ q64) (fun _ h9 => h9) rfl (tyX1_ok 1 (by decide)) rfl rfl (Nat.le_of_ble_eq_true rfl) dX1_become_132 (fun H locs hP hD hS => ?_)
  have hP : va_P E.1 vwCl ([gX1 E a (fo_s_branches φ17 (fo_branches φ_other)), gX1 E a_other φ_other] : List va_W).flatten H := hP
  have hD : va_D A ([gX1 E a (fo_s_branches φ17 (fo_branches φ_other)), gX1 E a_other φ_other] : List va_W).flatten := hD
  obtain ⟨φ19, e20, h⟩ := lt_e h
  rw [← e20] at hP hD
  refine lv_aload_n hx hb dX1_become_135 rfl (lv_at hl 0 rfl) ?_
  refine lv_aload_n hx hb dX1_become_136 rfl (lv_at hl 1 rfl) ?_
  refine va_get (D := E.1) (ci := 1) (v := .int (fo_purpose φ_other)) (C := RX1) (T := TX1) (N := 11) hx hb hts iX1 hown hK hP 9 rfl rfl 2 (by decide) (hts _ q65) (fun _ h9 => h9) rfl dX1_become_137 ?_
  refine va_put (D := E.1) (ci := 1) (v := .int (fo_purpose φ_other)) (ty := .int) (C := RX1) (T := TX1) (N := 11) hx hb hts iX1 tyX1 tyX1_ok nmX1 hown hK hP hD hS 0 rfl rfl 2 (by decide) (hts _ q65) (fun _ h9 => h9) rfl (tyX1_ok 2 (by decide)) rfl rfl (Nat.le_of_ble_eq_true rfl) dX1_become_140 (fun H locs hP hD hS => ?_)
  have hP : va_P E.1 vwCl ([gX1 E a (fo_s_purpose φ19 (fo_purpose φ_other)), gX1 E a_other φ_other] : List va_W).flatten H := hP
  have hD : va_D A ([gX1 E a (fo_s_purpose φ19 (fo_purpose φ_other)), gX1 E a_other φ_other] : List va_W).flatten := hD
  obtain ⟨φ21, e22, h⟩ := lt_e h
  rw [← e22] at hP hD
  cases h
  exact px_eWv hA0 hQ hP hD hS hx hb hr hlocks dX1_become_143
def f1_addBranch (x1 : Int32) (φ : Fo) : Option (Int32 × Fo) := (if (fo_branches φ) < 0 then (some ((-1 : Int32), φ)) else (if (fo_branches φ) < (nI 5) then (if inb (fo_branches φ) 5 = true then (lt (fo_s_tips φ (upd (fo_tips φ) ((fo_branches φ)).toNatClampNeg x1)) fun φ4 => (lt (fo_s_branches φ4 ((fo_branches φ4) + (nI 1))) fun φ6 => (some ((fo_branches φ), φ6)))) else none) else (some ((-1 : Int32), φ))))
set_option maxHeartbeats 4000000 in
set_option maxRecDepth 100000 in
theorem c1_addBranch (l : Launch) (E : PE) (a : Nat → Nat)  (x1 : Int32) (φ : Fo) (r : Int32) (z_this_φ : Fo) (h : f1_addBranch x1 φ = some (r, z_this_φ)) : MW l yX1_addBranch cX1_addBranch 3 (some .int) { frames := 0, cells := 0, slots := 0, locals := 0 } E [.ref (a 0), .int x1] ([gX1 E a φ] : List va_W).flatten 0 0 (some (.int r)) ([gX1 E a z_this_φ] : List va_W).flatten := by
  refine px_startW (by decide +kernel) (Nat.le_of_ble_eq_true rfl) ?_
  intro p e s m args below meth c R Q A ls hC hA0 hQ
  obtain ⟨hx, hb, hr, hml, hts, hown, hlocks, hR, hK, hN, hP, hD, hA, hl, hin⟩ := hC
  have hl : lv_has ls 3 [(0, .ref (a 0)), (1, .int x1)] := hl
  suffices key : ∀ (H : Heap) (locs : List Loc), va_P E.1 vwCl ([gX1 E a φ] : List va_W).flatten H → va_S A s.heap H locs → W p l e R s m args below meth c H locs 0 0 Q (F0 m 0 ls []) from key s.heap [] hP va_S.rf
  unfold f1_addBranch at h
  intro H locs hP hS
  refine lv_aload_n hx hb dX1_addBranch_0 rfl (lv_at hl 0 rfl) ?_
  refine va_get (D := E.1) (ci := 1) (v := .int (fo_branches φ)) (C := RX1) (T := TX1) (N := 11) hx hb hts iX1 hown hK hP 0 rfl rfl 1 (by decide) (hts _ q64) (fun _ h9 => h9) rfl dX1_addBranch_1 ?_
  refine lv_if_lt (tgt := 15) hx hb dX1_addBranch_4 (by decide) (fun c1 => ?_) (fun c1 => ?_)
  · rw [if_pos c1] at h
    refine lv_iconst (v := (-1 : Int32)) hx hb dX1_addBranch_15 (by decide) ?_
    cases h
    exact px_eWi hA0 hQ hP hD hS hx hb hr hlocks dX1_addBranch_16
  · rw [if_neg c1] at h
    refine lv_aload_n hx hb dX1_addBranch_7 rfl (lv_at hl 0 rfl) ?_
    refine va_get (D := E.1) (ci := 1) (v := .int (fo_branches φ)) (C := RX1) (T := TX1) (N := 11) hx hb hts iX1 hown hK hP 0 rfl rfl 1 (by decide) (hts _ q64) (fun _ h9 => h9) rfl dX1_addBranch_8 ?_
    refine lv_iconst (v := (nI 5)) hx hb dX1_addBranch_11 (by decide) ?_
    refine lv_icmp_lt (tgt := 17) hx hb dX1_addBranch_12 (by decide) (fun c2 => ?_) (fun c2 => ?_)
    · rw [if_pos c2] at h
      refine lv_aload_n hx hb dX1_addBranch_17 rfl (lv_at hl 0 rfl) ?_
      refine va_get (D := E.1) (ci := 1) (v := .int (fo_branches φ)) (C := RX1) (T := TX1) (N := 11) hx hb hts iX1 hown hK hP 0 rfl rfl 1 (by decide) (hts _ q64) (fun _ h9 => h9) rfl dX1_addBranch_18 ?_
      refine lv_istore_n (lv' := [(2, .int (fo_branches φ)), (0, .ref (a 0)), (1, .int x1)]) hx hb dX1_addBranch_21 rfl hl (by decide) rfl (fun ls hl => ?_)
      refine lv_aload_n hx hb dX1_addBranch_22 rfl (lv_at hl 1 rfl) ?_
      refine va_get (D := E.1) (ci := 1) (v := .ref (a 7)) (C := RX1) (T := TX1) (N := 11) hx hb hts iX1 hown hK hP 0 rfl rfl 9 (by decide) (hts _ q72) (fun _ h9 => h9) rfl dX1_addBranch_23 ?_
      refine lv_iload_n hx hb dX1_addBranch_26 rfl (lv_at hl 0 rfl) ?_
      refine lv_iload_n hx hb dX1_addBranch_27 rfl (lv_at hl 2 rfl) ?_
      obtain ⟨i3, h⟩ := o_t h
      refine va_iast (f := (fo_tips φ)) hx hb hK hP hD hS 7 0 rfl rfl (inb_in i3) dX1_addBranch_28 (fun H locs hP hD hS => ?_)
      have hP : va_P E.1 vwCl ([gX1 E a (fo_s_tips φ (upd (fo_tips φ) ((fo_branches φ)).toNatClampNeg x1))] : List va_W).flatten H := hP
      have hD : va_D A ([gX1 E a (fo_s_tips φ (upd (fo_tips φ) ((fo_branches φ)).toNatClampNeg x1))] : List va_W).flatten := hD
      obtain ⟨φ4, e5, h⟩ := lt_e h
      rw [← e5] at hP hD
      refine lv_aload_n hx hb dX1_addBranch_29 rfl (lv_at hl 1 rfl) ?_
      refine lv_dup hx hb dX1_addBranch_30 rfl ?_
      refine va_get (D := E.1) (ci := 1) (v := .int (fo_branches φ4)) (C := RX1) (T := TX1) (N := 11) hx hb hts iX1 hown hK hP 0 rfl rfl 1 (by decide) (hts _ q64) (fun _ h9 => h9) rfl dX1_addBranch_31 ?_
      refine lv_iconst (v := (nI 1)) hx hb dX1_addBranch_34 (by decide) ?_
      refine lv_iadd hx hb dX1_addBranch_35 ?_
      refine va_put (D := E.1) (ci := 1) (v := .int ((fo_branches φ4) + (nI 1))) (ty := .int) (C := RX1) (T := TX1) (N := 11) hx hb hts iX1 tyX1 tyX1_ok nmX1 hown hK hP hD hS 0 rfl rfl 1 (by decide) (hts _ q64) (fun _ h9 => h9) rfl (tyX1_ok 1 (by decide)) rfl rfl (Nat.le_of_ble_eq_true rfl) dX1_addBranch_36 (fun H locs hP hD hS => ?_)
      have hP : va_P E.1 vwCl ([gX1 E a (fo_s_branches φ4 ((fo_branches φ4) + (nI 1)))] : List va_W).flatten H := hP
      have hD : va_D A ([gX1 E a (fo_s_branches φ4 ((fo_branches φ4) + (nI 1)))] : List va_W).flatten := hD
      obtain ⟨φ6, e7, h⟩ := lt_e h
      rw [← e7] at hP hD
      refine lv_iload_n hx hb dX1_addBranch_39 rfl (lv_at hl 0 rfl) ?_
      cases h
      exact px_eWi hA0 hQ hP hD hS hx hb hr hlocks dX1_addBranch_40
    · rw [if_neg c2] at h
      refine lv_iconst (v := (-1 : Int32)) hx hb dX1_addBranch_15 (by decide) ?_
      cases h
      exact px_eWi hA0 hQ hP hD hS hx hb hr hlocks dX1_addBranch_16
def f1_moveTip (x1 : Int32) (x2 : Int32) (φ : Fo) : Option (Fo) := ((f1_isBranch (x1) (φ)).bind fun r1 => (if (b2i r1) = 0 then (some φ) else (if inb x1 5 = true then (lt (fo_s_tips φ (upd (fo_tips φ) (x1).toNatClampNeg x2)) fun φ5 => (some φ5)) else none)))
set_option maxHeartbeats 4000000 in
set_option maxRecDepth 100000 in
theorem c1_moveTip (l : Launch) (E : PE) (a : Nat → Nat)  (x1 : Int32) (x2 : Int32) (φ : Fo) (z_this_φ : Fo) (h : f1_moveTip x1 x2 φ = some z_this_φ) : MW l yX1_moveTip cX1_moveTip 3 none { frames := 1, cells := 0, slots := 0, locals := 21 } E [.ref (a 0), .int x1, .int x2] ([gX1 E a φ] : List va_W).flatten 0 0 none ([gX1 E a z_this_φ] : List va_W).flatten := by
  refine px_startW (by decide +kernel) (Nat.le_of_ble_eq_true rfl) ?_
  intro p e s m args below meth c R Q A ls hC hA0 hQ
  obtain ⟨hx, hb, hr, hml, hts, hown, hlocks, hR, hK, hN, hP, hD, hA, hl, hin⟩ := hC
  have hl : lv_has ls 3 [(0, .ref (a 0)), (1, .int x1), (2, .int x2)] := hl
  suffices key : ∀ (H : Heap) (locs : List Loc), va_P E.1 vwCl ([gX1 E a φ] : List va_W).flatten H → va_S A s.heap H locs → W p l e R s m args below meth c H locs 0 0 Q (F0 m 0 ls []) from key s.heap [] hP va_S.rf
  unfold f1_moveTip at h
  intro H locs hP hS
  refine lv_aload_n hx hb dX1_moveTip_0 rfl (lv_at hl 0 rfl) ?_
  refine lv_iload_n hx hb dX1_moveTip_1 rfl (lv_at hl 1 rfl) ?_
  obtain ⟨r1, hr2, h⟩ := ob h
  refine px_Vp (As := [.int x1]) (rest := []) (gs := ([gX1 E a φ] : List va_W)) (gc := ([gX1 E a φ] : List va_W)) ⟨hx, hb, hml, hown, hts⟩ (c1_isBranch l E a  (x1) (φ) r1 hr2) (cwV 1 hts (ws_v q323 q285 q286 q19 q287) rfl rfl rfl hdV_X1_isBranch (by rw [hR]; exact ⟨Nat.le_of_ble_eq_true rfl, Nat.le_of_ble_eq_true rfl⟩)) hK hN hP hD [0] rfl (by decide) 0 1 rfl rfl rfl rfl hl.1 rfl (Nat.le_of_ble_eq_true rfl) dX1_moveTip_2 (by rw [hR]; exact ⟨Nat.le_of_ble_eq_true rfl, Nat.le_of_ble_eq_true rfl⟩) ?_
  refine W.eq (g2 := F0 m 5 ls [.int (b2i r1)]) rfl ?_
  refine lv_if_eq (tgt := 15) hx hb dX1_moveTip_5 (by decide) (fun c3 => ?_) (fun c3 => ?_)
  · rw [if_pos c3] at h
    cases h
    exact px_eWv hA0 hQ hP hD hS hx hb hr hlocks dX1_moveTip_15
  · rw [if_neg c3] at h
    refine lv_aload_n hx hb dX1_moveTip_8 rfl (lv_at hl 0 rfl) ?_
    refine va_get (D := E.1) (ci := 1) (v := .ref (a 7)) (C := RX1) (T := TX1) (N := 11) hx hb hts iX1 hown hK hP 0 rfl rfl 9 (by decide) (hts _ q72) (fun _ h9 => h9) rfl dX1_moveTip_9 ?_
    refine lv_iload_n hx hb dX1_moveTip_12 rfl (lv_at hl 1 rfl) ?_
    refine lv_iload_n hx hb dX1_moveTip_13 rfl (lv_at hl 2 rfl) ?_
    obtain ⟨i4, h⟩ := o_t h
    refine va_iast (f := (fo_tips φ)) hx hb hK hP hD hS 7 0 rfl rfl (inb_in i4) dX1_moveTip_14 (fun H locs hP hD hS => ?_)
    have hP : va_P E.1 vwCl ([gX1 E a (fo_s_tips φ (upd (fo_tips φ) (x1).toNatClampNeg x2))] : List va_W).flatten H := hP
    have hD : va_D A ([gX1 E a (fo_s_tips φ (upd (fo_tips φ) (x1).toNatClampNeg x2))] : List va_W).flatten := hD
    obtain ⟨φ5, e6, h⟩ := lt_e h
    rw [← e6] at hP hD
    cases h
    exact px_eWv hA0 hQ hP hD hS hx hb hr hlocks dX1_moveTip_15
def f1_hasInFamily (x1 : Int32) (x2 : Int32) (φ : Fo) : Option (Bool) := ((f1_familyOf (x1) (φ)).bind fun r1 => ((f8_isInSet (r1) (x2)).bind fun r3 => (some r3)))
set_option maxHeartbeats 4000000 in
set_option maxRecDepth 100000 in
theorem c1_hasInFamily (l : Launch) (E : PE) (a : Nat → Nat)  (x1 : Int32) (x2 : Int32) (φ : Fo) (r : Bool) (h : f1_hasInFamily x1 x2 φ = some r) : MP l yX1_hasInFamily cX1_hasInFamily 3 (some .boolean) { frames := 1, cells := 0, slots := 0, locals := 21 } E [.ref (a 0), .int x1, .int x2] ([gX1 E a φ] : List va_W).flatten (some (.int (b2i r))) := by
  refine px_startP (by decide +kernel) (Nat.le_of_ble_eq_true rfl) ?_
  intro p e s m args below meth c R Q A ls hC hQ
  obtain ⟨hx, hb, hr, hml, hts, hown, hlocks, hR, hK, hN, hP, hD, hA, hl, hin⟩ := hC
  have hl : lv_has ls 3 [(0, .ref (a 0)), (1, .int x1), (2, .int x2)] := hl
  unfold f1_hasInFamily at h
  refine lv_aload_n hx hb dX1_hasInFamily_0 rfl (lv_at hl 0 rfl) ?_
  refine lv_iload_n hx hb dX1_hasInFamily_1 rfl (lv_at hl 1 rfl) ?_
  obtain ⟨r1, hr2, h⟩ := ob h
  refine px_Vp (As := [.int x1]) (rest := []) (gs := ([gX1 E a φ] : List va_W)) (gc := ([gX1 E a φ] : List va_W)) ⟨hx, hb, hml, hown, hts⟩ (c1_familyOf l E a  (x1) (φ) r1 hr2) (cwV 1 hts (ws_v q327 q328 q329 q19 q330) rfl rfl rfl hdV_X1_familyOf (by rw [hR]; exact ⟨Nat.le_of_ble_eq_true rfl, Nat.le_of_ble_eq_true rfl⟩)) hK hN hP hD [0] rfl (by decide) 0 1 rfl rfl rfl rfl hl.1 rfl (Nat.le_of_ble_eq_true rfl) dX1_hasInFamily_2 (by rw [hR]; exact ⟨Nat.le_of_ble_eq_true rfl, Nat.le_of_ble_eq_true rfl⟩) ?_
  refine W.eq (g2 := F0 m 5 ls [.int r1]) rfl ?_
  refine lv_iload_n hx hb dX1_hasInFamily_5 rfl (lv_at hl 2 rfl) ?_
  obtain ⟨r3, hr4, h⟩ := ob h
  refine px_SNp (As := [.int r1, .int x2]) (rest := []) (gs := ([gX1 E a φ] : List va_W)) (gc := ([] : List va_W)) ⟨hx, hb, hml, hown, hts⟩ (c8_isInSet l E   (r1) (x2)  r3 hr4) ⟨va_cnB 2 hts (ws_g q568) rfl rfl rfl (hN _ (List.mem_of_getElem? (i := 4) rfl)) (hts _ q18) hdS_X8_isInSet (by rw [hR]; exact ⟨Nat.le_of_ble_eq_true rfl, Nat.le_of_ble_eq_true rfl⟩), hts _ q567, trivial⟩ hK hN hP hD [] rfl (by decide) rfl hl.1 rfl (Nat.le_of_ble_eq_true rfl) dX1_hasInFamily_6 (by rw [hR]; exact ⟨Nat.le_of_ble_eq_true rfl, Nat.le_of_ble_eq_true rfl⟩) ?_
  refine W.eq (g2 := F0 m 9 ls [.int (b2i r3)]) rfl ?_
  cases h
  exact px_ePz (b2i_n _) hQ hx hb hr hlocks dX1_hasInFamily_9
def f1_commonGround_L19 (x1 : Int32) (x2 : Int32) (φ : Fo) : Nat → Int32 → Int32 → Option (Int32)
  | 0, _, _ => none
  | n + 1, x3, x4 => (if x4 ≤ 0 then (some (nI 0)) else ((f8_isInSet (x3) (x4)).bind fun r6 => (if (b2i r6) = 0 then (f1_commonGround_L19 x1 x2 φ n (x3) ((x4 + (-1)))) else (some x4))))
def f1_commonGround (x1 : Int32) (x2 : Int32) (φ : Fo) : Option (Int32) := ((f1_familyOf (x1) (φ)).bind fun r1 => ((f1_familyOf (x2) (φ)).bind fun r3 => (f1_commonGround_L19 x1 x2 φ fuel ((r1 &&& r3)) ((if x2 < x1 then x2 else x1)))))
set_option maxHeartbeats 4000000 in
set_option maxRecDepth 100000 in
theorem c1_commonGround (l : Launch) (E : PE) (a : Nat → Nat)  (x1 : Int32) (x2 : Int32) (φ : Fo) (r : Int32) (h : f1_commonGround x1 x2 φ = some r) : MP l yX1_commonGround cX1_commonGround 5 (some .int) { frames := 1, cells := 0, slots := 0, locals := 21 } E [.ref (a 0), .int x1, .int x2] ([gX1 E a φ] : List va_W).flatten (some (.int r)) := by
  refine px_startP (by decide +kernel) (Nat.le_of_ble_eq_true rfl) ?_
  intro p e s m args below meth c R Q A ls hC hQ
  obtain ⟨hx, hb, hr, hml, hts, hown, hlocks, hR, hK, hN, hP, hD, hA, hl, hin⟩ := hC
  have hl : lv_has ls 5 [(0, .ref (a 0)), (1, .int x1), (2, .int x2)] := hl
  unfold f1_commonGround at h
  have L19 : ∀ (n : Nat) (x3 : Int32) (x4 : Int32) (ls : Array Slot), lv_has ls 5 [(3, .int x3), (4, .int x4)] → f1_commonGround_L19 x1 x2 φ n x3 x4 = some r → W p l e R s m args below meth c s.heap [] 0 0 Q (F0 m 19 ls []) := by
    intro n
    induction n with
    | zero =>
      intro x3 x4 ls hl h
      unfold f1_commonGround_L19 at h; cases h
    | succ n ih =>
      intro x3 x4 ls hl h
      unfold f1_commonGround_L19 at h
      refine lv_iload hx hb dX1_commonGround_19 (lv_at hl 1 rfl) ?_
      refine lv_if_le (tgt := 42) hx hb dX1_commonGround_21 (by decide) (fun c5 => ?_) (fun c5 => ?_)
      · rw [if_pos c5] at h
        refine lv_iconst (v := (nI 0)) hx hb dX1_commonGround_42 (by decide) ?_
        cases h
        exact px_ePi hQ hx hb hr hlocks dX1_commonGround_43
      · rw [if_neg c5] at h
        refine lv_iload_n hx hb dX1_commonGround_24 rfl (lv_at hl 0 rfl) ?_
        refine lv_iload hx hb dX1_commonGround_25 (lv_at hl 1 rfl) ?_
        obtain ⟨r6, hr7, h⟩ := ob h
        refine px_SNp (As := [.int x3, .int x4]) (rest := []) (gs := ([gX1 E a φ] : List va_W)) (gc := ([] : List va_W)) ⟨hx, hb, hml, hown, hts⟩ (c8_isInSet l E   (x3) (x4)  r6 hr7) ⟨va_cnB 2 hts (ws_g q568) rfl rfl rfl (hN _ (List.mem_of_getElem? (i := 4) rfl)) (hts _ q18) hdS_X8_isInSet (by rw [hR]; exact ⟨Nat.le_of_ble_eq_true rfl, Nat.le_of_ble_eq_true rfl⟩), hts _ q567, trivial⟩ hK hN hP hD [] rfl (by decide) rfl hl.1 rfl (Nat.le_of_ble_eq_true rfl) dX1_commonGround_27 (by rw [hR]; exact ⟨Nat.le_of_ble_eq_true rfl, Nat.le_of_ble_eq_true rfl⟩) ?_
        refine W.eq (g2 := F0 m 30 ls [.int (b2i r6)]) rfl ?_
        refine lv_if_eq (tgt := 36) hx hb dX1_commonGround_30 (by decide) (fun c8 => ?_) (fun c8 => ?_)
        · rw [if_pos c8] at h
          refine lv_iinc (v := (x4 + (-1))) (lv' := [(4, .int (x4 + (-1))), (3, .int x3)]) hx hb dX1_commonGround_36 hl (k := 1) rfl rfl (by decide) rfl (fun ls hl => ?_)
          refine lv_goto (tgt := 19) hx hb dX1_commonGround_39 (by decide) ?_
          exact ih (x3) ((x4 + (-1))) ls (lv_sub hl [1, 0] rfl) h
        · rw [if_neg c8] at h
          refine lv_iload hx hb dX1_commonGround_33 (lv_at hl 1 rfl) ?_
          cases h
          exact px_ePi hQ hx hb hr hlocks dX1_commonGround_35
  refine lv_aload_n hx hb dX1_commonGround_0 rfl (lv_at hl 0 rfl) ?_
  refine lv_iload_n hx hb dX1_commonGround_1 rfl (lv_at hl 1 rfl) ?_
  obtain ⟨r1, hr2, h⟩ := ob h
  refine px_Vp (As := [.int x1]) (rest := []) (gs := ([gX1 E a φ] : List va_W)) (gc := ([gX1 E a φ] : List va_W)) ⟨hx, hb, hml, hown, hts⟩ (c1_familyOf l E a  (x1) (φ) r1 hr2) (cwV 1 hts (ws_v q327 q328 q329 q19 q330) rfl rfl rfl hdV_X1_familyOf (by rw [hR]; exact ⟨Nat.le_of_ble_eq_true rfl, Nat.le_of_ble_eq_true rfl⟩)) hK hN hP hD [0] rfl (by decide) 0 1 rfl rfl rfl rfl hl.1 rfl (Nat.le_of_ble_eq_true rfl) dX1_commonGround_2 (by rw [hR]; exact ⟨Nat.le_of_ble_eq_true rfl, Nat.le_of_ble_eq_true rfl⟩) ?_
  refine W.eq (g2 := F0 m 5 ls [.int r1]) rfl ?_
  refine lv_aload_n hx hb dX1_commonGround_5 rfl (lv_at hl 0 rfl) ?_
  refine lv_iload_n hx hb dX1_commonGround_6 rfl (lv_at hl 2 rfl) ?_
  obtain ⟨r3, hr4, h⟩ := ob h
  refine px_Vp (As := [.int x2]) (rest := [.int r1]) (gs := ([gX1 E a φ] : List va_W)) (gc := ([gX1 E a φ] : List va_W)) ⟨hx, hb, hml, hown, hts⟩ (c1_familyOf l E a  (x2) (φ) r3 hr4) (cwV 1 hts (ws_v q327 q328 q329 q19 q330) rfl rfl rfl hdV_X1_familyOf (by rw [hR]; exact ⟨Nat.le_of_ble_eq_true rfl, Nat.le_of_ble_eq_true rfl⟩)) hK hN hP hD [0] rfl (by decide) 0 1 rfl rfl rfl rfl hl.1 rfl (Nat.le_of_ble_eq_true rfl) dX1_commonGround_7 (by rw [hR]; exact ⟨Nat.le_of_ble_eq_true rfl, Nat.le_of_ble_eq_true rfl⟩) ?_
  refine W.eq (g2 := F0 m 10 ls [.int r3, .int r1]) rfl ?_
  refine lv_iand hx hb dX1_commonGround_10 ?_
  refine lv_istore_n (lv' := [(3, .int (r1 &&& r3)), (0, .ref (a 0)), (1, .int x1), (2, .int x2)]) hx hb dX1_commonGround_11 rfl hl (by decide) rfl (fun ls hl => ?_)
  refine lv_iload_n hx hb dX1_commonGround_12 rfl (lv_at hl 2 rfl) ?_
  refine lv_iload_n hx hb dX1_commonGround_13 rfl (lv_at hl 3 rfl) ?_
  refine va_mmin hx hb (hml.trans hl.1.symm) hown (hts _ q573) (hts _ q352) (hts _ q32) (hts _ q353) (by rw [hR]; exact Nat.le_of_ble_eq_true rfl) (by rw [hR]; exact Nat.le_of_ble_eq_true rfl) (by rw [hR]; exact Nat.le_of_ble_eq_true rfl) (by rw [hR]; exact Nat.le_of_ble_eq_true rfl) dX1_commonGround_14 ?_
  refine lv_istore (lv' := [(4, .int (if x2 < x1 then x2 else x1)), (3, .int (r1 &&& r3)), (0, .ref (a 0)), (1, .int x1), (2, .int x2)]) hx hb dX1_commonGround_17 hl (by decide) rfl (fun ls hl => ?_)
  exact L19 fuel ((r1 &&& r3)) ((if x2 < x1 then x2 else x1)) ls (lv_sub hl [1, 0] rfl) h
def f1_meetingPoint_L18 (x1 : Int32) (x2 : Int32) (φ : Fo) : Nat → Int32 → Int32 → Int32 → Option (Int32)
  | 0, _, _, _ => none
  | n + 1, x3, x4, x5 => (if x5 ≤ 0 then (some (nI 0)) else ((f8_isInSet (x3) (x5)).bind fun r6 => ((f8_isInSet (x4) (x5)).bind fun r8 => (if (b2i r6) = 0 then ((f1_firstOf (x5) (φ)).bind fun r11 => ((f8_setOf (r11)).bind fun r13 => ((f1_secondOf (x5) (φ)).bind fun r15 => ((f8_setOf (r15)).bind fun r17 => (if (b2i r6) = 0 then (if (b2i r8) = 0 then (f1_meetingPoint_L18 x1 x2 φ n ((x3 ||| (nI 0))) ((x4 ||| (nI 0))) ((x5 + (-1)))) else (f1_meetingPoint_L18 x1 x2 φ n ((x3 ||| (nI 0))) ((x4 ||| (r13 ||| r17))) ((x5 + (-1))))) else (if (b2i r8) = 0 then (f1_meetingPoint_L18 x1 x2 φ n ((x3 ||| (r13 ||| r17))) ((x4 ||| (nI 0))) ((x5 + (-1)))) else (f1_meetingPoint_L18 x1 x2 φ n ((x3 ||| (r13 ||| r17))) ((x4 ||| (r13 ||| r17))) ((x5 + (-1)))))))))) else (if (b2i r8) = 0 then ((f1_firstOf (x5) (φ)).bind fun r23 => ((f8_setOf (r23)).bind fun r25 => ((f1_secondOf (x5) (φ)).bind fun r27 => ((f8_setOf (r27)).bind fun r29 => (if (b2i r6) = 0 then (if (b2i r8) = 0 then (f1_meetingPoint_L18 x1 x2 φ n ((x3 ||| (nI 0))) ((x4 ||| (nI 0))) ((x5 + (-1)))) else (f1_meetingPoint_L18 x1 x2 φ n ((x3 ||| (nI 0))) ((x4 ||| (r25 ||| r29))) ((x5 + (-1))))) else (if (b2i r8) = 0 then (f1_meetingPoint_L18 x1 x2 φ n ((x3 ||| (r25 ||| r29))) ((x4 ||| (nI 0))) ((x5 + (-1)))) else (f1_meetingPoint_L18 x1 x2 φ n ((x3 ||| (r25 ||| r29))) ((x4 ||| (r25 ||| r29))) ((x5 + (-1)))))))))) else (some x5))))))
def f1_meetingPoint (x1 : Int32) (x2 : Int32) (φ : Fo) : Option (Int32) := ((f8_setOf (x1)).bind fun r1 => ((f8_setOf (x2)).bind fun r3 => (f1_meetingPoint_L18 x1 x2 φ fuel (r1) (r3) ((if x1 < x2 then x2 else x1)))))
set_option maxHeartbeats 4000000 in
set_option maxRecDepth 100000 in
theorem c1_meetingPoint (l : Launch) (E : PE) (a : Nat → Nat)  (x1 : Int32) (x2 : Int32) (φ : Fo) (r : Int32) (h : f1_meetingPoint x1 x2 φ = some r) : MP l yX1_meetingPoint cX1_meetingPoint 9 (some .int) { frames := 1, cells := 0, slots := 0, locals := 21 } E [.ref (a 0), .int x1, .int x2] ([gX1 E a φ] : List va_W).flatten (some (.int r)) := by
  refine px_startP (by decide +kernel) (Nat.le_of_ble_eq_true rfl) ?_
  intro p e s m args below meth c R Q A ls hC hQ
  obtain ⟨hx, hb, hr, hml, hts, hown, hlocks, hR, hK, hN, hP, hD, hA, hl, hin⟩ := hC
  have hl : lv_has ls 9 [(0, .ref (a 0)), (1, .int x1), (2, .int x2)] := hl
  unfold f1_meetingPoint at h
  have L18 : ∀ (n : Nat) (x3 : Int32) (x4 : Int32) (x5 : Int32) (ls : Array Slot), lv_has ls 9 [(0, .ref (a 0)), (3, .int x3), (4, .int x4), (5, .int x5)] → f1_meetingPoint_L18 x1 x2 φ n x3 x4 x5 = some r → W p l e R s m args below meth c s.heap [] 0 0 Q (F0 m 18 ls []) := by
    intro n
    induction n with
    | zero =>
      intro x3 x4 x5 ls hl h
      unfold f1_meetingPoint_L18 at h; cases h
    | succ n ih =>
      intro x3 x4 x5 ls hl h
      unfold f1_meetingPoint_L18 at h
      refine lv_iload hx hb dX1_meetingPoint_18 (lv_at hl 3 rfl) ?_
      refine lv_if_le (tgt := 110) hx hb dX1_meetingPoint_20 (by decide) (fun c5 => ?_) (fun c5 => ?_)
      · rw [if_pos c5] at h
        refine lv_iconst (v := (nI 0)) hx hb dX1_meetingPoint_110 (by decide) ?_
        cases h
        exact px_ePi hQ hx hb hr hlocks dX1_meetingPoint_111
      · rw [if_neg c5] at h
        refine lv_iload_n hx hb dX1_meetingPoint_23 rfl (lv_at hl 1 rfl) ?_
        refine lv_iload hx hb dX1_meetingPoint_24 (lv_at hl 3 rfl) ?_
        obtain ⟨r6, hr7, h⟩ := ob h
        refine px_SNp (As := [.int x3, .int x5]) (rest := []) (gs := ([gX1 E a φ] : List va_W)) (gc := ([] : List va_W)) ⟨hx, hb, hml, hown, hts⟩ (c8_isInSet l E   (x3) (x5)  r6 hr7) ⟨va_cnB 2 hts (ws_g q568) rfl rfl rfl (hN _ (List.mem_of_getElem? (i := 4) rfl)) (hts _ q18) hdS_X8_isInSet (by rw [hR]; exact ⟨Nat.le_of_ble_eq_true rfl, Nat.le_of_ble_eq_true rfl⟩), hts _ q567, trivial⟩ hK hN hP hD [] rfl (by decide) rfl hl.1 rfl (Nat.le_of_ble_eq_true rfl) dX1_meetingPoint_26 (by rw [hR]; exact ⟨Nat.le_of_ble_eq_true rfl, Nat.le_of_ble_eq_true rfl⟩) ?_
        refine W.eq (g2 := F0 m 29 ls [.int (b2i r6)]) rfl ?_
        refine lv_istore (lv' := [(6, .int (b2i r6)), (0, .ref (a 0)), (3, .int x3), (4, .int x4), (5, .int x5)]) hx hb dX1_meetingPoint_29 hl (by decide) rfl (fun ls hl => ?_)
        refine lv_iload hx hb dX1_meetingPoint_31 (lv_at hl 3 rfl) ?_
        refine lv_iload hx hb dX1_meetingPoint_33 (lv_at hl 4 rfl) ?_
        obtain ⟨r8, hr9, h⟩ := ob h
        refine px_SNp (As := [.int x4, .int x5]) (rest := []) (gs := ([gX1 E a φ] : List va_W)) (gc := ([] : List va_W)) ⟨hx, hb, hml, hown, hts⟩ (c8_isInSet l E   (x4) (x5)  r8 hr9) ⟨va_cnB 2 hts (ws_g q568) rfl rfl rfl (hN _ (List.mem_of_getElem? (i := 4) rfl)) (hts _ q18) hdS_X8_isInSet (by rw [hR]; exact ⟨Nat.le_of_ble_eq_true rfl, Nat.le_of_ble_eq_true rfl⟩), hts _ q567, trivial⟩ hK hN hP hD [] rfl (by decide) rfl hl.1 rfl (Nat.le_of_ble_eq_true rfl) dX1_meetingPoint_35 (by rw [hR]; exact ⟨Nat.le_of_ble_eq_true rfl, Nat.le_of_ble_eq_true rfl⟩) ?_
        refine W.eq (g2 := F0 m 38 ls [.int (b2i r8)]) rfl ?_
        refine lv_istore (lv' := [(7, .int (b2i r8)), (6, .int (b2i r6)), (0, .ref (a 0)), (3, .int x3), (4, .int x4), (5, .int x5)]) hx hb dX1_meetingPoint_38 hl (by decide) rfl (fun ls hl => ?_)
        refine lv_iload hx hb dX1_meetingPoint_40 (lv_at hl 1 rfl) ?_
        refine lv_if_eq (tgt := 53) hx hb dX1_meetingPoint_42 (by decide) (fun c10 => ?_) (fun c10 => ?_)
        · rw [if_pos c10] at h
          refine lv_aload_n hx hb dX1_meetingPoint_53 rfl (lv_at hl 2 rfl) ?_
          refine lv_iload hx hb dX1_meetingPoint_54 (lv_at hl 5 rfl) ?_
          obtain ⟨r11, hr12, h⟩ := ob h
          refine px_Vp (As := [.int x5]) (rest := []) (gs := ([gX1 E a φ] : List va_W)) (gc := ([gX1 E a φ] : List va_W)) ⟨hx, hb, hml, hown, hts⟩ (c1_firstOf l E a  (x5) (φ) r11 hr12) (cwV 1 hts (ws_v q537 q526 q527 q19 q528) rfl rfl rfl hdV_X1_firstOf (by rw [hR]; exact ⟨Nat.le_of_ble_eq_true rfl, Nat.le_of_ble_eq_true rfl⟩)) hK hN hP hD [0] rfl (by decide) 0 1 rfl rfl rfl rfl hl.1 rfl (Nat.le_of_ble_eq_true rfl) dX1_meetingPoint_56 (by rw [hR]; exact ⟨Nat.le_of_ble_eq_true rfl, Nat.le_of_ble_eq_true rfl⟩) ?_
          refine W.eq (g2 := F0 m 59 ls [.int r11]) rfl ?_
          obtain ⟨r13, hr14, h⟩ := ob h
          refine px_SNp (As := [.int r11]) (rest := []) (gs := ([gX1 E a φ] : List va_W)) (gc := ([] : List va_W)) ⟨hx, hb, hml, hown, hts⟩ (c8_setOf l E   (r11)  r13 hr14) ⟨va_cnB 1 hts (ws_g q326) rfl rfl rfl (hN _ (List.mem_of_getElem? (i := 2) rfl)) (hts _ q18) hdS_X8_setOf (by rw [hR]; exact ⟨Nat.le_of_ble_eq_true rfl, Nat.le_of_ble_eq_true rfl⟩), hts _ q325, trivial⟩ hK hN hP hD [] rfl (by decide) rfl hl.1 rfl (Nat.le_of_ble_eq_true rfl) dX1_meetingPoint_59 (by rw [hR]; exact ⟨Nat.le_of_ble_eq_true rfl, Nat.le_of_ble_eq_true rfl⟩) ?_
          refine W.eq (g2 := F0 m 62 ls [.int r13]) rfl ?_
          refine lv_aload_n hx hb dX1_meetingPoint_62 rfl (lv_at hl 2 rfl) ?_
          refine lv_iload hx hb dX1_meetingPoint_63 (lv_at hl 5 rfl) ?_
          obtain ⟨r15, hr16, h⟩ := ob h
          refine px_Vp (As := [.int x5]) (rest := [.int r13]) (gs := ([gX1 E a φ] : List va_W)) (gc := ([gX1 E a φ] : List va_W)) ⟨hx, hb, hml, hown, hts⟩ (c1_secondOf l E a  (x5) (φ) r15 hr16) (cwV 1 hts (ws_v q987 q530 q531 q19 q532) rfl rfl rfl hdV_X1_secondOf (by rw [hR]; exact ⟨Nat.le_of_ble_eq_true rfl, Nat.le_of_ble_eq_true rfl⟩)) hK hN hP hD [0] rfl (by decide) 0 1 rfl rfl rfl rfl hl.1 rfl (Nat.le_of_ble_eq_true rfl) dX1_meetingPoint_65 (by rw [hR]; exact ⟨Nat.le_of_ble_eq_true rfl, Nat.le_of_ble_eq_true rfl⟩) ?_
          refine W.eq (g2 := F0 m 68 ls [.int r15, .int r13]) rfl ?_
          obtain ⟨r17, hr18, h⟩ := ob h
          refine px_SNp (As := [.int r15]) (rest := [.int r13]) (gs := ([gX1 E a φ] : List va_W)) (gc := ([] : List va_W)) ⟨hx, hb, hml, hown, hts⟩ (c8_setOf l E   (r15)  r17 hr18) ⟨va_cnB 1 hts (ws_g q326) rfl rfl rfl (hN _ (List.mem_of_getElem? (i := 2) rfl)) (hts _ q18) hdS_X8_setOf (by rw [hR]; exact ⟨Nat.le_of_ble_eq_true rfl, Nat.le_of_ble_eq_true rfl⟩), hts _ q325, trivial⟩ hK hN hP hD [] rfl (by decide) rfl hl.1 rfl (Nat.le_of_ble_eq_true rfl) dX1_meetingPoint_68 (by rw [hR]; exact ⟨Nat.le_of_ble_eq_true rfl, Nat.le_of_ble_eq_true rfl⟩) ?_
          refine W.eq (g2 := F0 m 71 ls [.int r17, .int r13]) rfl ?_
          refine lv_ior hx hb dX1_meetingPoint_71 ?_
          refine lv_istore (lv' := [(8, .int (r13 ||| r17)), (7, .int (b2i r8)), (6, .int (b2i r6)), (0, .ref (a 0)), (3, .int x3), (4, .int x4), (5, .int x5)]) hx hb dX1_meetingPoint_72 hl (by decide) rfl (fun ls hl => ?_)
          refine lv_iload_n hx hb dX1_meetingPoint_74 rfl (lv_at hl 4 rfl) ?_
          refine lv_iload hx hb dX1_meetingPoint_75 (lv_at hl 2 rfl) ?_
          refine lv_if_eq (tgt := 85) hx hb dX1_meetingPoint_77 (by decide) (fun c19 => ?_) (fun c19 => ?_)
          · rw [if_pos c19] at h
            refine lv_iconst (v := (nI 0)) hx hb dX1_meetingPoint_85 (by decide) ?_
            refine lv_ior hx hb dX1_meetingPoint_86 ?_
            refine lv_istore_n (lv' := [(3, .int (x3 ||| (nI 0))), (8, .int (r13 ||| r17)), (7, .int (b2i r8)), (6, .int (b2i r6)), (0, .ref (a 0)), (4, .int x4), (5, .int x5)]) hx hb dX1_meetingPoint_87 rfl hl (by decide) rfl (fun ls hl => ?_)
            refine lv_iload hx hb dX1_meetingPoint_88 (lv_at hl 5 rfl) ?_
            refine lv_iload hx hb dX1_meetingPoint_90 (lv_at hl 2 rfl) ?_
            refine lv_if_eq (tgt := 100) hx hb dX1_meetingPoint_92 (by decide) (fun c20 => ?_) (fun c20 => ?_)
            · rw [if_pos c20] at h
              refine lv_iconst (v := (nI 0)) hx hb dX1_meetingPoint_100 (by decide) ?_
              refine lv_ior hx hb dX1_meetingPoint_101 ?_
              refine lv_istore (lv' := [(4, .int (x4 ||| (nI 0))), (3, .int (x3 ||| (nI 0))), (8, .int (r13 ||| r17)), (7, .int (b2i r8)), (6, .int (b2i r6)), (0, .ref (a 0)), (5, .int x5)]) hx hb dX1_meetingPoint_102 hl (by decide) rfl (fun ls hl => ?_)
              refine lv_iinc (v := (x5 + (-1))) (lv' := [(5, .int (x5 + (-1))), (4, .int (x4 ||| (nI 0))), (3, .int (x3 ||| (nI 0))), (8, .int (r13 ||| r17)), (7, .int (b2i r8)), (6, .int (b2i r6)), (0, .ref (a 0))]) hx hb dX1_meetingPoint_104 hl (k := 6) rfl rfl (by decide) rfl (fun ls hl => ?_)
              refine lv_goto (tgt := 18) hx hb dX1_meetingPoint_107 (by decide) ?_
              exact ih ((x3 ||| (nI 0))) ((x4 ||| (nI 0))) ((x5 + (-1))) ls (lv_sub hl [6, 2, 1, 0] rfl) h
            · rw [if_neg c20] at h
              refine lv_iload hx hb dX1_meetingPoint_95 (lv_at hl 1 rfl) ?_
              refine lv_goto (tgt := 101) hx hb dX1_meetingPoint_97 (by decide) ?_
              refine lv_ior hx hb dX1_meetingPoint_101 ?_
              refine lv_istore (lv' := [(4, .int (x4 ||| (r13 ||| r17))), (3, .int (x3 ||| (nI 0))), (8, .int (r13 ||| r17)), (7, .int (b2i r8)), (6, .int (b2i r6)), (0, .ref (a 0)), (5, .int x5)]) hx hb dX1_meetingPoint_102 hl (by decide) rfl (fun ls hl => ?_)
              refine lv_iinc (v := (x5 + (-1))) (lv' := [(5, .int (x5 + (-1))), (4, .int (x4 ||| (r13 ||| r17))), (3, .int (x3 ||| (nI 0))), (8, .int (r13 ||| r17)), (7, .int (b2i r8)), (6, .int (b2i r6)), (0, .ref (a 0))]) hx hb dX1_meetingPoint_104 hl (k := 6) rfl rfl (by decide) rfl (fun ls hl => ?_)
              refine lv_goto (tgt := 18) hx hb dX1_meetingPoint_107 (by decide) ?_
              exact ih ((x3 ||| (nI 0))) ((x4 ||| (r13 ||| r17))) ((x5 + (-1))) ls (lv_sub hl [6, 2, 1, 0] rfl) h
          · rw [if_neg c19] at h
            refine lv_iload hx hb dX1_meetingPoint_80 (lv_at hl 0 rfl) ?_
            refine lv_goto (tgt := 86) hx hb dX1_meetingPoint_82 (by decide) ?_
            refine lv_ior hx hb dX1_meetingPoint_86 ?_
            refine lv_istore_n (lv' := [(3, .int (x3 ||| (r13 ||| r17))), (8, .int (r13 ||| r17)), (7, .int (b2i r8)), (6, .int (b2i r6)), (0, .ref (a 0)), (4, .int x4), (5, .int x5)]) hx hb dX1_meetingPoint_87 rfl hl (by decide) rfl (fun ls hl => ?_)
            refine lv_iload hx hb dX1_meetingPoint_88 (lv_at hl 5 rfl) ?_
            refine lv_iload hx hb dX1_meetingPoint_90 (lv_at hl 2 rfl) ?_
            refine lv_if_eq (tgt := 100) hx hb dX1_meetingPoint_92 (by decide) (fun c21 => ?_) (fun c21 => ?_)
            · rw [if_pos c21] at h
              refine lv_iconst (v := (nI 0)) hx hb dX1_meetingPoint_100 (by decide) ?_
              refine lv_ior hx hb dX1_meetingPoint_101 ?_
              refine lv_istore (lv' := [(4, .int (x4 ||| (nI 0))), (3, .int (x3 ||| (r13 ||| r17))), (8, .int (r13 ||| r17)), (7, .int (b2i r8)), (6, .int (b2i r6)), (0, .ref (a 0)), (5, .int x5)]) hx hb dX1_meetingPoint_102 hl (by decide) rfl (fun ls hl => ?_)
              refine lv_iinc (v := (x5 + (-1))) (lv' := [(5, .int (x5 + (-1))), (4, .int (x4 ||| (nI 0))), (3, .int (x3 ||| (r13 ||| r17))), (8, .int (r13 ||| r17)), (7, .int (b2i r8)), (6, .int (b2i r6)), (0, .ref (a 0))]) hx hb dX1_meetingPoint_104 hl (k := 6) rfl rfl (by decide) rfl (fun ls hl => ?_)
              refine lv_goto (tgt := 18) hx hb dX1_meetingPoint_107 (by decide) ?_
              exact ih ((x3 ||| (r13 ||| r17))) ((x4 ||| (nI 0))) ((x5 + (-1))) ls (lv_sub hl [6, 2, 1, 0] rfl) h
            · rw [if_neg c21] at h
              refine lv_iload hx hb dX1_meetingPoint_95 (lv_at hl 1 rfl) ?_
              refine lv_goto (tgt := 101) hx hb dX1_meetingPoint_97 (by decide) ?_
              refine lv_ior hx hb dX1_meetingPoint_101 ?_
              refine lv_istore (lv' := [(4, .int (x4 ||| (r13 ||| r17))), (3, .int (x3 ||| (r13 ||| r17))), (8, .int (r13 ||| r17)), (7, .int (b2i r8)), (6, .int (b2i r6)), (0, .ref (a 0)), (5, .int x5)]) hx hb dX1_meetingPoint_102 hl (by decide) rfl (fun ls hl => ?_)
              refine lv_iinc (v := (x5 + (-1))) (lv' := [(5, .int (x5 + (-1))), (4, .int (x4 ||| (r13 ||| r17))), (3, .int (x3 ||| (r13 ||| r17))), (8, .int (r13 ||| r17)), (7, .int (b2i r8)), (6, .int (b2i r6)), (0, .ref (a 0))]) hx hb dX1_meetingPoint_104 hl (k := 6) rfl rfl (by decide) rfl (fun ls hl => ?_)
              refine lv_goto (tgt := 18) hx hb dX1_meetingPoint_107 (by decide) ?_
              exact ih ((x3 ||| (r13 ||| r17))) ((x4 ||| (r13 ||| r17))) ((x5 + (-1))) ls (lv_sub hl [6, 2, 1, 0] rfl) h
        · rw [if_neg c10] at h
          refine lv_iload hx hb dX1_meetingPoint_45 (lv_at hl 0 rfl) ?_
          refine lv_if_eq (tgt := 53) hx hb dX1_meetingPoint_47 (by decide) (fun c22 => ?_) (fun c22 => ?_)
          · rw [if_pos c22] at h
            refine lv_aload_n hx hb dX1_meetingPoint_53 rfl (lv_at hl 2 rfl) ?_
            refine lv_iload hx hb dX1_meetingPoint_54 (lv_at hl 5 rfl) ?_
            obtain ⟨r23, hr24, h⟩ := ob h
            refine px_Vp (As := [.int x5]) (rest := []) (gs := ([gX1 E a φ] : List va_W)) (gc := ([gX1 E a φ] : List va_W)) ⟨hx, hb, hml, hown, hts⟩ (c1_firstOf l E a  (x5) (φ) r23 hr24) (cwV 1 hts (ws_v q537 q526 q527 q19 q528) rfl rfl rfl hdV_X1_firstOf (by rw [hR]; exact ⟨Nat.le_of_ble_eq_true rfl, Nat.le_of_ble_eq_true rfl⟩)) hK hN hP hD [0] rfl (by decide) 0 1 rfl rfl rfl rfl hl.1 rfl (Nat.le_of_ble_eq_true rfl) dX1_meetingPoint_56 (by rw [hR]; exact ⟨Nat.le_of_ble_eq_true rfl, Nat.le_of_ble_eq_true rfl⟩) ?_
            refine W.eq (g2 := F0 m 59 ls [.int r23]) rfl ?_
            obtain ⟨r25, hr26, h⟩ := ob h
            refine px_SNp (As := [.int r23]) (rest := []) (gs := ([gX1 E a φ] : List va_W)) (gc := ([] : List va_W)) ⟨hx, hb, hml, hown, hts⟩ (c8_setOf l E   (r23)  r25 hr26) ⟨va_cnB 1 hts (ws_g q326) rfl rfl rfl (hN _ (List.mem_of_getElem? (i := 2) rfl)) (hts _ q18) hdS_X8_setOf (by rw [hR]; exact ⟨Nat.le_of_ble_eq_true rfl, Nat.le_of_ble_eq_true rfl⟩), hts _ q325, trivial⟩ hK hN hP hD [] rfl (by decide) rfl hl.1 rfl (Nat.le_of_ble_eq_true rfl) dX1_meetingPoint_59 (by rw [hR]; exact ⟨Nat.le_of_ble_eq_true rfl, Nat.le_of_ble_eq_true rfl⟩) ?_
            refine W.eq (g2 := F0 m 62 ls [.int r25]) rfl ?_
            refine lv_aload_n hx hb dX1_meetingPoint_62 rfl (lv_at hl 2 rfl) ?_
            refine lv_iload hx hb dX1_meetingPoint_63 (lv_at hl 5 rfl) ?_
            obtain ⟨r27, hr28, h⟩ := ob h
            refine px_Vp (As := [.int x5]) (rest := [.int r25]) (gs := ([gX1 E a φ] : List va_W)) (gc := ([gX1 E a φ] : List va_W)) ⟨hx, hb, hml, hown, hts⟩ (c1_secondOf l E a  (x5) (φ) r27 hr28) (cwV 1 hts (ws_v q987 q530 q531 q19 q532) rfl rfl rfl hdV_X1_secondOf (by rw [hR]; exact ⟨Nat.le_of_ble_eq_true rfl, Nat.le_of_ble_eq_true rfl⟩)) hK hN hP hD [0] rfl (by decide) 0 1 rfl rfl rfl rfl hl.1 rfl (Nat.le_of_ble_eq_true rfl) dX1_meetingPoint_65 (by rw [hR]; exact ⟨Nat.le_of_ble_eq_true rfl, Nat.le_of_ble_eq_true rfl⟩) ?_
            refine W.eq (g2 := F0 m 68 ls [.int r27, .int r25]) rfl ?_
            obtain ⟨r29, hr30, h⟩ := ob h
            refine px_SNp (As := [.int r27]) (rest := [.int r25]) (gs := ([gX1 E a φ] : List va_W)) (gc := ([] : List va_W)) ⟨hx, hb, hml, hown, hts⟩ (c8_setOf l E   (r27)  r29 hr30) ⟨va_cnB 1 hts (ws_g q326) rfl rfl rfl (hN _ (List.mem_of_getElem? (i := 2) rfl)) (hts _ q18) hdS_X8_setOf (by rw [hR]; exact ⟨Nat.le_of_ble_eq_true rfl, Nat.le_of_ble_eq_true rfl⟩), hts _ q325, trivial⟩ hK hN hP hD [] rfl (by decide) rfl hl.1 rfl (Nat.le_of_ble_eq_true rfl) dX1_meetingPoint_68 (by rw [hR]; exact ⟨Nat.le_of_ble_eq_true rfl, Nat.le_of_ble_eq_true rfl⟩) ?_
            refine W.eq (g2 := F0 m 71 ls [.int r29, .int r25]) rfl ?_
            refine lv_ior hx hb dX1_meetingPoint_71 ?_
            refine lv_istore (lv' := [(8, .int (r25 ||| r29)), (7, .int (b2i r8)), (6, .int (b2i r6)), (0, .ref (a 0)), (3, .int x3), (4, .int x4), (5, .int x5)]) hx hb dX1_meetingPoint_72 hl (by decide) rfl (fun ls hl => ?_)
            refine lv_iload_n hx hb dX1_meetingPoint_74 rfl (lv_at hl 4 rfl) ?_
            refine lv_iload hx hb dX1_meetingPoint_75 (lv_at hl 2 rfl) ?_
            refine lv_if_eq (tgt := 85) hx hb dX1_meetingPoint_77 (by decide) (fun c31 => ?_) (fun c31 => ?_)
            · rw [if_pos c31] at h
              refine lv_iconst (v := (nI 0)) hx hb dX1_meetingPoint_85 (by decide) ?_
              refine lv_ior hx hb dX1_meetingPoint_86 ?_
              refine lv_istore_n (lv' := [(3, .int (x3 ||| (nI 0))), (8, .int (r25 ||| r29)), (7, .int (b2i r8)), (6, .int (b2i r6)), (0, .ref (a 0)), (4, .int x4), (5, .int x5)]) hx hb dX1_meetingPoint_87 rfl hl (by decide) rfl (fun ls hl => ?_)
              refine lv_iload hx hb dX1_meetingPoint_88 (lv_at hl 5 rfl) ?_
              refine lv_iload hx hb dX1_meetingPoint_90 (lv_at hl 2 rfl) ?_
              refine lv_if_eq (tgt := 100) hx hb dX1_meetingPoint_92 (by decide) (fun c32 => ?_) (fun c32 => ?_)
              · rw [if_pos c32] at h
                refine lv_iconst (v := (nI 0)) hx hb dX1_meetingPoint_100 (by decide) ?_
                refine lv_ior hx hb dX1_meetingPoint_101 ?_
                refine lv_istore (lv' := [(4, .int (x4 ||| (nI 0))), (3, .int (x3 ||| (nI 0))), (8, .int (r25 ||| r29)), (7, .int (b2i r8)), (6, .int (b2i r6)), (0, .ref (a 0)), (5, .int x5)]) hx hb dX1_meetingPoint_102 hl (by decide) rfl (fun ls hl => ?_)
                refine lv_iinc (v := (x5 + (-1))) (lv' := [(5, .int (x5 + (-1))), (4, .int (x4 ||| (nI 0))), (3, .int (x3 ||| (nI 0))), (8, .int (r25 ||| r29)), (7, .int (b2i r8)), (6, .int (b2i r6)), (0, .ref (a 0))]) hx hb dX1_meetingPoint_104 hl (k := 6) rfl rfl (by decide) rfl (fun ls hl => ?_)
                refine lv_goto (tgt := 18) hx hb dX1_meetingPoint_107 (by decide) ?_
                exact ih ((x3 ||| (nI 0))) ((x4 ||| (nI 0))) ((x5 + (-1))) ls (lv_sub hl [6, 2, 1, 0] rfl) h
              · rw [if_neg c32] at h
                refine lv_iload hx hb dX1_meetingPoint_95 (lv_at hl 1 rfl) ?_
                refine lv_goto (tgt := 101) hx hb dX1_meetingPoint_97 (by decide) ?_
                refine lv_ior hx hb dX1_meetingPoint_101 ?_
                refine lv_istore (lv' := [(4, .int (x4 ||| (r25 ||| r29))), (3, .int (x3 ||| (nI 0))), (8, .int (r25 ||| r29)), (7, .int (b2i r8)), (6, .int (b2i r6)), (0, .ref (a 0)), (5, .int x5)]) hx hb dX1_meetingPoint_102 hl (by decide) rfl (fun ls hl => ?_)
                refine lv_iinc (v := (x5 + (-1))) (lv' := [(5, .int (x5 + (-1))), (4, .int (x4 ||| (r25 ||| r29))), (3, .int (x3 ||| (nI 0))), (8, .int (r25 ||| r29)), (7, .int (b2i r8)), (6, .int (b2i r6)), (0, .ref (a 0))]) hx hb dX1_meetingPoint_104 hl (k := 6) rfl rfl (by decide) rfl (fun ls hl => ?_)
                refine lv_goto (tgt := 18) hx hb dX1_meetingPoint_107 (by decide) ?_
                exact ih ((x3 ||| (nI 0))) ((x4 ||| (r25 ||| r29))) ((x5 + (-1))) ls (lv_sub hl [6, 2, 1, 0] rfl) h
            · rw [if_neg c31] at h
              refine lv_iload hx hb dX1_meetingPoint_80 (lv_at hl 0 rfl) ?_
              refine lv_goto (tgt := 86) hx hb dX1_meetingPoint_82 (by decide) ?_
              refine lv_ior hx hb dX1_meetingPoint_86 ?_
              refine lv_istore_n (lv' := [(3, .int (x3 ||| (r25 ||| r29))), (8, .int (r25 ||| r29)), (7, .int (b2i r8)), (6, .int (b2i r6)), (0, .ref (a 0)), (4, .int x4), (5, .int x5)]) hx hb dX1_meetingPoint_87 rfl hl (by decide) rfl (fun ls hl => ?_)
              refine lv_iload hx hb dX1_meetingPoint_88 (lv_at hl 5 rfl) ?_
              refine lv_iload hx hb dX1_meetingPoint_90 (lv_at hl 2 rfl) ?_
              refine lv_if_eq (tgt := 100) hx hb dX1_meetingPoint_92 (by decide) (fun c33 => ?_) (fun c33 => ?_)
              · rw [if_pos c33] at h
                refine lv_iconst (v := (nI 0)) hx hb dX1_meetingPoint_100 (by decide) ?_
                refine lv_ior hx hb dX1_meetingPoint_101 ?_
                refine lv_istore (lv' := [(4, .int (x4 ||| (nI 0))), (3, .int (x3 ||| (r25 ||| r29))), (8, .int (r25 ||| r29)), (7, .int (b2i r8)), (6, .int (b2i r6)), (0, .ref (a 0)), (5, .int x5)]) hx hb dX1_meetingPoint_102 hl (by decide) rfl (fun ls hl => ?_)
                refine lv_iinc (v := (x5 + (-1))) (lv' := [(5, .int (x5 + (-1))), (4, .int (x4 ||| (nI 0))), (3, .int (x3 ||| (r25 ||| r29))), (8, .int (r25 ||| r29)), (7, .int (b2i r8)), (6, .int (b2i r6)), (0, .ref (a 0))]) hx hb dX1_meetingPoint_104 hl (k := 6) rfl rfl (by decide) rfl (fun ls hl => ?_)
                refine lv_goto (tgt := 18) hx hb dX1_meetingPoint_107 (by decide) ?_
                exact ih ((x3 ||| (r25 ||| r29))) ((x4 ||| (nI 0))) ((x5 + (-1))) ls (lv_sub hl [6, 2, 1, 0] rfl) h
              · rw [if_neg c33] at h
                refine lv_iload hx hb dX1_meetingPoint_95 (lv_at hl 1 rfl) ?_
                refine lv_goto (tgt := 101) hx hb dX1_meetingPoint_97 (by decide) ?_
                refine lv_ior hx hb dX1_meetingPoint_101 ?_
                refine lv_istore (lv' := [(4, .int (x4 ||| (r25 ||| r29))), (3, .int (x3 ||| (r25 ||| r29))), (8, .int (r25 ||| r29)), (7, .int (b2i r8)), (6, .int (b2i r6)), (0, .ref (a 0)), (5, .int x5)]) hx hb dX1_meetingPoint_102 hl (by decide) rfl (fun ls hl => ?_)
                refine lv_iinc (v := (x5 + (-1))) (lv' := [(5, .int (x5 + (-1))), (4, .int (x4 ||| (r25 ||| r29))), (3, .int (x3 ||| (r25 ||| r29))), (8, .int (r25 ||| r29)), (7, .int (b2i r8)), (6, .int (b2i r6)), (0, .ref (a 0))]) hx hb dX1_meetingPoint_104 hl (k := 6) rfl rfl (by decide) rfl (fun ls hl => ?_)
                refine lv_goto (tgt := 18) hx hb dX1_meetingPoint_107 (by decide) ?_
                exact ih ((x3 ||| (r25 ||| r29))) ((x4 ||| (r25 ||| r29))) ((x5 + (-1))) ls (lv_sub hl [6, 2, 1, 0] rfl) h
          · rw [if_neg c22] at h
            refine lv_iload hx hb dX1_meetingPoint_50 (lv_at hl 5 rfl) ?_
            cases h
            exact px_ePi hQ hx hb hr hlocks dX1_meetingPoint_52
  refine lv_iload_n hx hb dX1_meetingPoint_0 rfl (lv_at hl 1 rfl) ?_
  obtain ⟨r1, hr2, h⟩ := ob h
  refine px_SNp (As := [.int x1]) (rest := []) (gs := ([gX1 E a φ] : List va_W)) (gc := ([] : List va_W)) ⟨hx, hb, hml, hown, hts⟩ (c8_setOf l E   (x1)  r1 hr2) ⟨va_cnB 1 hts (ws_g q326) rfl rfl rfl (hN _ (List.mem_of_getElem? (i := 2) rfl)) (hts _ q18) hdS_X8_setOf (by rw [hR]; exact ⟨Nat.le_of_ble_eq_true rfl, Nat.le_of_ble_eq_true rfl⟩), hts _ q325, trivial⟩ hK hN hP hD [] rfl (by decide) rfl hl.1 rfl (Nat.le_of_ble_eq_true rfl) dX1_meetingPoint_1 (by rw [hR]; exact ⟨Nat.le_of_ble_eq_true rfl, Nat.le_of_ble_eq_true rfl⟩) ?_
  refine W.eq (g2 := F0 m 4 ls [.int r1]) rfl ?_
  refine lv_istore_n (lv' := [(3, .int r1), (0, .ref (a 0)), (1, .int x1), (2, .int x2)]) hx hb dX1_meetingPoint_4 rfl hl (by decide) rfl (fun ls hl => ?_)
  refine lv_iload_n hx hb dX1_meetingPoint_5 rfl (lv_at hl 3 rfl) ?_
  obtain ⟨r3, hr4, h⟩ := ob h
  refine px_SNp (As := [.int x2]) (rest := []) (gs := ([gX1 E a φ] : List va_W)) (gc := ([] : List va_W)) ⟨hx, hb, hml, hown, hts⟩ (c8_setOf l E   (x2)  r3 hr4) ⟨va_cnB 1 hts (ws_g q326) rfl rfl rfl (hN _ (List.mem_of_getElem? (i := 2) rfl)) (hts _ q18) hdS_X8_setOf (by rw [hR]; exact ⟨Nat.le_of_ble_eq_true rfl, Nat.le_of_ble_eq_true rfl⟩), hts _ q325, trivial⟩ hK hN hP hD [] rfl (by decide) rfl hl.1 rfl (Nat.le_of_ble_eq_true rfl) dX1_meetingPoint_6 (by rw [hR]; exact ⟨Nat.le_of_ble_eq_true rfl, Nat.le_of_ble_eq_true rfl⟩) ?_
  refine W.eq (g2 := F0 m 9 ls [.int r3]) rfl ?_
  refine lv_istore (lv' := [(4, .int r3), (3, .int r1), (0, .ref (a 0)), (1, .int x1), (2, .int x2)]) hx hb dX1_meetingPoint_9 hl (by decide) rfl (fun ls hl => ?_)
  refine lv_iload_n hx hb dX1_meetingPoint_11 rfl (lv_at hl 3 rfl) ?_
  refine lv_iload_n hx hb dX1_meetingPoint_12 rfl (lv_at hl 4 rfl) ?_
  refine va_mmax hx hb (hml.trans hl.1.symm) hown (hts _ q335) (hts _ q336) (hts _ q32) (hts _ q337) (by rw [hR]; exact Nat.le_of_ble_eq_true rfl) (by rw [hR]; exact Nat.le_of_ble_eq_true rfl) (by rw [hR]; exact Nat.le_of_ble_eq_true rfl) (by rw [hR]; exact Nat.le_of_ble_eq_true rfl) dX1_meetingPoint_13 ?_
  refine lv_istore (lv' := [(5, .int (if x1 < x2 then x2 else x1)), (4, .int r3), (3, .int r1), (0, .ref (a 0)), (1, .int x1), (2, .int x2)]) hx hb dX1_meetingPoint_16 hl (by decide) rfl (fun ls hl => ?_)
  exact L18 fuel (r1) (r3) ((if x1 < x2 then x2 else x1)) ls (lv_sub hl [3, 2, 1, 0] rfl) h
def f1_isBornWell (x1 : Int32) (φ : Fo) : Option (Bool) := ((f1_firstOf (x1) (φ)).bind fun r1 => (if x1 ≤ r1 then (some false) else ((f1_secondOf (x1) (φ)).bind fun r4 => (if r4 < x1 then (if r1 = (-1 : Int32) then (some true) else ((f1_kindOf (x1) (φ)).bind fun r8 => (if r8 = 0 then ((f1_changedIn (x1) (φ)).bind fun r11 => (if r11 = (nI 1) then (some true) else (some false))) else (some true)))) else (some false)))))
set_option maxHeartbeats 4000000 in
set_option maxRecDepth 100000 in
theorem c1_isBornWell (l : Launch) (E : PE) (a : Nat → Nat)  (x1 : Int32) (φ : Fo) (r : Bool) (h : f1_isBornWell x1 φ = some r) : MP l yX1_isBornWell cX1_isBornWell 3 (some .boolean) { frames := 2, cells := 0, slots := 0, locals := 46 } E [.ref (a 0), .int x1] ([gX1 E a φ] : List va_W).flatten (some (.int (b2i r))) := by
  refine px_startP (by decide +kernel) (Nat.le_of_ble_eq_true rfl) ?_
  intro p e s m args below meth c R Q A ls hC hQ
  obtain ⟨hx, hb, hr, hml, hts, hown, hlocks, hR, hK, hN, hP, hD, hA, hl, hin⟩ := hC
  have hl : lv_has ls 3 [(0, .ref (a 0)), (1, .int x1)] := hl
  unfold f1_isBornWell at h
  refine lv_aload_n hx hb dX1_isBornWell_0 rfl (lv_at hl 0 rfl) ?_
  refine lv_iload_n hx hb dX1_isBornWell_1 rfl (lv_at hl 1 rfl) ?_
  obtain ⟨r1, hr2, h⟩ := ob h
  refine px_Vp (As := [.int x1]) (rest := []) (gs := ([gX1 E a φ] : List va_W)) (gc := ([gX1 E a φ] : List va_W)) ⟨hx, hb, hml, hown, hts⟩ (c1_firstOf l E a  (x1) (φ) r1 hr2) (cwV 1 hts (ws_v q537 q526 q527 q19 q528) rfl rfl rfl hdV_X1_firstOf (by rw [hR]; exact ⟨Nat.le_of_ble_eq_true rfl, Nat.le_of_ble_eq_true rfl⟩)) hK hN hP hD [0] rfl (by decide) 0 1 rfl rfl rfl rfl hl.1 rfl (Nat.le_of_ble_eq_true rfl) dX1_isBornWell_2 (by rw [hR]; exact ⟨Nat.le_of_ble_eq_true rfl, Nat.le_of_ble_eq_true rfl⟩) ?_
  refine W.eq (g2 := F0 m 5 ls [.int r1]) rfl ?_
  refine lv_istore_n (lv' := [(2, .int r1), (0, .ref (a 0)), (1, .int x1)]) hx hb dX1_isBornWell_5 rfl hl (by decide) rfl (fun ls hl => ?_)
  refine lv_iload_n hx hb dX1_isBornWell_6 rfl (lv_at hl 0 rfl) ?_
  refine lv_iload_n hx hb dX1_isBornWell_7 rfl (lv_at hl 2 rfl) ?_
  refine lv_icmp_ge (tgt := 20) hx hb dX1_isBornWell_8 (by decide) (fun c3 => ?_) (fun c3 => ?_)
  · rw [if_pos c3] at h
    refine lv_iconst (v := (nI 0)) hx hb dX1_isBornWell_20 (by decide) ?_
    cases h
    refine W.eq (g2 := F0 m 21 ls [.int (b2i false)]) rfl ?_
    exact px_ePz (b2i_n _) hQ hx hb hr hlocks dX1_isBornWell_21
  · rw [if_neg c3] at h
    refine lv_aload_n hx hb dX1_isBornWell_11 rfl (lv_at hl 1 rfl) ?_
    refine lv_iload_n hx hb dX1_isBornWell_12 rfl (lv_at hl 2 rfl) ?_
    obtain ⟨r4, hr5, h⟩ := ob h
    refine px_Vp (As := [.int x1]) (rest := []) (gs := ([gX1 E a φ] : List va_W)) (gc := ([gX1 E a φ] : List va_W)) ⟨hx, hb, hml, hown, hts⟩ (c1_secondOf l E a  (x1) (φ) r4 hr5) (cwV 1 hts (ws_v q987 q530 q531 q19 q532) rfl rfl rfl hdV_X1_secondOf (by rw [hR]; exact ⟨Nat.le_of_ble_eq_true rfl, Nat.le_of_ble_eq_true rfl⟩)) hK hN hP hD [0] rfl (by decide) 0 1 rfl rfl rfl rfl hl.1 rfl (Nat.le_of_ble_eq_true rfl) dX1_isBornWell_13 (by rw [hR]; exact ⟨Nat.le_of_ble_eq_true rfl, Nat.le_of_ble_eq_true rfl⟩) ?_
    refine W.eq (g2 := F0 m 16 ls [.int r4]) rfl ?_
    refine lv_iload_n hx hb dX1_isBornWell_16 rfl (lv_at hl 2 rfl) ?_
    refine lv_icmp_lt (tgt := 22) hx hb dX1_isBornWell_17 (by decide) (fun c6 => ?_) (fun c6 => ?_)
    · rw [if_pos c6] at h
      refine lv_iload_n hx hb dX1_isBornWell_22 rfl (lv_at hl 0 rfl) ?_
      refine lv_iconst (v := (-1 : Int32)) hx hb dX1_isBornWell_23 (by decide) ?_
      refine lv_icmp_eq (tgt := 44) hx hb dX1_isBornWell_24 (by decide) (fun c7 => ?_) (fun c7 => ?_)
      · rw [if_pos c7] at h
        refine lv_iconst (v := (nI 1)) hx hb dX1_isBornWell_44 (by decide) ?_
        refine lv_goto (tgt := 49) hx hb dX1_isBornWell_45 (by decide) ?_
        cases h
        refine W.eq (g2 := F0 m 49 ls [.int (b2i true)]) rfl ?_
        exact px_ePz (b2i_n _) hQ hx hb hr hlocks dX1_isBornWell_49
      · rw [if_neg c7] at h
        refine lv_aload_n hx hb dX1_isBornWell_27 rfl (lv_at hl 1 rfl) ?_
        refine lv_iload_n hx hb dX1_isBornWell_28 rfl (lv_at hl 2 rfl) ?_
        obtain ⟨r8, hr9, h⟩ := ob h
        refine px_Vp (As := [.int x1]) (rest := []) (gs := ([gX1 E a φ] : List va_W)) (gc := ([gX1 E a φ] : List va_W)) ⟨hx, hb, hml, hown, hts⟩ (c1_kindOf l E a  (x1) (φ) r8 hr9) (cwV 1 hts (ws_v q860 q522 q523 q19 q524) rfl rfl rfl hdV_X1_kindOf (by rw [hR]; exact ⟨Nat.le_of_ble_eq_true rfl, Nat.le_of_ble_eq_true rfl⟩)) hK hN hP hD [0] rfl (by decide) 0 1 rfl rfl rfl rfl hl.1 rfl (Nat.le_of_ble_eq_true rfl) dX1_isBornWell_29 (by rw [hR]; exact ⟨Nat.le_of_ble_eq_true rfl, Nat.le_of_ble_eq_true rfl⟩) ?_
        refine W.eq (g2 := F0 m 32 ls [.int r8]) rfl ?_
        refine lv_if_ne (tgt := 44) hx hb dX1_isBornWell_32 (by decide) (fun c10 => ?_) (fun c10 => ?_)
        · rw [if_neg c10] at h
          refine lv_iconst (v := (nI 1)) hx hb dX1_isBornWell_44 (by decide) ?_
          refine lv_goto (tgt := 49) hx hb dX1_isBornWell_45 (by decide) ?_
          cases h
          refine W.eq (g2 := F0 m 49 ls [.int (b2i true)]) rfl ?_
          exact px_ePz (b2i_n _) hQ hx hb hr hlocks dX1_isBornWell_49
        · rw [if_pos c10] at h
          refine lv_aload_n hx hb dX1_isBornWell_35 rfl (lv_at hl 1 rfl) ?_
          refine lv_iload_n hx hb dX1_isBornWell_36 rfl (lv_at hl 2 rfl) ?_
          obtain ⟨r11, hr12, h⟩ := ob h
          refine px_Vp (As := [.int x1]) (rest := []) (gs := ([gX1 E a φ] : List va_W)) (gc := ([gX1 E a φ] : List va_W)) ⟨hx, hb, hml, hown, hts⟩ (c1_changedIn l E a  (x1) (φ) r11 hr12) (cwV 1 hts (ws_v q988 q534 q535 q19 q536) rfl rfl rfl hdV_X1_changedIn (by rw [hR]; exact ⟨Nat.le_of_ble_eq_true rfl, Nat.le_of_ble_eq_true rfl⟩)) hK hN hP hD [0] rfl (by decide) 0 1 rfl rfl rfl rfl hl.1 rfl (Nat.le_of_ble_eq_true rfl) dX1_isBornWell_37 (by rw [hR]; exact ⟨Nat.le_of_ble_eq_true rfl, Nat.le_of_ble_eq_true rfl⟩) ?_
          refine W.eq (g2 := F0 m 40 ls [.int r11]) rfl ?_
          refine lv_iconst (v := (nI 1)) hx hb dX1_isBornWell_40 (by decide) ?_
          refine lv_icmp_ne (tgt := 48) hx hb dX1_isBornWell_41 (by decide) (fun c13 => ?_) (fun c13 => ?_)
          · rw [if_neg c13] at h
            refine lv_iconst (v := (nI 0)) hx hb dX1_isBornWell_48 (by decide) ?_
            cases h
            refine W.eq (g2 := F0 m 49 ls [.int (b2i false)]) rfl ?_
            exact px_ePz (b2i_n _) hQ hx hb hr hlocks dX1_isBornWell_49
          · rw [if_pos c13] at h
            refine lv_iconst (v := (nI 1)) hx hb dX1_isBornWell_44 (by decide) ?_
            refine lv_goto (tgt := 49) hx hb dX1_isBornWell_45 (by decide) ?_
            cases h
            refine W.eq (g2 := F0 m 49 ls [.int (b2i true)]) rfl ?_
            exact px_ePz (b2i_n _) hQ hx hb hr hlocks dX1_isBornWell_49
    · rw [if_neg c6] at h
      refine lv_iconst (v := (nI 0)) hx hb dX1_isBornWell_20 (by decide) ?_
      cases h
      refine W.eq (g2 := F0 m 21 ls [.int (b2i false)]) rfl ?_
      exact px_ePz (b2i_n _) hQ hx hb hr hlocks dX1_isBornWell_21
def f1_areBasesSame_L2 (x1 : Int32) (φ : Fo) : Nat → Int32 → Option (Bool)
  | 0, _ => none
  | n + 1, x2 => (if x1 < x2 then (some true) else ((f1_commonGround (x1) (x2) (φ)).bind fun r2 => ((f1_meetingPoint (x1) (x2) (φ)).bind fun r4 => (if r2 = r4 then ((f1_meetingPoint (x2) (x1) (φ)).bind fun r7 => (if r2 = r7 then (f1_areBasesSame_L2 x1 φ n ((x2 + nI 1))) else (some false))) else (some false)))))
def f1_areBasesSame (x1 : Int32) (φ : Fo) : Option (Bool) := (f1_areBasesSame_L2 x1 φ fuel ((nI 0)))
set_option maxHeartbeats 4000000 in
set_option maxRecDepth 100000 in
theorem c1_areBasesSame (l : Launch) (E : PE) (a : Nat → Nat)  (x1 : Int32) (φ : Fo) (r : Bool) (h : f1_areBasesSame x1 φ = some r) : MP l yX1_areBasesSame cX1_areBasesSame 4 (some .boolean) { frames := 2, cells := 0, slots := 0, locals := 49 } E [.ref (a 0), .int x1] ([gX1 E a φ] : List va_W).flatten (some (.int (b2i r))) := by
  refine px_startP (by decide +kernel) (Nat.le_of_ble_eq_true rfl) ?_
  intro p e s m args below meth c R Q A ls hC hQ
  obtain ⟨hx, hb, hr, hml, hts, hown, hlocks, hR, hK, hN, hP, hD, hA, hl, hin⟩ := hC
  have hl : lv_has ls 4 [(0, .ref (a 0)), (1, .int x1)] := hl
  unfold f1_areBasesSame at h
  have L2 : ∀ (n : Nat) (x2 : Int32) (ls : Array Slot), lv_has ls 4 [(0, .ref (a 0)), (1, .int x1), (2, .int x2)] → f1_areBasesSame_L2 x1 φ n x2 = some r → W p l e R s m args below meth c s.heap [] 0 0 Q (F0 m 2 ls []) := by
    intro n
    induction n with
    | zero =>
      intro x2 ls hl h
      unfold f1_areBasesSame_L2 at h; cases h
    | succ n ih =>
      intro x2 ls hl h
      unfold f1_areBasesSame_L2 at h
      refine lv_iload_n hx hb dX1_areBasesSame_2 rfl (lv_at hl 2 rfl) ?_
      refine lv_iload_n hx hb dX1_areBasesSame_3 rfl (lv_at hl 1 rfl) ?_
      refine lv_icmp_gt (tgt := 42) hx hb dX1_areBasesSame_4 (by decide) (fun c1 => ?_) (fun c1 => ?_)
      · rw [if_pos c1] at h
        refine lv_iconst (v := (nI 1)) hx hb dX1_areBasesSame_42 (by decide) ?_
        cases h
        refine W.eq (g2 := F0 m 43 ls [.int (b2i true)]) rfl ?_
        exact px_ePz (b2i_n _) hQ hx hb hr hlocks dX1_areBasesSame_43
      · rw [if_neg c1] at h
        refine lv_aload_n hx hb dX1_areBasesSame_7 rfl (lv_at hl 0 rfl) ?_
        refine lv_iload_n hx hb dX1_areBasesSame_8 rfl (lv_at hl 1 rfl) ?_
        refine lv_iload_n hx hb dX1_areBasesSame_9 rfl (lv_at hl 2 rfl) ?_
        obtain ⟨r2, hr3, h⟩ := ob h
        refine px_Vp (As := [.int x1, .int x2]) (rest := []) (gs := ([gX1 E a φ] : List va_W)) (gc := ([gX1 E a φ] : List va_W)) ⟨hx, hb, hml, hown, hts⟩ (c1_commonGround l E a  (x1) (x2) (φ) r2 hr3) (cwV 2 hts (ws_v q993 q570 q571 q19 q572) rfl rfl rfl hdV_X1_commonGround (by rw [hR]; exact ⟨Nat.le_of_ble_eq_true rfl, Nat.le_of_ble_eq_true rfl⟩)) hK hN hP hD [0] rfl (by decide) 0 1 rfl rfl rfl rfl hl.1 rfl (Nat.le_of_ble_eq_true rfl) dX1_areBasesSame_10 (by rw [hR]; exact ⟨Nat.le_of_ble_eq_true rfl, Nat.le_of_ble_eq_true rfl⟩) ?_
        refine W.eq (g2 := F0 m 13 ls [.int r2]) rfl ?_
        refine lv_istore_n (lv' := [(3, .int r2), (0, .ref (a 0)), (1, .int x1), (2, .int x2)]) hx hb dX1_areBasesSame_13 rfl hl (by decide) rfl (fun ls hl => ?_)
        refine lv_iload_n hx hb dX1_areBasesSame_14 rfl (lv_at hl 0 rfl) ?_
        refine lv_aload_n hx hb dX1_areBasesSame_15 rfl (lv_at hl 1 rfl) ?_
        refine lv_iload_n hx hb dX1_areBasesSame_16 rfl (lv_at hl 2 rfl) ?_
        refine lv_iload_n hx hb dX1_areBasesSame_17 rfl (lv_at hl 3 rfl) ?_
        obtain ⟨r4, hr5, h⟩ := ob h
        refine px_Vp (As := [.int x1, .int x2]) (rest := [.int r2]) (gs := ([gX1 E a φ] : List va_W)) (gc := ([gX1 E a φ] : List va_W)) ⟨hx, hb, hml, hown, hts⟩ (c1_meetingPoint l E a  (x1) (x2) (φ) r4 hr5) (cwV 2 hts (ws_v q994 q995 q996 q19 q997) rfl rfl rfl hdV_X1_meetingPoint (by rw [hR]; exact ⟨Nat.le_of_ble_eq_true rfl, Nat.le_of_ble_eq_true rfl⟩)) hK hN hP hD [0] rfl (by decide) 0 1 rfl rfl rfl rfl hl.1 rfl (Nat.le_of_ble_eq_true rfl) dX1_areBasesSame_18 (by rw [hR]; exact ⟨Nat.le_of_ble_eq_true rfl, Nat.le_of_ble_eq_true rfl⟩) ?_
        refine W.eq (g2 := F0 m 21 ls [.int r4, .int r2]) rfl ?_
        refine lv_icmp_ne (tgt := 34) hx hb dX1_areBasesSame_21 (by decide) (fun c6 => ?_) (fun c6 => ?_)
        · rw [if_neg c6] at h
          refine lv_iconst (v := (nI 0)) hx hb dX1_areBasesSame_34 (by decide) ?_
          cases h
          refine W.eq (g2 := F0 m 35 ls [.int (b2i false)]) rfl ?_
          exact px_ePz (b2i_n _) hQ hx hb hr hlocks dX1_areBasesSame_35
        · rw [if_pos c6] at h
          refine lv_iload_n hx hb dX1_areBasesSame_24 rfl (lv_at hl 0 rfl) ?_
          refine lv_aload_n hx hb dX1_areBasesSame_25 rfl (lv_at hl 1 rfl) ?_
          refine lv_iload_n hx hb dX1_areBasesSame_26 rfl (lv_at hl 3 rfl) ?_
          refine lv_iload_n hx hb dX1_areBasesSame_27 rfl (lv_at hl 2 rfl) ?_
          obtain ⟨r7, hr8, h⟩ := ob h
          refine px_Vp (As := [.int x2, .int x1]) (rest := [.int r2]) (gs := ([gX1 E a φ] : List va_W)) (gc := ([gX1 E a φ] : List va_W)) ⟨hx, hb, hml, hown, hts⟩ (c1_meetingPoint l E a  (x2) (x1) (φ) r7 hr8) (cwV 2 hts (ws_v q994 q995 q996 q19 q997) rfl rfl rfl hdV_X1_meetingPoint (by rw [hR]; exact ⟨Nat.le_of_ble_eq_true rfl, Nat.le_of_ble_eq_true rfl⟩)) hK hN hP hD [0] rfl (by decide) 0 1 rfl rfl rfl rfl hl.1 rfl (Nat.le_of_ble_eq_true rfl) dX1_areBasesSame_28 (by rw [hR]; exact ⟨Nat.le_of_ble_eq_true rfl, Nat.le_of_ble_eq_true rfl⟩) ?_
          refine W.eq (g2 := F0 m 31 ls [.int r7, .int r2]) rfl ?_
          refine lv_icmp_eq (tgt := 36) hx hb dX1_areBasesSame_31 (by decide) (fun c9 => ?_) (fun c9 => ?_)
          · rw [if_pos c9] at h
            refine lv_iinc (v := (x2 + nI 1)) (lv' := [(2, .int (x2 + nI 1)), (3, .int r2), (0, .ref (a 0)), (1, .int x1)]) hx hb dX1_areBasesSame_36 hl (k := 3) rfl rfl (by decide) rfl (fun ls hl => ?_)
            refine lv_goto (tgt := 2) hx hb dX1_areBasesSame_39 (by decide) ?_
            exact ih ((x2 + nI 1)) ls (lv_sub hl [2, 3, 0] rfl) h
          · rw [if_neg c9] at h
            refine lv_iconst (v := (nI 0)) hx hb dX1_areBasesSame_34 (by decide) ?_
            cases h
            refine W.eq (g2 := F0 m 35 ls [.int (b2i false)]) rfl ?_
            exact px_ePz (b2i_n _) hQ hx hb hr hlocks dX1_areBasesSame_35
  refine lv_iconst (v := (nI 0)) hx hb dX1_areBasesSame_0 (by decide) ?_
  refine lv_istore_n (lv' := [(2, .int (nI 0)), (0, .ref (a 0)), (1, .int x1)]) hx hb dX1_areBasesSame_1 rfl hl (by decide) rfl (fun ls hl => ?_)
  exact L2 fuel ((nI 0)) ls (lv_sub hl [1, 2, 0] rfl) h
def f1_countKind_L4 (x1 : Int32) (φ : Fo) : Nat → Int32 → Int32 → Option (Int32)
  | 0, _, _ => none
  | n + 1, x2, x3 => (if (fo_commits φ) ≤ x3 then (some x2) else ((f1_kindOf (x3) (φ)).bind fun r2 => (if r2 = x1 then (f1_countKind_L4 x1 φ n ((x2 + nI 1)) ((x3 + nI 1))) else (f1_countKind_L4 x1 φ n (x2) ((x3 + nI 1))))))
def f1_countKind (x1 : Int32) (φ : Fo) : Option (Int32) := (f1_countKind_L4 x1 φ fuel ((nI 0)) ((nI 0)))
set_option maxHeartbeats 4000000 in
set_option maxRecDepth 100000 in
theorem c1_countKind (l : Launch) (E : PE) (a : Nat → Nat)  (x1 : Int32) (φ : Fo) (r : Int32) (h : f1_countKind x1 φ = some r) : MP l yX1_countKind cX1_countKind 4 (some .int) { frames := 1, cells := 0, slots := 0, locals := 21 } E [.ref (a 0), .int x1] ([gX1 E a φ] : List va_W).flatten (some (.int r)) := by
  refine px_startP (by decide +kernel) (Nat.le_of_ble_eq_true rfl) ?_
  intro p e s m args below meth c R Q A ls hC hQ
  obtain ⟨hx, hb, hr, hml, hts, hown, hlocks, hR, hK, hN, hP, hD, hA, hl, hin⟩ := hC
  have hl : lv_has ls 4 [(0, .ref (a 0)), (1, .int x1)] := hl
  unfold f1_countKind at h
  have L4 : ∀ (n : Nat) (x2 : Int32) (x3 : Int32) (ls : Array Slot), lv_has ls 4 [(0, .ref (a 0)), (1, .int x1), (2, .int x2), (3, .int x3)] → f1_countKind_L4 x1 φ n x2 x3 = some r → W p l e R s m args below meth c s.heap [] 0 0 Q (F0 m 4 ls []) := by
    intro n
    induction n with
    | zero =>
      intro x2 x3 ls hl h
      unfold f1_countKind_L4 at h; cases h
    | succ n ih =>
      intro x2 x3 ls hl h
      unfold f1_countKind_L4 at h
      refine lv_iload_n hx hb dX1_countKind_4 rfl (lv_at hl 3 rfl) ?_
      refine lv_aload_n hx hb dX1_countKind_5 rfl (lv_at hl 0 rfl) ?_
      refine va_get (D := E.1) (ci := 1) (v := .int (fo_commits φ)) (C := RX1) (T := TX1) (N := 11) hx hb hts iX1 hown hK hP 0 rfl rfl 0 (by decide) (hts _ q63) (fun _ h9 => h9) rfl dX1_countKind_6 ?_
      refine lv_icmp_ge (tgt := 30) hx hb dX1_countKind_9 (by decide) (fun c1 => ?_) (fun c1 => ?_)
      · rw [if_pos c1] at h
        refine lv_iload_n hx hb dX1_countKind_30 rfl (lv_at hl 2 rfl) ?_
        cases h
        exact px_ePi hQ hx hb hr hlocks dX1_countKind_31
      · rw [if_neg c1] at h
        refine lv_aload_n hx hb dX1_countKind_12 rfl (lv_at hl 0 rfl) ?_
        refine lv_iload_n hx hb dX1_countKind_13 rfl (lv_at hl 3 rfl) ?_
        obtain ⟨r2, hr3, h⟩ := ob h
        refine px_Vp (As := [.int x3]) (rest := []) (gs := ([gX1 E a φ] : List va_W)) (gc := ([gX1 E a φ] : List va_W)) ⟨hx, hb, hml, hown, hts⟩ (c1_kindOf l E a  (x3) (φ) r2 hr3) (cwV 1 hts (ws_v q860 q522 q523 q19 q524) rfl rfl rfl hdV_X1_kindOf (by rw [hR]; exact ⟨Nat.le_of_ble_eq_true rfl, Nat.le_of_ble_eq_true rfl⟩)) hK hN hP hD [0] rfl (by decide) 0 1 rfl rfl rfl rfl hl.1 rfl (Nat.le_of_ble_eq_true rfl) dX1_countKind_14 (by rw [hR]; exact ⟨Nat.le_of_ble_eq_true rfl, Nat.le_of_ble_eq_true rfl⟩) ?_
        refine W.eq (g2 := F0 m 17 ls [.int r2]) rfl ?_
        refine lv_iload_n hx hb dX1_countKind_17 rfl (lv_at hl 1 rfl) ?_
        refine lv_icmp_ne (tgt := 24) hx hb dX1_countKind_18 (by decide) (fun c4 => ?_) (fun c4 => ?_)
        · rw [if_neg c4] at h
          refine lv_iinc (v := (x3 + nI 1)) (lv' := [(3, .int (x3 + nI 1)), (0, .ref (a 0)), (1, .int x1), (2, .int x2)]) hx hb dX1_countKind_24 hl (k := 3) rfl rfl (by decide) rfl (fun ls hl => ?_)
          refine lv_goto (tgt := 4) hx hb dX1_countKind_27 (by decide) ?_
          exact ih (x2) ((x3 + nI 1)) ls (lv_sub hl [1, 2, 3, 0] rfl) h
        · rw [if_pos c4] at h
          refine lv_iinc (v := (x2 + nI 1)) (lv' := [(2, .int (x2 + nI 1)), (0, .ref (a 0)), (1, .int x1), (3, .int x3)]) hx hb dX1_countKind_21 hl (k := 2) rfl rfl (by decide) rfl (fun ls hl => ?_)
          refine lv_iinc (v := (x3 + nI 1)) (lv' := [(3, .int (x3 + nI 1)), (2, .int (x2 + nI 1)), (0, .ref (a 0)), (1, .int x1)]) hx hb dX1_countKind_24 hl (k := 3) rfl rfl (by decide) rfl (fun ls hl => ?_)
          refine lv_goto (tgt := 4) hx hb dX1_countKind_27 (by decide) ?_
          exact ih ((x2 + nI 1)) ((x3 + nI 1)) ls (lv_sub hl [2, 3, 1, 0] rfl) h
  refine lv_iconst (v := (nI 0)) hx hb dX1_countKind_0 (by decide) ?_
  refine lv_istore_n (lv' := [(2, .int (nI 0)), (0, .ref (a 0)), (1, .int x1)]) hx hb dX1_countKind_1 rfl hl (by decide) rfl (fun ls hl => ?_)
  refine lv_iconst (v := (nI 0)) hx hb dX1_countKind_2 (by decide) ?_
  refine lv_istore_n (lv' := [(3, .int (nI 0)), (2, .int (nI 0)), (0, .ref (a 0)), (1, .int x1)]) hx hb dX1_countKind_3 rfl hl (by decide) rfl (fun ls hl => ?_)
  exact L4 fuel ((nI 0)) ((nI 0)) ls (lv_sub hl [2, 3, 1, 0] rfl) h
def f1_sumOfTips_L14 (K : Int32 → Int32 → Option (Int32)) (φ : Fo) : Nat → Int32 → Int32 → Int32 → Option (Int32)
  | 0, _, _, _ => none
  | n + 1, x1, x2, x3 => (if (nI 6) ≤ x3 then (K (x1) ((x2 + nI 1))) else ((f1_tipOf (x2) (φ)).bind fun r3 => ((f1_amountIn (r3) (x3) (φ)).bind fun r5 => (f1_sumOfTips_L14 K φ n ((x1 + r5)) (x2) ((x3 + nI 1))))))
def f1_sumOfTips_L4 (φ : Fo) : Nat → Int32 → Int32 → Option (Int32)
  | 0, _, _ => none
  | n + 1, x1, x2 => (if (fo_branches φ) ≤ x2 then (some x1) else (f1_sumOfTips_L14 (f1_sumOfTips_L4 φ n) φ fuel (x1) (x2) ((nI 0))))
def f1_sumOfTips  (φ : Fo) : Option (Int32) := (f1_sumOfTips_L4 φ fuel ((nI 0)) ((nI 0)))
set_option maxHeartbeats 4000000 in
set_option maxRecDepth 100000 in
theorem c1_sumOfTips (l : Launch) (E : PE) (a : Nat → Nat)   (φ : Fo) (r : Int32) (h : f1_sumOfTips φ = some r) : MP l yX1_sumOfTips cX1_sumOfTips 4 (some .int) { frames := 1, cells := 0, slots := 0, locals := 22 } E [.ref (a 0)] ([gX1 E a φ] : List va_W).flatten (some (.int r)) := by
  refine px_startP (by decide +kernel) (Nat.le_of_ble_eq_true rfl) ?_
  intro p e s m args below meth c R Q A ls hC hQ
  obtain ⟨hx, hb, hr, hml, hts, hown, hlocks, hR, hK, hN, hP, hD, hA, hl, hin⟩ := hC
  have hl : lv_has ls 4 [(0, .ref (a 0))] := hl
  unfold f1_sumOfTips at h
  have L14 : ∀ (K : Int32 → Int32 → Option (Int32)) (hKK : ∀ (x1 : Int32) (x2 : Int32) (ls : Array Slot), lv_has ls 4 [(0, .ref (a 0)), (1, .int x1), (2, .int x2)] → K x1 x2 = some r → W p l e R s m args below meth c s.heap [] 0 0 Q (F0 m 4 ls [])) (n : Nat) (x1 : Int32) (x2 : Int32) (x3 : Int32) (ls : Array Slot), lv_has ls 4 [(0, .ref (a 0)), (1, .int x1), (2, .int x2), (3, .int x3)] → f1_sumOfTips_L14 K φ n x1 x2 x3 = some r → W p l e R s m args below meth c s.heap [] 0 0 Q (F0 m 14 ls []) := by
    intro K hKK n
    induction n with
    | zero =>
      intro x1 x2 x3 ls hl h
      unfold f1_sumOfTips_L14 at h; cases h
    | succ n ih =>
      intro x1 x2 x3 ls hl h
      unfold f1_sumOfTips_L14 at h
      refine lv_iload_n hx hb dX1_sumOfTips_14 rfl (lv_at hl 3 rfl) ?_
      refine lv_bipush (v := (nI 6)) hx hb dX1_sumOfTips_15 (by decide) ?_
      refine lv_icmp_ge (tgt := 39) hx hb dX1_sumOfTips_17 (by decide) (fun c2 => ?_) (fun c2 => ?_)
      · rw [if_pos c2] at h
        refine lv_iinc (v := (x2 + nI 1)) (lv' := [(2, .int (x2 + nI 1)), (0, .ref (a 0)), (1, .int x1), (3, .int x3)]) hx hb dX1_sumOfTips_39 hl (k := 2) rfl rfl (by decide) rfl (fun ls hl => ?_)
        refine lv_goto (tgt := 4) hx hb dX1_sumOfTips_42 (by decide) ?_
        exact hKK (x1) ((x2 + nI 1)) ls (lv_sub hl [1, 2, 0] rfl) h
      · rw [if_neg c2] at h
        refine lv_iload_n hx hb dX1_sumOfTips_20 rfl (lv_at hl 1 rfl) ?_
        refine lv_aload_n hx hb dX1_sumOfTips_21 rfl (lv_at hl 0 rfl) ?_
        refine lv_aload_n hx hb dX1_sumOfTips_22 rfl (lv_at hl 0 rfl) ?_
        refine lv_iload_n hx hb dX1_sumOfTips_23 rfl (lv_at hl 2 rfl) ?_
        obtain ⟨r3, hr4, h⟩ := ob h
        refine px_Vp (As := [.int x2]) (rest := [.ref (a 0), .int x1]) (gs := ([gX1 E a φ] : List va_W)) (gc := ([gX1 E a φ] : List va_W)) ⟨hx, hb, hml, hown, hts⟩ (c1_tipOf l E a  (x2) (φ) r3 hr4) (cwV 1 hts (ws_v q865 q295 q296 q19 q297) rfl rfl rfl hdV_X1_tipOf (by rw [hR]; exact ⟨Nat.le_of_ble_eq_true rfl, Nat.le_of_ble_eq_true rfl⟩)) hK hN hP hD [0] rfl (by decide) 0 1 rfl rfl rfl rfl hl.1 rfl (Nat.le_of_ble_eq_true rfl) dX1_sumOfTips_24 (by rw [hR]; exact ⟨Nat.le_of_ble_eq_true rfl, Nat.le_of_ble_eq_true rfl⟩) ?_
        refine W.eq (g2 := F0 m 27 ls [.int r3, .ref (a 0), .int x1]) rfl ?_
        refine lv_iload_n hx hb dX1_sumOfTips_27 rfl (lv_at hl 3 rfl) ?_
        obtain ⟨r5, hr6, h⟩ := ob h
        refine px_Vp (As := [.int r3, .int x3]) (rest := [.int x1]) (gs := ([gX1 E a φ] : List va_W)) (gc := ([gX1 E a φ] : List va_W)) ⟨hx, hb, hml, hown, hts⟩ (c1_amountIn l E a  (r3) (x3) (φ) r5 hr6) (cwV 2 hts (ws_v q538 q299 q300 q19 q301) rfl rfl rfl hdV_X1_amountIn (by rw [hR]; exact ⟨Nat.le_of_ble_eq_true rfl, Nat.le_of_ble_eq_true rfl⟩)) hK hN hP hD [0] rfl (by decide) 0 1 rfl rfl rfl rfl hl.1 rfl (Nat.le_of_ble_eq_true rfl) dX1_sumOfTips_28 (by rw [hR]; exact ⟨Nat.le_of_ble_eq_true rfl, Nat.le_of_ble_eq_true rfl⟩) ?_
        refine W.eq (g2 := F0 m 31 ls [.int r5, .int x1]) rfl ?_
        refine lv_iadd hx hb dX1_sumOfTips_31 ?_
        refine lv_istore_n (lv' := [(1, .int (x1 + r5)), (0, .ref (a 0)), (2, .int x2), (3, .int x3)]) hx hb dX1_sumOfTips_32 rfl hl (by decide) rfl (fun ls hl => ?_)
        refine lv_iinc (v := (x3 + nI 1)) (lv' := [(3, .int (x3 + nI 1)), (1, .int (x1 + r5)), (0, .ref (a 0)), (2, .int x2)]) hx hb dX1_sumOfTips_33 hl (k := 3) rfl rfl (by decide) rfl (fun ls hl => ?_)
        refine lv_goto (tgt := 14) hx hb dX1_sumOfTips_36 (by decide) ?_
        exact ih ((x1 + r5)) (x2) ((x3 + nI 1)) ls (lv_sub hl [2, 1, 3, 0] rfl) h
  have L4 : ∀ (n : Nat) (x1 : Int32) (x2 : Int32) (ls : Array Slot), lv_has ls 4 [(0, .ref (a 0)), (1, .int x1), (2, .int x2)] → f1_sumOfTips_L4 φ n x1 x2 = some r → W p l e R s m args below meth c s.heap [] 0 0 Q (F0 m 4 ls []) := by
    intro n
    induction n with
    | zero =>
      intro x1 x2 ls hl h
      unfold f1_sumOfTips_L4 at h; cases h
    | succ n ih =>
      intro x1 x2 ls hl h
      unfold f1_sumOfTips_L4 at h
      refine lv_iload_n hx hb dX1_sumOfTips_4 rfl (lv_at hl 2 rfl) ?_
      refine lv_aload_n hx hb dX1_sumOfTips_5 rfl (lv_at hl 0 rfl) ?_
      refine va_get (D := E.1) (ci := 1) (v := .int (fo_branches φ)) (C := RX1) (T := TX1) (N := 11) hx hb hts iX1 hown hK hP 0 rfl rfl 1 (by decide) (hts _ q64) (fun _ h9 => h9) rfl dX1_sumOfTips_6 ?_
      refine lv_icmp_ge (tgt := 45) hx hb dX1_sumOfTips_9 (by decide) (fun c1 => ?_) (fun c1 => ?_)
      · rw [if_pos c1] at h
        refine lv_iload_n hx hb dX1_sumOfTips_45 rfl (lv_at hl 1 rfl) ?_
        cases h
        exact px_ePi hQ hx hb hr hlocks dX1_sumOfTips_46
      · rw [if_neg c1] at h
        refine lv_iconst (v := (nI 0)) hx hb dX1_sumOfTips_12 (by decide) ?_
        refine lv_istore_n (lv' := [(3, .int (nI 0)), (0, .ref (a 0)), (1, .int x1), (2, .int x2)]) hx hb dX1_sumOfTips_13 rfl hl (by decide) rfl (fun ls hl => ?_)
        exact L14 (f1_sumOfTips_L4 φ n) ih fuel (x1) (x2) ((nI 0)) ls (lv_sub hl [1, 2, 3, 0] rfl) h
  refine lv_iconst (v := (nI 0)) hx hb dX1_sumOfTips_0 (by decide) ?_
  refine lv_istore_n (lv' := [(1, .int (nI 0)), (0, .ref (a 0))]) hx hb dX1_sumOfTips_1 rfl hl (by decide) rfl (fun ls hl => ?_)
  refine lv_iconst (v := (nI 0)) hx hb dX1_sumOfTips_2 (by decide) ?_
  refine lv_istore_n (lv' := [(2, .int (nI 0)), (1, .int (nI 0)), (0, .ref (a 0))]) hx hb dX1_sumOfTips_3 rfl hl (by decide) rfl (fun ls hl => ?_)
  exact L4 fuel ((nI 0)) ((nI 0)) ls (lv_sub hl [2, 1, 0] rfl) h
def f1_bundleKind  (φ : Fo) : Option (Int32) := (some (fo_purpose φ))
set_option maxHeartbeats 4000000 in
set_option maxRecDepth 100000 in
theorem c1_bundleKind (l : Launch) (E : PE) (a : Nat → Nat)   (φ : Fo) (r : Int32) (h : f1_bundleKind φ = some r) : MP l yX1_bundleKind cX1_bundleKind 1 (some .int) { frames := 0, cells := 0, slots := 0, locals := 0 } E [.ref (a 0)] ([gX1 E a φ] : List va_W).flatten (some (.int r)) := by
  refine px_startP (by decide +kernel) (Nat.le_of_ble_eq_true rfl) ?_
  intro p e s m args below meth c R Q A ls hC hQ
  obtain ⟨hx, hb, hr, hml, hts, hown, hlocks, hR, hK, hN, hP, hD, hA, hl, hin⟩ := hC
  have hl : lv_has ls 1 [(0, .ref (a 0))] := hl
  unfold f1_bundleKind at h
  refine lv_aload_n hx hb dX1_bundleKind_0 rfl (lv_at hl 0 rfl) ?_
  refine va_get (D := E.1) (ci := 1) (v := .int (fo_purpose φ)) (C := RX1) (T := TX1) (N := 11) hx hb hts iX1 hown hK hP 0 rfl rfl 2 (by decide) (hts _ q65) (fun _ h9 => h9) rfl dX1_bundleKind_1 ?_
  cases h
  exact px_ePi hQ hx hb hr hlocks dX1_bundleKind_4
def f1_bundledAt (x1 : Int32) (φ : Fo) : Option (Int32) := (if x1 < 0 then (some (-1 : Int32)) else (if (nI 4) ≤ x1 then (some (-1 : Int32)) else (if inb x1 4 = true then (some ((fo_bundled φ) (x1).toNatClampNeg)) else none)))
set_option maxHeartbeats 4000000 in
set_option maxRecDepth 100000 in
theorem c1_bundledAt (l : Launch) (E : PE) (a : Nat → Nat)  (x1 : Int32) (φ : Fo) (r : Int32) (h : f1_bundledAt x1 φ = some r) : MP l yX1_bundledAt cX1_bundledAt 2 (some .int) { frames := 0, cells := 0, slots := 0, locals := 0 } E [.ref (a 0), .int x1] ([gX1 E a φ] : List va_W).flatten (some (.int r)) := by
  refine px_startP (by decide +kernel) (Nat.le_of_ble_eq_true rfl) ?_
  intro p e s m args below meth c R Q A ls hC hQ
  obtain ⟨hx, hb, hr, hml, hts, hown, hlocks, hR, hK, hN, hP, hD, hA, hl, hin⟩ := hC
  have hl : lv_has ls 2 [(0, .ref (a 0)), (1, .int x1)] := hl
  unfold f1_bundledAt at h
  refine lv_iload_n hx hb dX1_bundledAt_0 rfl (lv_at hl 1 rfl) ?_
  refine lv_if_lt (tgt := 18) hx hb dX1_bundledAt_1 (by decide) (fun c1 => ?_) (fun c1 => ?_)
  · rw [if_pos c1] at h
    refine lv_iconst (v := (-1 : Int32)) hx hb dX1_bundledAt_18 (by decide) ?_
    cases h
    exact px_ePi hQ hx hb hr hlocks dX1_bundledAt_19
  · rw [if_neg c1] at h
    refine lv_iload_n hx hb dX1_bundledAt_4 rfl (lv_at hl 1 rfl) ?_
    refine lv_iconst (v := (nI 4)) hx hb dX1_bundledAt_5 (by decide) ?_
    refine lv_icmp_ge (tgt := 18) hx hb dX1_bundledAt_6 (by decide) (fun c2 => ?_) (fun c2 => ?_)
    · rw [if_pos c2] at h
      refine lv_iconst (v := (-1 : Int32)) hx hb dX1_bundledAt_18 (by decide) ?_
      cases h
      exact px_ePi hQ hx hb hr hlocks dX1_bundledAt_19
    · rw [if_neg c2] at h
      refine lv_aload_n hx hb dX1_bundledAt_9 rfl (lv_at hl 0 rfl) ?_
      refine va_get (D := E.1) (ci := 1) (v := .ref (a 8)) (C := RX1) (T := TX1) (N := 11) hx hb hts iX1 hown hK hP 0 rfl rfl 10 (by decide) (hts _ q73) (fun _ h9 => h9) rfl dX1_bundledAt_10 ?_
      refine lv_iload_n hx hb dX1_bundledAt_13 rfl (lv_at hl 1 rfl) ?_
      obtain ⟨i3, h⟩ := o_t h
      refine va_iald (f := (fo_bundled φ)) hx hb hK hP 8 0 rfl rfl (inb_in i3) dX1_bundledAt_14 ?_
      refine lv_goto (tgt := 19) hx hb dX1_bundledAt_15 (by decide) ?_
      cases h
      exact px_ePi hQ hx hb hr hlocks dX1_bundledAt_19
def f1_bundledCount_L4 (φ : Fo) : Nat → Int32 → Int32 → Option (Int32)
  | 0, _, _ => none
  | n + 1, x1, x2 => (if (nI 4) ≤ x2 then (some x1) else (if inb x2 4 = true then (if ((fo_bundled φ) (x2).toNatClampNeg) = (-1 : Int32) then (f1_bundledCount_L4 φ n (x1) ((x2 + nI 1))) else (f1_bundledCount_L4 φ n ((x1 + nI 1)) ((x2 + nI 1)))) else none))
def f1_bundledCount  (φ : Fo) : Option (Int32) := (f1_bundledCount_L4 φ fuel ((nI 0)) ((nI 0)))
set_option maxHeartbeats 4000000 in
set_option maxRecDepth 100000 in
theorem c1_bundledCount (l : Launch) (E : PE) (a : Nat → Nat)   (φ : Fo) (r : Int32) (h : f1_bundledCount φ = some r) : MP l yX1_bundledCount cX1_bundledCount 3 (some .int) { frames := 0, cells := 0, slots := 0, locals := 0 } E [.ref (a 0)] ([gX1 E a φ] : List va_W).flatten (some (.int r)) := by
  refine px_startP (by decide +kernel) (Nat.le_of_ble_eq_true rfl) ?_
  intro p e s m args below meth c R Q A ls hC hQ
  obtain ⟨hx, hb, hr, hml, hts, hown, hlocks, hR, hK, hN, hP, hD, hA, hl, hin⟩ := hC
  have hl : lv_has ls 3 [(0, .ref (a 0))] := hl
  unfold f1_bundledCount at h
  have L4 : ∀ (n : Nat) (x1 : Int32) (x2 : Int32) (ls : Array Slot), lv_has ls 3 [(0, .ref (a 0)), (1, .int x1), (2, .int x2)] → f1_bundledCount_L4 φ n x1 x2 = some r → W p l e R s m args below meth c s.heap [] 0 0 Q (F0 m 4 ls []) := by
    intro n
    induction n with
    | zero =>
      intro x1 x2 ls hl h
      unfold f1_bundledCount_L4 at h; cases h
    | succ n ih =>
      intro x1 x2 ls hl h
      unfold f1_bundledCount_L4 at h
      refine lv_iload_n hx hb dX1_bundledCount_4 rfl (lv_at hl 2 rfl) ?_
      refine lv_iconst (v := (nI 4)) hx hb dX1_bundledCount_5 (by decide) ?_
      refine lv_icmp_ge (tgt := 28) hx hb dX1_bundledCount_6 (by decide) (fun c1 => ?_) (fun c1 => ?_)
      · rw [if_pos c1] at h
        refine lv_iload_n hx hb dX1_bundledCount_28 rfl (lv_at hl 1 rfl) ?_
        cases h
        exact px_ePi hQ hx hb hr hlocks dX1_bundledCount_29
      · rw [if_neg c1] at h
        refine lv_aload_n hx hb dX1_bundledCount_9 rfl (lv_at hl 0 rfl) ?_
        refine va_get (D := E.1) (ci := 1) (v := .ref (a 8)) (C := RX1) (T := TX1) (N := 11) hx hb hts iX1 hown hK hP 0 rfl rfl 10 (by decide) (hts _ q73) (fun _ h9 => h9) rfl dX1_bundledCount_10 ?_
        refine lv_iload_n hx hb dX1_bundledCount_13 rfl (lv_at hl 2 rfl) ?_
        obtain ⟨i2, h⟩ := o_t h
        refine va_iald (f := (fo_bundled φ)) hx hb hK hP 8 0 rfl rfl (inb_in i2) dX1_bundledCount_14 ?_
        refine lv_iconst (v := (-1 : Int32)) hx hb dX1_bundledCount_15 (by decide) ?_
        refine lv_icmp_eq (tgt := 22) hx hb dX1_bundledCount_16 (by decide) (fun c3 => ?_) (fun c3 => ?_)
        · rw [if_pos c3] at h
          refine lv_iinc (v := (x2 + nI 1)) (lv' := [(2, .int (x2 + nI 1)), (0, .ref (a 0)), (1, .int x1)]) hx hb dX1_bundledCount_22 hl (k := 2) rfl rfl (by decide) rfl (fun ls hl => ?_)
          refine lv_goto (tgt := 4) hx hb dX1_bundledCount_25 (by decide) ?_
          exact ih (x1) ((x2 + nI 1)) ls (lv_sub hl [1, 2, 0] rfl) h
        · rw [if_neg c3] at h
          refine lv_iinc (v := (x1 + nI 1)) (lv' := [(1, .int (x1 + nI 1)), (0, .ref (a 0)), (2, .int x2)]) hx hb dX1_bundledCount_19 hl (k := 1) rfl rfl (by decide) rfl (fun ls hl => ?_)
          refine lv_iinc (v := (x2 + nI 1)) (lv' := [(2, .int (x2 + nI 1)), (1, .int (x1 + nI 1)), (0, .ref (a 0))]) hx hb dX1_bundledCount_22 hl (k := 2) rfl rfl (by decide) rfl (fun ls hl => ?_)
          refine lv_goto (tgt := 4) hx hb dX1_bundledCount_25 (by decide) ?_
          exact ih ((x1 + nI 1)) ((x2 + nI 1)) ls (lv_sub hl [2, 1, 0] rfl) h
  refine lv_iconst (v := (nI 0)) hx hb dX1_bundledCount_0 (by decide) ?_
  refine lv_istore_n (lv' := [(1, .int (nI 0)), (0, .ref (a 0))]) hx hb dX1_bundledCount_1 rfl hl (by decide) rfl (fun ls hl => ?_)
  refine lv_iconst (v := (nI 0)) hx hb dX1_bundledCount_2 (by decide) ?_
  refine lv_istore_n (lv' := [(2, .int (nI 0)), (1, .int (nI 0)), (0, .ref (a 0))]) hx hb dX1_bundledCount_3 rfl hl (by decide) rfl (fun ls hl => ?_)
  exact L4 fuel ((nI 0)) ((nI 0)) ls (lv_sub hl [2, 1, 0] rfl) h
def f1_placeOf_L2 (x1 : Int32) (φ : Fo) : Nat → Int32 → Option (Int32)
  | 0, _ => none
  | n + 1, x2 => (if (nI 4) ≤ x2 then (some (-1 : Int32)) else (if inb x2 4 = true then (if ((fo_bundled φ) (x2).toNatClampNeg) = x1 then (some x2) else (f1_placeOf_L2 x1 φ n ((x2 + nI 1)))) else none))
def f1_placeOf (x1 : Int32) (φ : Fo) : Option (Int32) := (f1_placeOf_L2 x1 φ fuel ((nI 0)))
set_option maxHeartbeats 4000000 in
set_option maxRecDepth 100000 in
theorem c1_placeOf (l : Launch) (E : PE) (a : Nat → Nat)  (x1 : Int32) (φ : Fo) (r : Int32) (h : f1_placeOf x1 φ = some r) : MP l yX1_placeOf cX1_placeOf 3 (some .int) { frames := 0, cells := 0, slots := 0, locals := 0 } E [.ref (a 0), .int x1] ([gX1 E a φ] : List va_W).flatten (some (.int r)) := by
  refine px_startP (by decide +kernel) (Nat.le_of_ble_eq_true rfl) ?_
  intro p e s m args below meth c R Q A ls hC hQ
  obtain ⟨hx, hb, hr, hml, hts, hown, hlocks, hR, hK, hN, hP, hD, hA, hl, hin⟩ := hC
  have hl : lv_has ls 3 [(0, .ref (a 0)), (1, .int x1)] := hl
  unfold f1_placeOf at h
  have L2 : ∀ (n : Nat) (x2 : Int32) (ls : Array Slot), lv_has ls 3 [(0, .ref (a 0)), (1, .int x1), (2, .int x2)] → f1_placeOf_L2 x1 φ n x2 = some r → W p l e R s m args below meth c s.heap [] 0 0 Q (F0 m 2 ls []) := by
    intro n
    induction n with
    | zero =>
      intro x2 ls hl h
      unfold f1_placeOf_L2 at h; cases h
    | succ n ih =>
      intro x2 ls hl h
      unfold f1_placeOf_L2 at h
      refine lv_iload_n hx hb dX1_placeOf_2 rfl (lv_at hl 2 rfl) ?_
      refine lv_iconst (v := (nI 4)) hx hb dX1_placeOf_3 (by decide) ?_
      refine lv_icmp_ge (tgt := 25) hx hb dX1_placeOf_4 (by decide) (fun c1 => ?_) (fun c1 => ?_)
      · rw [if_pos c1] at h
        refine lv_iconst (v := (-1 : Int32)) hx hb dX1_placeOf_25 (by decide) ?_
        cases h
        exact px_ePi hQ hx hb hr hlocks dX1_placeOf_26
      · rw [if_neg c1] at h
        refine lv_aload_n hx hb dX1_placeOf_7 rfl (lv_at hl 0 rfl) ?_
        refine va_get (D := E.1) (ci := 1) (v := .ref (a 8)) (C := RX1) (T := TX1) (N := 11) hx hb hts iX1 hown hK hP 0 rfl rfl 10 (by decide) (hts _ q73) (fun _ h9 => h9) rfl dX1_placeOf_8 ?_
        refine lv_iload_n hx hb dX1_placeOf_11 rfl (lv_at hl 2 rfl) ?_
        obtain ⟨i2, h⟩ := o_t h
        refine va_iald (f := (fo_bundled φ)) hx hb hK hP 8 0 rfl rfl (inb_in i2) dX1_placeOf_12 ?_
        refine lv_iload_n hx hb dX1_placeOf_13 rfl (lv_at hl 1 rfl) ?_
        refine lv_icmp_ne (tgt := 19) hx hb dX1_placeOf_14 (by decide) (fun c3 => ?_) (fun c3 => ?_)
        · rw [if_neg c3] at h
          refine lv_iinc (v := (x2 + nI 1)) (lv' := [(2, .int (x2 + nI 1)), (0, .ref (a 0)), (1, .int x1)]) hx hb dX1_placeOf_19 hl (k := 2) rfl rfl (by decide) rfl (fun ls hl => ?_)
          refine lv_goto (tgt := 2) hx hb dX1_placeOf_22 (by decide) ?_
          exact ih ((x2 + nI 1)) ls (lv_sub hl [1, 2, 0] rfl) h
        · rw [if_pos c3] at h
          refine lv_iload_n hx hb dX1_placeOf_17 rfl (lv_at hl 2 rfl) ?_
          cases h
          exact px_ePi hQ hx hb hr hlocks dX1_placeOf_18
  refine lv_iconst (v := (nI 0)) hx hb dX1_placeOf_0 (by decide) ?_
  refine lv_istore_n (lv' := [(2, .int (nI 0)), (0, .ref (a 0)), (1, .int x1)]) hx hb dX1_placeOf_1 rfl hl (by decide) rfl (fun ls hl => ?_)
  exact L2 fuel ((nI 0)) ls (lv_sub hl [1, 2, 0] rfl) h
def f1_takeBundle_L7 (x1 : Int32) : Nat → Int32 → Fo → Option (Fo)
  | 0, _, _ => none
  | n + 1, x2, φ => (if (nI 4) ≤ x2 then (some φ) else (if inb x2 4 = true then (lt (fo_s_bundled φ (upd (fo_bundled φ) (x2).toNatClampNeg (-1 : Int32))) fun φ5 => (f1_takeBundle_L7 x1 n ((x2 + nI 1)) (φ5))) else none))
def f1_takeBundle (x1 : Int32) (φ : Fo) : Option (Fo) := (lt (fo_s_purpose φ x1) fun φ1 => (f1_takeBundle_L7 x1 fuel ((nI 0)) (φ1)))
set_option maxHeartbeats 4000000 in
set_option maxRecDepth 100000 in
theorem c1_takeBundle (l : Launch) (E : PE) (a : Nat → Nat)  (x1 : Int32) (φ : Fo) (z_this_φ : Fo) (h : f1_takeBundle x1 φ = some z_this_φ) : MW l yX1_takeBundle cX1_takeBundle 3 none { frames := 0, cells := 0, slots := 0, locals := 0 } E [.ref (a 0), .int x1] ([gX1 E a φ] : List va_W).flatten 0 0 none ([gX1 E a z_this_φ] : List va_W).flatten := by
  refine px_startW (by decide +kernel) (Nat.le_of_ble_eq_true rfl) ?_
  intro p e s m args below meth c R Q A ls hC hA0 hQ
  obtain ⟨hx, hb, hr, hml, hts, hown, hlocks, hR, hK, hN, hP, hD, hA, hl, hin⟩ := hC
  have hl : lv_has ls 3 [(0, .ref (a 0)), (1, .int x1)] := hl
  suffices key : ∀ (H : Heap) (locs : List Loc), va_P E.1 vwCl ([gX1 E a φ] : List va_W).flatten H → va_S A s.heap H locs → W p l e R s m args below meth c H locs 0 0 Q (F0 m 0 ls []) from key s.heap [] hP va_S.rf
  unfold f1_takeBundle at h
  have L7 : ∀ (n : Nat) (x2 : Int32) (φ : Fo) (H : Heap) (locs : List Loc) (ls : Array Slot), va_P E.1 vwCl ([gX1 E a φ] : List va_W).flatten H → va_D A ([gX1 E a φ] : List va_W).flatten → va_S A s.heap H locs → lv_has ls 3 [(0, .ref (a 0)), (2, .int x2)] → f1_takeBundle_L7 x1 n x2 φ = some z_this_φ → W p l e R s m args below meth c H locs 0 0 Q (F0 m 7 ls []) := by
    intro n
    induction n with
    | zero =>
      intro x2 φ H locs ls hP hD hS hl h
      unfold f1_takeBundle_L7 at h; cases h
    | succ n ih =>
      intro x2 φ H locs ls hP hD hS hl h
      unfold f1_takeBundle_L7 at h
      refine lv_iload_n hx hb dX1_takeBundle_7 rfl (lv_at hl 1 rfl) ?_
      refine lv_iconst (v := (nI 4)) hx hb dX1_takeBundle_8 (by decide) ?_
      refine lv_icmp_ge (tgt := 25) hx hb dX1_takeBundle_9 (by decide) (fun c3 => ?_) (fun c3 => ?_)
      · rw [if_pos c3] at h
        cases h
        exact px_eWv hA0 hQ hP hD hS hx hb hr hlocks dX1_takeBundle_25
      · rw [if_neg c3] at h
        refine lv_aload_n hx hb dX1_takeBundle_12 rfl (lv_at hl 0 rfl) ?_
        refine va_get (D := E.1) (ci := 1) (v := .ref (a 8)) (C := RX1) (T := TX1) (N := 11) hx hb hts iX1 hown hK hP 0 rfl rfl 10 (by decide) (hts _ q73) (fun _ h9 => h9) rfl dX1_takeBundle_13 ?_
        refine lv_iload_n hx hb dX1_takeBundle_16 rfl (lv_at hl 1 rfl) ?_
        refine lv_iconst (v := (-1 : Int32)) hx hb dX1_takeBundle_17 (by decide) ?_
        obtain ⟨i4, h⟩ := o_t h
        refine va_iast (f := (fo_bundled φ)) hx hb hK hP hD hS 8 0 rfl rfl (inb_in i4) dX1_takeBundle_18 (fun H locs hP hD hS => ?_)
        have hP : va_P E.1 vwCl ([gX1 E a (fo_s_bundled φ (upd (fo_bundled φ) (x2).toNatClampNeg (-1 : Int32)))] : List va_W).flatten H := hP
        have hD : va_D A ([gX1 E a (fo_s_bundled φ (upd (fo_bundled φ) (x2).toNatClampNeg (-1 : Int32)))] : List va_W).flatten := hD
        obtain ⟨φ5, e6, h⟩ := lt_e h
        rw [← e6] at hP hD
        refine lv_iinc (v := (x2 + nI 1)) (lv' := [(2, .int (x2 + nI 1)), (0, .ref (a 0))]) hx hb dX1_takeBundle_19 hl (k := 1) rfl rfl (by decide) rfl (fun ls hl => ?_)
        refine lv_goto (tgt := 7) hx hb dX1_takeBundle_22 (by decide) ?_
        exact ih ((x2 + nI 1)) (φ5) H locs ls hP hD hS (lv_sub hl [1, 0] rfl) h
  intro H locs hP hS
  refine lv_aload_n hx hb dX1_takeBundle_0 rfl (lv_at hl 0 rfl) ?_
  refine lv_iload_n hx hb dX1_takeBundle_1 rfl (lv_at hl 1 rfl) ?_
  refine va_put (D := E.1) (ci := 1) (v := .int x1) (ty := .int) (C := RX1) (T := TX1) (N := 11) hx hb hts iX1 tyX1 tyX1_ok nmX1 hown hK hP hD hS 0 rfl rfl 2 (by decide) (hts _ q65) (fun _ h9 => h9) rfl (tyX1_ok 2 (by decide)) rfl rfl (Nat.le_of_ble_eq_true rfl) dX1_takeBundle_2 (fun H locs hP hD hS => ?_)
  have hP : va_P E.1 vwCl ([gX1 E a (fo_s_purpose φ x1)] : List va_W).flatten H := hP
  have hD : va_D A ([gX1 E a (fo_s_purpose φ x1)] : List va_W).flatten := hD
  obtain ⟨φ1, e2, h⟩ := lt_e h
  rw [← e2] at hP hD
  refine lv_iconst (v := (nI 0)) hx hb dX1_takeBundle_5 (by decide) ?_
  refine lv_istore_n (lv' := [(2, .int (nI 0)), (0, .ref (a 0)), (1, .int x1)]) hx hb dX1_takeBundle_6 rfl hl (by decide) rfl (fun ls hl => ?_)
  exact L7 fuel ((nI 0)) (φ1) H locs ls hP hD hS (lv_sub hl [1, 0] rfl) h
def f1_fillPlace (x1 : Int32) (x2 : Int32) (φ : Fo) : Option (Fo) := (if x1 < 0 then (some φ) else (if (nI 4) ≤ x1 then (some φ) else (if inb x1 4 = true then (lt (fo_s_bundled φ (upd (fo_bundled φ) (x1).toNatClampNeg x2)) fun φ4 => (some φ4)) else none)))
set_option maxHeartbeats 4000000 in
set_option maxRecDepth 100000 in
theorem c1_fillPlace (l : Launch) (E : PE) (a : Nat → Nat)  (x1 : Int32) (x2 : Int32) (φ : Fo) (z_this_φ : Fo) (h : f1_fillPlace x1 x2 φ = some z_this_φ) : MW l yX1_fillPlace cX1_fillPlace 3 none { frames := 0, cells := 0, slots := 0, locals := 0 } E [.ref (a 0), .int x1, .int x2] ([gX1 E a φ] : List va_W).flatten 0 0 none ([gX1 E a z_this_φ] : List va_W).flatten := by
  refine px_startW (by decide +kernel) (Nat.le_of_ble_eq_true rfl) ?_
  intro p e s m args below meth c R Q A ls hC hA0 hQ
  obtain ⟨hx, hb, hr, hml, hts, hown, hlocks, hR, hK, hN, hP, hD, hA, hl, hin⟩ := hC
  have hl : lv_has ls 3 [(0, .ref (a 0)), (1, .int x1), (2, .int x2)] := hl
  suffices key : ∀ (H : Heap) (locs : List Loc), va_P E.1 vwCl ([gX1 E a φ] : List va_W).flatten H → va_S A s.heap H locs → W p l e R s m args below meth c H locs 0 0 Q (F0 m 0 ls []) from key s.heap [] hP va_S.rf
  unfold f1_fillPlace at h
  intro H locs hP hS
  refine lv_iload_n hx hb dX1_fillPlace_0 rfl (lv_at hl 1 rfl) ?_
  refine lv_if_lt (tgt := 16) hx hb dX1_fillPlace_1 (by decide) (fun c1 => ?_) (fun c1 => ?_)
  · rw [if_pos c1] at h
    cases h
    exact px_eWv hA0 hQ hP hD hS hx hb hr hlocks dX1_fillPlace_16
  · rw [if_neg c1] at h
    refine lv_iload_n hx hb dX1_fillPlace_4 rfl (lv_at hl 1 rfl) ?_
    refine lv_iconst (v := (nI 4)) hx hb dX1_fillPlace_5 (by decide) ?_
    refine lv_icmp_ge (tgt := 16) hx hb dX1_fillPlace_6 (by decide) (fun c2 => ?_) (fun c2 => ?_)
    · rw [if_pos c2] at h
      cases h
      exact px_eWv hA0 hQ hP hD hS hx hb hr hlocks dX1_fillPlace_16
    · rw [if_neg c2] at h
      refine lv_aload_n hx hb dX1_fillPlace_9 rfl (lv_at hl 0 rfl) ?_
      refine va_get (D := E.1) (ci := 1) (v := .ref (a 8)) (C := RX1) (T := TX1) (N := 11) hx hb hts iX1 hown hK hP 0 rfl rfl 10 (by decide) (hts _ q73) (fun _ h9 => h9) rfl dX1_fillPlace_10 ?_
      refine lv_iload_n hx hb dX1_fillPlace_13 rfl (lv_at hl 1 rfl) ?_
      refine lv_iload_n hx hb dX1_fillPlace_14 rfl (lv_at hl 2 rfl) ?_
      obtain ⟨i3, h⟩ := o_t h
      refine va_iast (f := (fo_bundled φ)) hx hb hK hP hD hS 8 0 rfl rfl (inb_in i3) dX1_fillPlace_15 (fun H locs hP hD hS => ?_)
      have hP : va_P E.1 vwCl ([gX1 E a (fo_s_bundled φ (upd (fo_bundled φ) (x1).toNatClampNeg x2))] : List va_W).flatten H := hP
      have hD : va_D A ([gX1 E a (fo_s_bundled φ (upd (fo_bundled φ) (x1).toNatClampNeg x2))] : List va_W).flatten := hD
      obtain ⟨φ4, e5, h⟩ := lt_e h
      rw [← e5] at hP hD
      cases h
      exact px_eWv hA0 hQ hP hD hS hx hb hr hlocks dX1_fillPlace_16
def f1_addCommit_L124 (x1 : Int32) (x2 : Int32) (x3 : Int32) (mix_row : AI) : Nat → Int32 → Int32 → Fo → Option (Int32 × Fo)
  | 0, _, _, _ => none
  | n + 1, x5, x7, φ => (if (nI 6) ≤ x7 then (if inb x1 5 = true then (lt (fo_s_tips φ (upd (fo_tips φ) (x1).toNatClampNeg x5)) fun φ34 => (lt (fo_s_commits φ34 ((fo_commits φ34) + (nI 1))) fun φ36 => (some (x5, φ36)))) else none) else (if inb x7 6 = true then (if inb ((x5 * (nI 6)) + x7) 144 = true then (lt (fo_s_amounts φ (upd (fo_amounts φ) (((x5 * (nI 6)) + x7)).toNatClampNeg (mix_row (x7).toNatClampNeg))) fun φ40 => (f1_addCommit_L124 x1 x2 x3 mix_row n (x5) ((x7 + nI 1)) (φ40))) else none) else none))
def f1_addCommit (x1 : Int32) (x2 : Int32) (x3 : Int32) (φ : Fo) (mix_row : AI) : Option (Int32 × Fo) := (if (fo_commits φ) < 0 then (some ((-1 : Int32), φ)) else (if (nI 24) ≤ (fo_commits φ) then (some ((-1 : Int32), φ)) else ((f1_isBranch (x1) (φ)).bind fun r3 => (if (b2i r3) = 0 then (some ((-1 : Int32), φ)) else (if inb x1 5 = true then (if inb (fo_commits φ) 24 = true then (lt (fo_s_kinds φ (upd (fo_kinds φ) ((fo_commits φ)).toNatClampNeg x2)) fun φ8 => (if inb (fo_commits φ) 24 = true then (lt (fo_s_firsts φ8 (upd (fo_firsts φ8) ((fo_commits φ)).toNatClampNeg ((fo_tips φ) (x1).toNatClampNeg))) fun φ11 => (if inb (fo_commits φ) 24 = true then (lt (fo_s_seconds φ11 (upd (fo_seconds φ11) ((fo_commits φ)).toNatClampNeg x3)) fun φ14 => ((f8_setOf ((fo_commits φ))).bind fun r16 => ((f1_familyOf (((fo_tips φ) (x1).toNatClampNeg)) (φ14)).bind fun r18 => ((f1_familyOf (x3) (φ14)).bind fun r20 => (if inb (fo_commits φ) 24 = true then (lt (fo_s_families φ14 (upd (fo_families φ14) ((fo_commits φ)).toNatClampNeg ((r16 ||| r18) ||| r20))) fun φ23 => ((f1_depthOf (((fo_tips φ) (x1).toNatClampNeg)) (φ23)).bind fun r25 => ((f1_depthOf (x3) (φ23)).bind fun r27 => (if inb (fo_commits φ) 24 = true then (lt (fo_s_depths φ23 (upd (fo_depths φ23) ((fo_commits φ)).toNatClampNeg ((nI 1) + (if r25 < r27 then r27 else r25)))) fun φ30 => (f1_addCommit_L124 x1 x2 x3 mix_row fuel ((fo_commits φ)) ((nI 0)) (φ30))) else none)))) else none))))) else none)) else none)) else none) else none)))))
set_option maxHeartbeats 4000000 in
set_option maxRecDepth 100000 in
theorem c1_addCommit (l : Launch) (E : PE) (a : Nat → Nat) (a_mix : Nat → Nat)  (x1 : Int32) (x2 : Int32) (x3 : Int32) (φ : Fo) (mix_row : AI) (mix_conflictCount : Int32) (mix_lowest : Int32) (r : Int32) (z_this_φ : Fo) (h : f1_addCommit x1 x2 x3 φ mix_row = some (r, z_this_φ)) : MW l yX1_addCommit cX1_addCommit 8 (some .int) { frames := 1, cells := 0, slots := 0, locals := 21 } E [.ref (a 0), .int x1, .int x2, .int x3, .ref (a_mix 1)] ([gX1 E a φ, gX5 E a_mix mix_row mix_conflictCount mix_lowest] : List va_W).flatten 0 0 (some (.int r)) ([gX1 E a z_this_φ, gX5 E a_mix mix_row mix_conflictCount mix_lowest] : List va_W).flatten := by
  refine px_startW (by decide +kernel) (Nat.le_of_ble_eq_true rfl) ?_
  intro p e s m args below meth c R Q A ls hC hA0 hQ
  obtain ⟨hx, hb, hr, hml, hts, hown, hlocks, hR, hK, hN, hP, hD, hA, hl, hin⟩ := hC
  have hl : lv_has ls 8 [(0, .ref (a 0)), (1, .int x1), (2, .int x2), (3, .int x3), (4, .ref (a_mix 1))] := hl
  suffices key : ∀ (H : Heap) (locs : List Loc), va_P E.1 vwCl ([gX1 E a φ, gX5 E a_mix mix_row mix_conflictCount mix_lowest] : List va_W).flatten H → va_S A s.heap H locs → W p l e R s m args below meth c H locs 0 0 Q (F0 m 0 ls []) from key s.heap [] hP va_S.rf
  unfold f1_addCommit at h
  have L124 : ∀ (n : Nat) (x5 : Int32) (x7 : Int32) (φ : Fo) (H : Heap) (locs : List Loc) (ls : Array Slot), va_P E.1 vwCl ([gX1 E a φ, gX5 E a_mix mix_row mix_conflictCount mix_lowest] : List va_W).flatten H → va_D A ([gX1 E a φ, gX5 E a_mix mix_row mix_conflictCount mix_lowest] : List va_W).flatten → va_S A s.heap H locs → lv_has ls 8 [(0, .ref (a 0)), (1, .int x1), (4, .ref (a_mix 1)), (5, .int x5), (7, .int x7)] → f1_addCommit_L124 x1 x2 x3 mix_row n x5 x7 φ = some (r, z_this_φ) → W p l e R s m args below meth c H locs 0 0 Q (F0 m 124 ls []) := by
    intro n
    induction n with
    | zero =>
      intro x5 x7 φ H locs ls hP hD hS hl h
      unfold f1_addCommit_L124 at h; cases h
    | succ n ih =>
      intro x5 x7 φ H locs ls hP hD hS hl h
      unfold f1_addCommit_L124 at h
      refine lv_iload hx hb dX1_addCommit_124 (lv_at hl 4 rfl) ?_
      refine lv_bipush (v := (nI 6)) hx hb dX1_addCommit_126 (by decide) ?_
      refine lv_icmp_ge (tgt := 155) hx hb dX1_addCommit_128 (by decide) (fun c32 => ?_) (fun c32 => ?_)
      · rw [if_pos c32] at h
        refine lv_aload_n hx hb dX1_addCommit_155 rfl (lv_at hl 0 rfl) ?_
        refine va_get (D := E.1) (ci := 1) (v := .ref (a 7)) (C := RX1) (T := TX1) (N := 11) hx hb hts iX1 hown hK hP 0 rfl rfl 9 (by decide) (hts _ q72) (fun _ h9 => h9) rfl dX1_addCommit_156 ?_
        refine lv_iload_n hx hb dX1_addCommit_159 rfl (lv_at hl 1 rfl) ?_
        refine lv_iload hx hb dX1_addCommit_160 (lv_at hl 3 rfl) ?_
        obtain ⟨i33, h⟩ := o_t h
        refine va_iast (f := (fo_tips φ)) hx hb hK hP hD hS 7 0 rfl rfl (inb_in i33) dX1_addCommit_162 (fun H locs hP hD hS => ?_)
        have hP : va_P E.1 vwCl ([gX1 E a (fo_s_tips φ (upd (fo_tips φ) (x1).toNatClampNeg x5)), gX5 E a_mix mix_row mix_conflictCount mix_lowest] : List va_W).flatten H := hP
        have hD : va_D A ([gX1 E a (fo_s_tips φ (upd (fo_tips φ) (x1).toNatClampNeg x5)), gX5 E a_mix mix_row mix_conflictCount mix_lowest] : List va_W).flatten := hD
        obtain ⟨φ34, e35, h⟩ := lt_e h
        rw [← e35] at hP hD
        refine lv_aload_n hx hb dX1_addCommit_163 rfl (lv_at hl 0 rfl) ?_
        refine lv_dup hx hb dX1_addCommit_164 rfl ?_
        refine va_get (D := E.1) (ci := 1) (v := .int (fo_commits φ34)) (C := RX1) (T := TX1) (N := 11) hx hb hts iX1 hown hK hP 0 rfl rfl 0 (by decide) (hts _ q63) (fun _ h9 => h9) rfl dX1_addCommit_165 ?_
        refine lv_iconst (v := (nI 1)) hx hb dX1_addCommit_168 (by decide) ?_
        refine lv_iadd hx hb dX1_addCommit_169 ?_
        refine va_put (D := E.1) (ci := 1) (v := .int ((fo_commits φ34) + (nI 1))) (ty := .int) (C := RX1) (T := TX1) (N := 11) hx hb hts iX1 tyX1 tyX1_ok nmX1 hown hK hP hD hS 0 rfl rfl 0 (by decide) (hts _ q63) (fun _ h9 => h9) rfl (tyX1_ok 0 (by decide)) rfl rfl (Nat.le_of_ble_eq_true rfl) dX1_addCommit_170 (fun H locs hP hD hS => ?_)
        have hP : va_P E.1 vwCl ([gX1 E a (fo_s_commits φ34 ((fo_commits φ34) + (nI 1))), gX5 E a_mix mix_row mix_conflictCount mix_lowest] : List va_W).flatten H := hP
        have hD : va_D A ([gX1 E a (fo_s_commits φ34 ((fo_commits φ34) + (nI 1))), gX5 E a_mix mix_row mix_conflictCount mix_lowest] : List va_W).flatten := hD
        obtain ⟨φ36, e37, h⟩ := lt_e h
        rw [← e37] at hP hD
        refine lv_iload hx hb dX1_addCommit_173 (lv_at hl 3 rfl) ?_
        cases h
        exact px_eWi hA0 hQ hP hD hS hx hb hr hlocks dX1_addCommit_175
      · rw [if_neg c32] at h
        refine lv_aload_n hx hb dX1_addCommit_131 rfl (lv_at hl 0 rfl) ?_
        refine va_get (D := E.1) (ci := 1) (v := .ref (a 6)) (C := RX1) (T := TX1) (N := 11) hx hb hts iX1 hown hK hP 0 rfl rfl 8 (by decide) (hts _ q71) (fun _ h9 => h9) rfl dX1_addCommit_132 ?_
        refine lv_iload hx hb dX1_addCommit_135 (lv_at hl 3 rfl) ?_
        refine lv_bipush (v := (nI 6)) hx hb dX1_addCommit_137 (by decide) ?_
        refine lv_imul hx hb dX1_addCommit_139 ?_
        refine lv_iload hx hb dX1_addCommit_140 (lv_at hl 4 rfl) ?_
        refine lv_iadd hx hb dX1_addCommit_142 ?_
        refine lv_aload hx hb dX1_addCommit_143 (lv_at hl 2 rfl) ?_
        refine lv_iload hx hb dX1_addCommit_145 (lv_at hl 4 rfl) ?_
        obtain ⟨i38, h⟩ := o_t h
        refine va_iald (f := mix_row) hx hb hK hP 10 0 rfl rfl (inb_in i38) dX1_addCommit_147 ?_
        obtain ⟨i39, h⟩ := o_t h
        refine va_iast (f := (fo_amounts φ)) hx hb hK hP hD hS 6 0 rfl rfl (inb_in i39) dX1_addCommit_148 (fun H locs hP hD hS => ?_)
        have hP : va_P E.1 vwCl ([gX1 E a (fo_s_amounts φ (upd (fo_amounts φ) (((x5 * (nI 6)) + x7)).toNatClampNeg (mix_row (x7).toNatClampNeg))), gX5 E a_mix mix_row mix_conflictCount mix_lowest] : List va_W).flatten H := hP
        have hD : va_D A ([gX1 E a (fo_s_amounts φ (upd (fo_amounts φ) (((x5 * (nI 6)) + x7)).toNatClampNeg (mix_row (x7).toNatClampNeg))), gX5 E a_mix mix_row mix_conflictCount mix_lowest] : List va_W).flatten := hD
        obtain ⟨φ40, e41, h⟩ := lt_e h
        rw [← e41] at hP hD
        refine lv_iinc (v := (x7 + nI 1)) (lv' := [(7, .int (x7 + nI 1)), (0, .ref (a 0)), (1, .int x1), (4, .ref (a_mix 1)), (5, .int x5)]) hx hb dX1_addCommit_149 hl (k := 4) rfl rfl (by decide) rfl (fun ls hl => ?_)
        refine lv_goto (tgt := 124) hx hb dX1_addCommit_152 (by decide) ?_
        exact ih (x5) ((x7 + nI 1)) (φ40) H locs ls hP hD hS (lv_sub hl [1, 2, 3, 4, 0] rfl) h
  intro H locs hP hS
  refine lv_aload_n hx hb dX1_addCommit_0 rfl (lv_at hl 0 rfl) ?_
  refine va_get (D := E.1) (ci := 1) (v := .int (fo_commits φ)) (C := RX1) (T := TX1) (N := 11) hx hb hts iX1 hown hK hP 0 rfl rfl 0 (by decide) (hts _ q63) (fun _ h9 => h9) rfl dX1_addCommit_1 ?_
  refine lv_if_lt (tgt := 32) hx hb dX1_addCommit_4 (by decide) (fun c1 => ?_) (fun c1 => ?_)
  · rw [if_pos c1] at h
    refine lv_iconst (v := (-1 : Int32)) hx hb dX1_addCommit_32 (by decide) ?_
    cases h
    exact px_eWi hA0 hQ hP hD hS hx hb hr hlocks dX1_addCommit_33
  · rw [if_neg c1] at h
    refine lv_aload_n hx hb dX1_addCommit_7 rfl (lv_at hl 0 rfl) ?_
    refine va_get (D := E.1) (ci := 1) (v := .int (fo_commits φ)) (C := RX1) (T := TX1) (N := 11) hx hb hts iX1 hown hK hP 0 rfl rfl 0 (by decide) (hts _ q63) (fun _ h9 => h9) rfl dX1_addCommit_8 ?_
    refine lv_bipush (v := (nI 24)) hx hb dX1_addCommit_11 (by decide) ?_
    refine lv_icmp_ge (tgt := 32) hx hb dX1_addCommit_13 (by decide) (fun c2 => ?_) (fun c2 => ?_)
    · rw [if_pos c2] at h
      refine lv_iconst (v := (-1 : Int32)) hx hb dX1_addCommit_32 (by decide) ?_
      cases h
      exact px_eWi hA0 hQ hP hD hS hx hb hr hlocks dX1_addCommit_33
    · rw [if_neg c2] at h
      refine lv_aload_n hx hb dX1_addCommit_16 rfl (lv_at hl 0 rfl) ?_
      refine lv_iload_n hx hb dX1_addCommit_17 rfl (lv_at hl 1 rfl) ?_
      obtain ⟨r3, hr4, h⟩ := ob h
      refine px_Vp (As := [.int x1]) (rest := []) (gs := ([gX1 E a φ, gX5 E a_mix mix_row mix_conflictCount mix_lowest] : List va_W)) (gc := ([gX1 E a φ] : List va_W)) ⟨hx, hb, hml, hown, hts⟩ (c1_isBranch l E a  (x1) (φ) r3 hr4) (cwV 1 hts (ws_v q323 q285 q286 q19 q287) rfl rfl rfl hdV_X1_isBranch (by rw [hR]; exact ⟨Nat.le_of_ble_eq_true rfl, Nat.le_of_ble_eq_true rfl⟩)) hK hN hP hD [0] rfl (by decide) 0 1 rfl rfl rfl rfl hl.1 rfl (Nat.le_of_ble_eq_true rfl) dX1_addCommit_18 (by rw [hR]; exact ⟨Nat.le_of_ble_eq_true rfl, Nat.le_of_ble_eq_true rfl⟩) ?_
      refine W.eq (g2 := F0 m 21 ls [.int (b2i r3)]) rfl ?_
      refine lv_if_eq (tgt := 32) hx hb dX1_addCommit_21 (by decide) (fun c5 => ?_) (fun c5 => ?_)
      · rw [if_pos c5] at h
        refine lv_iconst (v := (-1 : Int32)) hx hb dX1_addCommit_32 (by decide) ?_
        cases h
        exact px_eWi hA0 hQ hP hD hS hx hb hr hlocks dX1_addCommit_33
      · rw [if_neg c5] at h
        refine lv_aload hx hb dX1_addCommit_24 (lv_at hl 4 rfl) ?_
        refine va_alen (v := (nI 6)) hx hb hK hP 10 0 rfl rfl rfl dX1_addCommit_26 ?_
        refine lv_bipush (v := (nI 6)) hx hb dX1_addCommit_27 (by decide) ?_
        refine lv_icmp_ge (tgt := 34) hx hb dX1_addCommit_29 (by decide) (fun _ => ?_) (fun c => absurd c (by decide))
        refine lv_aload_n hx hb dX1_addCommit_34 rfl (lv_at hl 0 rfl) ?_
        refine va_get (D := E.1) (ci := 1) (v := .int (fo_commits φ)) (C := RX1) (T := TX1) (N := 11) hx hb hts iX1 hown hK hP 0 rfl rfl 0 (by decide) (hts _ q63) (fun _ h9 => h9) rfl dX1_addCommit_35 ?_
        refine lv_istore (lv' := [(5, .int (fo_commits φ)), (0, .ref (a 0)), (1, .int x1), (2, .int x2), (3, .int x3), (4, .ref (a_mix 1))]) hx hb dX1_addCommit_38 hl (by decide) rfl (fun ls hl => ?_)
        refine lv_aload_n hx hb dX1_addCommit_40 rfl (lv_at hl 1 rfl) ?_
        refine va_get (D := E.1) (ci := 1) (v := .ref (a 7)) (C := RX1) (T := TX1) (N := 11) hx hb hts iX1 hown hK hP 0 rfl rfl 9 (by decide) (hts _ q72) (fun _ h9 => h9) rfl dX1_addCommit_41 ?_
        refine lv_iload_n hx hb dX1_addCommit_44 rfl (lv_at hl 2 rfl) ?_
        obtain ⟨i6, h⟩ := o_t h
        refine va_iald (f := (fo_tips φ)) hx hb hK hP 7 0 rfl rfl (inb_in i6) dX1_addCommit_45 ?_
        refine lv_istore (lv' := [(6, .int ((fo_tips φ) (x1).toNatClampNeg)), (5, .int (fo_commits φ)), (0, .ref (a 0)), (1, .int x1), (2, .int x2), (3, .int x3), (4, .ref (a_mix 1))]) hx hb dX1_addCommit_46 hl (by decide) rfl (fun ls hl => ?_)
        refine lv_aload_n hx hb dX1_addCommit_48 rfl (lv_at hl 2 rfl) ?_
        refine va_get (D := E.1) (ci := 1) (v := .ref (a 1)) (C := RX1) (T := TX1) (N := 11) hx hb hts iX1 hown hK hP 0 rfl rfl 3 (by decide) (hts _ q66) (fun _ h9 => h9) rfl dX1_addCommit_49 ?_
        refine lv_iload hx hb dX1_addCommit_52 (lv_at hl 1 rfl) ?_
        refine lv_iload_n hx hb dX1_addCommit_54 rfl (lv_at hl 4 rfl) ?_
        obtain ⟨i7, h⟩ := o_t h
        refine va_iast (f := (fo_kinds φ)) hx hb hK hP hD hS 1 0 rfl rfl (inb_in i7) dX1_addCommit_55 (fun H locs hP hD hS => ?_)
        have hP : va_P E.1 vwCl ([gX1 E a (fo_s_kinds φ (upd (fo_kinds φ) ((fo_commits φ)).toNatClampNeg x2)), gX5 E a_mix mix_row mix_conflictCount mix_lowest] : List va_W).flatten H := hP
        have hD : va_D A ([gX1 E a (fo_s_kinds φ (upd (fo_kinds φ) ((fo_commits φ)).toNatClampNeg x2)), gX5 E a_mix mix_row mix_conflictCount mix_lowest] : List va_W).flatten := hD
        obtain ⟨φ8, e9, h⟩ := lt_e h
        rw [← e9] at hP hD
        refine lv_aload_n hx hb dX1_addCommit_56 rfl (lv_at hl 2 rfl) ?_
        refine va_get (D := E.1) (ci := 1) (v := .ref (a 2)) (C := RX1) (T := TX1) (N := 11) hx hb hts iX1 hown hK hP 0 rfl rfl 4 (by decide) (hts _ q67) (fun _ h9 => h9) rfl dX1_addCommit_57 ?_
        refine lv_iload hx hb dX1_addCommit_60 (lv_at hl 1 rfl) ?_
        refine lv_iload hx hb dX1_addCommit_62 (lv_at hl 0 rfl) ?_
        obtain ⟨i10, h⟩ := o_t h
        refine va_iast (f := (fo_firsts φ8)) hx hb hK hP hD hS 2 0 rfl rfl (inb_in i10) dX1_addCommit_64 (fun H locs hP hD hS => ?_)
        have hP : va_P E.1 vwCl ([gX1 E a (fo_s_firsts φ8 (upd (fo_firsts φ8) ((fo_commits φ)).toNatClampNeg ((fo_tips φ) (x1).toNatClampNeg))), gX5 E a_mix mix_row mix_conflictCount mix_lowest] : List va_W).flatten H := hP
        have hD : va_D A ([gX1 E a (fo_s_firsts φ8 (upd (fo_firsts φ8) ((fo_commits φ)).toNatClampNeg ((fo_tips φ) (x1).toNatClampNeg))), gX5 E a_mix mix_row mix_conflictCount mix_lowest] : List va_W).flatten := hD
        obtain ⟨φ11, e12, h⟩ := lt_e h
        rw [← e12] at hP hD
        refine lv_aload_n hx hb dX1_addCommit_65 rfl (lv_at hl 2 rfl) ?_
        refine va_get (D := E.1) (ci := 1) (v := .ref (a 3)) (C := RX1) (T := TX1) (N := 11) hx hb hts iX1 hown hK hP 0 rfl rfl 5 (by decide) (hts _ q68) (fun _ h9 => h9) rfl dX1_addCommit_66 ?_
        refine lv_iload hx hb dX1_addCommit_69 (lv_at hl 1 rfl) ?_
        refine lv_iload_n hx hb dX1_addCommit_71 rfl (lv_at hl 5 rfl) ?_
        obtain ⟨i13, h⟩ := o_t h
        refine va_iast (f := (fo_seconds φ11)) hx hb hK hP hD hS 3 0 rfl rfl (inb_in i13) dX1_addCommit_72 (fun H locs hP hD hS => ?_)
        have hP : va_P E.1 vwCl ([gX1 E a (fo_s_seconds φ11 (upd (fo_seconds φ11) ((fo_commits φ)).toNatClampNeg x3)), gX5 E a_mix mix_row mix_conflictCount mix_lowest] : List va_W).flatten H := hP
        have hD : va_D A ([gX1 E a (fo_s_seconds φ11 (upd (fo_seconds φ11) ((fo_commits φ)).toNatClampNeg x3)), gX5 E a_mix mix_row mix_conflictCount mix_lowest] : List va_W).flatten := hD
        obtain ⟨φ14, e15, h⟩ := lt_e h
        rw [← e15] at hP hD
        refine lv_aload_n hx hb dX1_addCommit_73 rfl (lv_at hl 2 rfl) ?_
        refine va_get (D := E.1) (ci := 1) (v := .ref (a 4)) (C := RX1) (T := TX1) (N := 11) hx hb hts iX1 hown hK hP 0 rfl rfl 6 (by decide) (hts _ q69) (fun _ h9 => h9) rfl dX1_addCommit_74 ?_
        refine lv_iload hx hb dX1_addCommit_77 (lv_at hl 1 rfl) ?_
        refine lv_iload hx hb dX1_addCommit_79 (lv_at hl 1 rfl) ?_
        obtain ⟨r16, hr17, h⟩ := ob h
        refine px_SNp (As := [.int (fo_commits φ)]) (rest := [.int (fo_commits φ), .ref (a 4)]) (gs := ([gX1 E a φ14, gX5 E a_mix mix_row mix_conflictCount mix_lowest] : List va_W)) (gc := ([] : List va_W)) ⟨hx, hb, hml, hown, hts⟩ (c8_setOf l E   ((fo_commits φ))  r16 hr17) ⟨va_cnB 1 hts (ws_g q326) rfl rfl rfl (hN _ (List.mem_of_getElem? (i := 2) rfl)) (hts _ q18) hdS_X8_setOf (by rw [hR]; exact ⟨Nat.le_of_ble_eq_true rfl, Nat.le_of_ble_eq_true rfl⟩), hts _ q325, trivial⟩ hK hN hP hD [] rfl (by decide) rfl hl.1 rfl (Nat.le_of_ble_eq_true rfl) dX1_addCommit_81 (by rw [hR]; exact ⟨Nat.le_of_ble_eq_true rfl, Nat.le_of_ble_eq_true rfl⟩) ?_
        refine W.eq (g2 := F0 m 84 ls [.int r16, .int (fo_commits φ), .ref (a 4)]) rfl ?_
        refine lv_aload_n hx hb dX1_addCommit_84 rfl (lv_at hl 2 rfl) ?_
        refine lv_iload hx hb dX1_addCommit_85 (lv_at hl 0 rfl) ?_
        obtain ⟨r18, hr19, h⟩ := ob h
        refine px_Vp (As := [.int ((fo_tips φ) (x1).toNatClampNeg)]) (rest := [.int r16, .int (fo_commits φ), .ref (a 4)]) (gs := ([gX1 E a φ14, gX5 E a_mix mix_row mix_conflictCount mix_lowest] : List va_W)) (gc := ([gX1 E a φ14] : List va_W)) ⟨hx, hb, hml, hown, hts⟩ (c1_familyOf l E a  (((fo_tips φ) (x1).toNatClampNeg)) (φ14) r18 hr19) (cwV 1 hts (ws_v q327 q328 q329 q19 q330) rfl rfl rfl hdV_X1_familyOf (by rw [hR]; exact ⟨Nat.le_of_ble_eq_true rfl, Nat.le_of_ble_eq_true rfl⟩)) hK hN hP hD [0] rfl (by decide) 0 1 rfl rfl rfl rfl hl.1 rfl (Nat.le_of_ble_eq_true rfl) dX1_addCommit_87 (by rw [hR]; exact ⟨Nat.le_of_ble_eq_true rfl, Nat.le_of_ble_eq_true rfl⟩) ?_
        refine W.eq (g2 := F0 m 90 ls [.int r18, .int r16, .int (fo_commits φ), .ref (a 4)]) rfl ?_
        refine lv_ior hx hb dX1_addCommit_90 ?_
        refine lv_aload_n hx hb dX1_addCommit_91 rfl (lv_at hl 2 rfl) ?_
        refine lv_iload_n hx hb dX1_addCommit_92 rfl (lv_at hl 5 rfl) ?_
        obtain ⟨r20, hr21, h⟩ := ob h
        refine px_Vp (As := [.int x3]) (rest := [.int (r16 ||| r18), .int (fo_commits φ), .ref (a 4)]) (gs := ([gX1 E a φ14, gX5 E a_mix mix_row mix_conflictCount mix_lowest] : List va_W)) (gc := ([gX1 E a φ14] : List va_W)) ⟨hx, hb, hml, hown, hts⟩ (c1_familyOf l E a  (x3) (φ14) r20 hr21) (cwV 1 hts (ws_v q327 q328 q329 q19 q330) rfl rfl rfl hdV_X1_familyOf (by rw [hR]; exact ⟨Nat.le_of_ble_eq_true rfl, Nat.le_of_ble_eq_true rfl⟩)) hK hN hP hD [0] rfl (by decide) 0 1 rfl rfl rfl rfl hl.1 rfl (Nat.le_of_ble_eq_true rfl) dX1_addCommit_93 (by rw [hR]; exact ⟨Nat.le_of_ble_eq_true rfl, Nat.le_of_ble_eq_true rfl⟩) ?_
        refine W.eq (g2 := F0 m 96 ls [.int r20, .int (r16 ||| r18), .int (fo_commits φ), .ref (a 4)]) rfl ?_
        refine lv_ior hx hb dX1_addCommit_96 ?_
        obtain ⟨i22, h⟩ := o_t h
        refine va_iast (f := (fo_families φ14)) hx hb hK hP hD hS 4 0 rfl rfl (inb_in i22) dX1_addCommit_97 (fun H locs hP hD hS => ?_)
        have hP : va_P E.1 vwCl ([gX1 E a (fo_s_families φ14 (upd (fo_families φ14) ((fo_commits φ)).toNatClampNeg ((r16 ||| r18) ||| r20))), gX5 E a_mix mix_row mix_conflictCount mix_lowest] : List va_W).flatten H := hP
        have hD : va_D A ([gX1 E a (fo_s_families φ14 (upd (fo_families φ14) ((fo_commits φ)).toNatClampNeg ((r16 ||| r18) ||| r20))), gX5 E a_mix mix_row mix_conflictCount mix_lowest] : List va_W).flatten := hD
        obtain ⟨φ23, e24, h⟩ := lt_e h
        rw [← e24] at hP hD
        refine lv_aload_n hx hb dX1_addCommit_98 rfl (lv_at hl 2 rfl) ?_
        refine va_get (D := E.1) (ci := 1) (v := .ref (a 5)) (C := RX1) (T := TX1) (N := 11) hx hb hts iX1 hown hK hP 0 rfl rfl 7 (by decide) (hts _ q70) (fun _ h9 => h9) rfl dX1_addCommit_99 ?_
        refine lv_iload hx hb dX1_addCommit_102 (lv_at hl 1 rfl) ?_
        refine lv_iconst (v := (nI 1)) hx hb dX1_addCommit_104 (by decide) ?_
        refine lv_aload_n hx hb dX1_addCommit_105 rfl (lv_at hl 2 rfl) ?_
        refine lv_iload hx hb dX1_addCommit_106 (lv_at hl 0 rfl) ?_
        obtain ⟨r25, hr26, h⟩ := ob h
        refine px_Vp (As := [.int ((fo_tips φ) (x1).toNatClampNeg)]) (rest := [.int (nI 1), .int (fo_commits φ), .ref (a 5)]) (gs := ([gX1 E a φ23, gX5 E a_mix mix_row mix_conflictCount mix_lowest] : List va_W)) (gc := ([gX1 E a φ23] : List va_W)) ⟨hx, hb, hml, hown, hts⟩ (c1_depthOf l E a  (((fo_tips φ) (x1).toNatClampNeg)) (φ23) r25 hr26) (cwV 1 hts (ws_v q331 q332 q333 q19 q334) rfl rfl rfl hdV_X1_depthOf (by rw [hR]; exact ⟨Nat.le_of_ble_eq_true rfl, Nat.le_of_ble_eq_true rfl⟩)) hK hN hP hD [0] rfl (by decide) 0 1 rfl rfl rfl rfl hl.1 rfl (Nat.le_of_ble_eq_true rfl) dX1_addCommit_108 (by rw [hR]; exact ⟨Nat.le_of_ble_eq_true rfl, Nat.le_of_ble_eq_true rfl⟩) ?_
        refine W.eq (g2 := F0 m 111 ls [.int r25, .int (nI 1), .int (fo_commits φ), .ref (a 5)]) rfl ?_
        refine lv_aload_n hx hb dX1_addCommit_111 rfl (lv_at hl 2 rfl) ?_
        refine lv_iload_n hx hb dX1_addCommit_112 rfl (lv_at hl 5 rfl) ?_
        obtain ⟨r27, hr28, h⟩ := ob h
        refine px_Vp (As := [.int x3]) (rest := [.int r25, .int (nI 1), .int (fo_commits φ), .ref (a 5)]) (gs := ([gX1 E a φ23, gX5 E a_mix mix_row mix_conflictCount mix_lowest] : List va_W)) (gc := ([gX1 E a φ23] : List va_W)) ⟨hx, hb, hml, hown, hts⟩ (c1_depthOf l E a  (x3) (φ23) r27 hr28) (cwV 1 hts (ws_v q331 q332 q333 q19 q334) rfl rfl rfl hdV_X1_depthOf (by rw [hR]; exact ⟨Nat.le_of_ble_eq_true rfl, Nat.le_of_ble_eq_true rfl⟩)) hK hN hP hD [0] rfl (by decide) 0 1 rfl rfl rfl rfl hl.1 rfl (Nat.le_of_ble_eq_true rfl) dX1_addCommit_113 (by rw [hR]; exact ⟨Nat.le_of_ble_eq_true rfl, Nat.le_of_ble_eq_true rfl⟩) ?_
        refine W.eq (g2 := F0 m 116 ls [.int r27, .int r25, .int (nI 1), .int (fo_commits φ), .ref (a 5)]) rfl ?_
        refine va_mmax hx hb (hml.trans hl.1.symm) hown (hts _ q335) (hts _ q336) (hts _ q32) (hts _ q337) (by rw [hR]; exact Nat.le_of_ble_eq_true rfl) (by rw [hR]; exact Nat.le_of_ble_eq_true rfl) (by rw [hR]; exact Nat.le_of_ble_eq_true rfl) (by rw [hR]; exact Nat.le_of_ble_eq_true rfl) dX1_addCommit_116 ?_
        refine lv_iadd hx hb dX1_addCommit_119 ?_
        obtain ⟨i29, h⟩ := o_t h
        refine va_iast (f := (fo_depths φ23)) hx hb hK hP hD hS 5 0 rfl rfl (inb_in i29) dX1_addCommit_120 (fun H locs hP hD hS => ?_)
        have hP : va_P E.1 vwCl ([gX1 E a (fo_s_depths φ23 (upd (fo_depths φ23) ((fo_commits φ)).toNatClampNeg ((nI 1) + (if r25 < r27 then r27 else r25)))), gX5 E a_mix mix_row mix_conflictCount mix_lowest] : List va_W).flatten H := hP
        have hD : va_D A ([gX1 E a (fo_s_depths φ23 (upd (fo_depths φ23) ((fo_commits φ)).toNatClampNeg ((nI 1) + (if r25 < r27 then r27 else r25)))), gX5 E a_mix mix_row mix_conflictCount mix_lowest] : List va_W).flatten := hD
        obtain ⟨φ30, e31, h⟩ := lt_e h
        rw [← e31] at hP hD
        refine lv_iconst (v := (nI 0)) hx hb dX1_addCommit_121 (by decide) ?_
        refine lv_istore (lv' := [(7, .int (nI 0)), (6, .int ((fo_tips φ) (x1).toNatClampNeg)), (5, .int (fo_commits φ)), (0, .ref (a 0)), (1, .int x1), (2, .int x2), (3, .int x3), (4, .ref (a_mix 1))]) hx hb dX1_addCommit_122 hl (by decide) rfl (fun ls hl => ?_)
        exact L124 fuel ((fo_commits φ)) ((nI 0)) (φ30) H locs ls hP hD hS (lv_sub hl [3, 4, 7, 2, 0] rfl) h
def f1_tasteOf_L7 (x1 : Int32) (φ : Fo) : Nat → UInt32 → Int32 → Int32 → Option (UInt32)
  | 0, _, _, _ => none
  | n + 1, x2, x3, x4 => (if (nI 6) ≤ x4 then (if (Op.cmpValue (FP.fcmp (FP.i2f ((nI 1) + x3)) FP.fconst0) CmpOp.l) ≤ 0 then (some FP.fconst0) else (if nn32 (FP.fdiv x2 (FP.i2f ((nI 1) + x3))) = true then (some (FP.fdiv x2 (FP.i2f ((nI 1) + x3)))) else none)) else ((f1_amountIn (x1) (x4) (φ)).bind fun r4 => (if nn32 (FP.fmul (FP.i2f r4) (FP.i2f (x4 + (nI 1)))) = true then (if nn32 (FP.fdiv (FP.fmul (FP.i2f r4) (FP.i2f (x4 + (nI 1)))) (1090519040 : UInt32)) = true then (if nn32 (FP.fadd x2 (FP.fdiv (FP.fmul (FP.i2f r4) (FP.i2f (x4 + (nI 1)))) (1090519040 : UInt32))) = true then (f1_tasteOf_L7 x1 φ n ((FP.fadd x2 (FP.fdiv (FP.fmul (FP.i2f r4) (FP.i2f (x4 + (nI 1)))) (1090519040 : UInt32)))) ((x3 + r4)) ((x4 + nI 1))) else none) else none) else none)))
def f1_tasteOf (x1 : Int32) (φ : Fo) : Option (UInt32) := (f1_tasteOf_L7 x1 φ fuel (FP.fconst0) ((nI 0)) ((nI 0)))
set_option maxHeartbeats 4000000 in
set_option maxRecDepth 100000 in
theorem c1_tasteOf (l : Launch) (E : PE) (a : Nat → Nat)  (x1 : Int32) (φ : Fo) (r : UInt32) (h : f1_tasteOf x1 φ = some r) : MP l yX1_tasteOf cX1_tasteOf 6 (some .float) { frames := 1, cells := 0, slots := 0, locals := 22 } E [.ref (a 0), .int x1] ([gX1 E a φ] : List va_W).flatten (some (.float r)) := by
  refine px_startP (by decide +kernel) (Nat.le_of_ble_eq_true rfl) ?_
  intro p e s m args below meth c R Q A ls hC hQ
  obtain ⟨hx, hb, hr, hml, hts, hown, hlocks, hR, hK, hN, hP, hD, hA, hl, hin⟩ := hC
  have hl : lv_has ls 6 [(0, .ref (a 0)), (1, .int x1)] := hl
  unfold f1_tasteOf at h
  have L7 : ∀ (n : Nat) (x2 : UInt32) (x3 : Int32) (x4 : Int32) (ls : Array Slot), lv_has ls 6 [(0, .ref (a 0)), (1, .int x1), (2, .float x2), (3, .int x3), (4, .int x4)] → f1_tasteOf_L7 x1 φ n x2 x3 x4 = some r → W p l e R s m args below meth c s.heap [] 0 0 Q (F0 m 7 ls []) := by
    intro n
    induction n with
    | zero =>
      intro x2 x3 x4 ls hl h
      unfold f1_tasteOf_L7 at h; cases h
    | succ n ih =>
      intro x2 x3 x4 ls hl h
      unfold f1_tasteOf_L7 at h
      refine lv_iload hx hb dX1_tasteOf_7 (lv_at hl 4 rfl) ?_
      refine lv_bipush (v := (nI 6)) hx hb dX1_tasteOf_9 (by decide) ?_
      refine lv_icmp_ge (tgt := 49) hx hb dX1_tasteOf_11 (by decide) (fun c1 => ?_) (fun c1 => ?_)
      · rw [if_pos c1] at h
        refine lv_iconst (v := (nI 1)) hx hb dX1_tasteOf_49 (by decide) ?_
        refine lv_iload_n hx hb dX1_tasteOf_50 rfl (lv_at hl 3 rfl) ?_
        refine lv_iadd hx hb dX1_tasteOf_51 ?_
        refine lv_i2f hx hb dX1_tasteOf_52 ?_
        refine lv_fstore (lv' := [(4, .float (FP.i2f ((nI 1) + x3))), (0, .ref (a 0)), (1, .int x1), (2, .float x2), (3, .int x3)]) hx hb dX1_tasteOf_53 hl (by decide) rfl (fun ls hl => ?_)
        refine lv_fload hx hb dX1_tasteOf_55 (lv_at hl 0 rfl) ?_
        refine lv_fconst0 hx hb dX1_tasteOf_57 ?_
        refine lv_fcmp hx hb dX1_tasteOf_58 ?_
        refine lv_if_le (tgt := 69) hx hb dX1_tasteOf_59 (by decide) (fun c2 => ?_) (fun c2 => ?_)
        · rw [if_pos c2] at h
          refine lv_fconst0 hx hb dX1_tasteOf_69 ?_
          cases h
          exact px_ePf hQ hx hb hr hlocks dX1_tasteOf_70
        · rw [if_neg c2] at h
          refine lv_fload_n hx hb dX1_tasteOf_62 rfl (lv_at hl 3 rfl) ?_
          refine lv_fload hx hb dX1_tasteOf_63 (lv_at hl 0 rfl) ?_
          obtain ⟨i3, h⟩ := o_t h
          refine lv_fdiv hx hb dX1_tasteOf_65 (nn32_ok i3) ?_
          refine lv_goto (tgt := 70) hx hb dX1_tasteOf_66 (by decide) ?_
          cases h
          exact px_ePf hQ hx hb hr hlocks dX1_tasteOf_70
      · rw [if_neg c1] at h
        refine lv_aload_n hx hb dX1_tasteOf_14 rfl (lv_at hl 0 rfl) ?_
        refine lv_iload_n hx hb dX1_tasteOf_15 rfl (lv_at hl 1 rfl) ?_
        refine lv_iload hx hb dX1_tasteOf_16 (lv_at hl 4 rfl) ?_
        obtain ⟨r4, hr5, h⟩ := ob h
        refine px_Vp (As := [.int x1, .int x4]) (rest := []) (gs := ([gX1 E a φ] : List va_W)) (gc := ([gX1 E a φ] : List va_W)) ⟨hx, hb, hml, hown, hts⟩ (c1_amountIn l E a  (x1) (x4) (φ) r4 hr5) (cwV 2 hts (ws_v q538 q299 q300 q19 q301) rfl rfl rfl hdV_X1_amountIn (by rw [hR]; exact ⟨Nat.le_of_ble_eq_true rfl, Nat.le_of_ble_eq_true rfl⟩)) hK hN hP hD [0] rfl (by decide) 0 1 rfl rfl rfl rfl hl.1 rfl (Nat.le_of_ble_eq_true rfl) dX1_tasteOf_18 (by rw [hR]; exact ⟨Nat.le_of_ble_eq_true rfl, Nat.le_of_ble_eq_true rfl⟩) ?_
        refine W.eq (g2 := F0 m 21 ls [.int r4]) rfl ?_
        refine lv_istore (lv' := [(5, .int r4), (0, .ref (a 0)), (1, .int x1), (2, .float x2), (3, .int x3), (4, .int x4)]) hx hb dX1_tasteOf_21 hl (by decide) rfl (fun ls hl => ?_)
        refine lv_fload_n hx hb dX1_tasteOf_23 rfl (lv_at hl 3 rfl) ?_
        refine lv_iload hx hb dX1_tasteOf_24 (lv_at hl 0 rfl) ?_
        refine lv_i2f hx hb dX1_tasteOf_26 ?_
        refine lv_iload hx hb dX1_tasteOf_27 (lv_at hl 5 rfl) ?_
        refine lv_iconst (v := (nI 1)) hx hb dX1_tasteOf_29 (by decide) ?_
        refine lv_iadd hx hb dX1_tasteOf_30 ?_
        refine lv_i2f hx hb dX1_tasteOf_31 ?_
        obtain ⟨i6, h⟩ := o_t h
        refine lv_fmul hx hb dX1_tasteOf_32 (nn32_ok i6) ?_
        refine lv_ldcf (v := 1090519040) hx hb hown (hts _ q954) dX1_tasteOf_33 ?_
        obtain ⟨i7, h⟩ := o_t h
        refine lv_fdiv hx hb dX1_tasteOf_35 (nn32_ok i7) ?_
        obtain ⟨i8, h⟩ := o_t h
        refine lv_fadd hx hb dX1_tasteOf_36 (nn32_ok i8) ?_
        refine lv_fstore_n (lv' := [(2, .float (FP.fadd x2 (FP.fdiv (FP.fmul (FP.i2f r4) (FP.i2f (x4 + (nI 1)))) (1090519040 : UInt32)))), (5, .int r4), (0, .ref (a 0)), (1, .int x1), (3, .int x3), (4, .int x4)]) hx hb dX1_tasteOf_37 rfl hl (by decide) rfl (fun ls hl => ?_)
        refine lv_iload_n hx hb dX1_tasteOf_38 rfl (lv_at hl 4 rfl) ?_
        refine lv_iload hx hb dX1_tasteOf_39 (lv_at hl 1 rfl) ?_
        refine lv_iadd hx hb dX1_tasteOf_41 ?_
        refine lv_istore_n (lv' := [(3, .int (x3 + r4)), (2, .float (FP.fadd x2 (FP.fdiv (FP.fmul (FP.i2f r4) (FP.i2f (x4 + (nI 1)))) (1090519040 : UInt32)))), (5, .int r4), (0, .ref (a 0)), (1, .int x1), (4, .int x4)]) hx hb dX1_tasteOf_42 rfl hl (by decide) rfl (fun ls hl => ?_)
        refine lv_iinc (v := (x4 + nI 1)) (lv' := [(4, .int (x4 + nI 1)), (3, .int (x3 + r4)), (2, .float (FP.fadd x2 (FP.fdiv (FP.fmul (FP.i2f r4) (FP.i2f (x4 + (nI 1)))) (1090519040 : UInt32)))), (5, .int r4), (0, .ref (a 0)), (1, .int x1)]) hx hb dX1_tasteOf_43 hl (k := 5) rfl rfl (by decide) rfl (fun ls hl => ?_)
        refine lv_goto (tgt := 7) hx hb dX1_tasteOf_46 (by decide) ?_
        exact ih ((FP.fadd x2 (FP.fdiv (FP.fmul (FP.i2f r4) (FP.i2f (x4 + (nI 1)))) (1090519040 : UInt32)))) ((x3 + r4)) ((x4 + nI 1)) ls (lv_sub hl [4, 5, 2, 1, 0] rfl) h
  refine lv_fconst0 hx hb dX1_tasteOf_0 ?_
  refine lv_fstore_n (lv' := [(2, .float FP.fconst0), (0, .ref (a 0)), (1, .int x1)]) hx hb dX1_tasteOf_1 rfl hl (by decide) rfl (fun ls hl => ?_)
  refine lv_iconst (v := (nI 0)) hx hb dX1_tasteOf_2 (by decide) ?_
  refine lv_istore_n (lv' := [(3, .int (nI 0)), (2, .float FP.fconst0), (0, .ref (a 0)), (1, .int x1)]) hx hb dX1_tasteOf_3 rfl hl (by decide) rfl (fun ls hl => ?_)
  refine lv_iconst (v := (nI 0)) hx hb dX1_tasteOf_4 (by decide) ?_
  refine lv_istore (lv' := [(4, .int (nI 0)), (3, .int (nI 0)), (2, .float FP.fconst0), (0, .ref (a 0)), (1, .int x1)]) hx hb dX1_tasteOf_5 hl (by decide) rfl (fun ls hl => ?_)
  exact L7 fuel (FP.fconst0) ((nI 0)) ((nI 0)) ls (lv_sub hl [3, 4, 2, 1, 0] rfl) h
