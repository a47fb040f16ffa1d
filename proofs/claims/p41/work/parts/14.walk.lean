def f7_follow_L10 (x2 : Int32) (φ_forest : Fo) : Nat → Int32 → Int32 → AI → Int32 → Option (AI × Int32)
  | 0, _, _, _, _ => none
  | n + 1, x3, x4, v_commits, v_length => (if (nI 24) ≤ x4 then (some (v_commits, v_length)) else (if x3 = (-1 : Int32) then (some (v_commits, v_length)) else (if inb x4 24 = true then (lt (upd v_commits (x4).toNatClampNeg x3) fun u4 => (lt (x4 + (nI 1)) fun u6 => ((f1_firstOf (x3) (φ_forest)).bind fun r8 => (f7_follow_L10 x2 φ_forest n (r8) ((x4 + nI 1)) (u4) (u6))))) else none)))
def f7_follow (x2 : Int32) (v_commits : AI) (v_length : Int32) (φ_forest : Fo) : Option (AI × Int32) := (f7_follow_L10 x2 φ_forest fuel (x2) ((nI 0)) (v_commits) ((nI 0)))
set_option maxHeartbeats 4000000 in
set_option maxRecDepth 100000 in
theorem c7_follow (l : Launch) (E : PE) (a : Nat → Nat) (a_forest : Nat → Nat)  (x2 : Int32) (v_commits : AI) (v_length : Int32) (v_looks : Int32) (φ_forest : Fo) (z_this_commits : AI) (z_this_length : Int32) (h : f7_follow x2 v_commits v_length φ_forest = some (z_this_commits, z_this_length)) : MW l yX7_follow cX7_follow 5 none { frames := 1, cells := 0, slots := 0, locals := 21 } E [.ref (a 0), .ref (a_forest 0), .int x2] ([gX7 E a v_commits v_length v_looks, gX1 E a_forest φ_forest] : List va_W).flatten 0 0 none ([gX7 E a z_this_commits z_this_length v_looks, gX1 E a_forest φ_forest] : List va_W).flatten := by
  refine px_startW (by decide +kernel) (Nat.le_of_ble_eq_true rfl) ?_
  intro p e s m args below meth c R Q A ls hC hA0 hQ
  obtain ⟨hx, hb, hr, hml, hts, hown, hlocks, hR, hK, hN, hP, hD, hA, hl, hin⟩ := hC
  have hl : lv_has ls 5 [(0, .ref (a 0)), (1, .ref (a_forest 0)), (2, .int x2)] := hl
  suffices key : ∀ (H : Heap) (locs : List Loc), va_P E.1 vwCl ([gX7 E a v_commits v_length v_looks, gX1 E a_forest φ_forest] : List va_W).flatten H → va_S A s.heap H locs → W p l e R s m args below meth c H locs 0 0 Q (F0 m 0 ls []) from key s.heap [] hP va_S.rf
  unfold f7_follow at h
  have L10 : ∀ (n : Nat) (x3 : Int32) (x4 : Int32) (v_commits : AI) (v_length : Int32) (H : Heap) (locs : List Loc) (ls : Array Slot), va_P E.1 vwCl ([gX7 E a v_commits v_length v_looks, gX1 E a_forest φ_forest] : List va_W).flatten H → va_D A ([gX7 E a v_commits v_length v_looks, gX1 E a_forest φ_forest] : List va_W).flatten → va_S A s.heap H locs → lv_has ls 5 [(0, .ref (a 0)), (1, .ref (a_forest 0)), (3, .int x3), (4, .int x4)] → f7_follow_L10 x2 φ_forest n x3 x4 v_commits v_length = some (z_this_commits, z_this_length) → W p l e R s m args below meth c H locs 0 0 Q (F0 m 10 ls []) := by
    intro n
    induction n with
    | zero =>
      intro x3 x4 v_commits v_length H locs ls hP hD hS hl h
      unfold f7_follow_L10 at h; cases h
    | succ n ih =>
      intro x3 x4 v_commits v_length H locs ls hP hD hS hl h
      unfold f7_follow_L10 at h
      refine lv_iload hx hb dX7_follow_10 (lv_at hl 3 rfl) ?_
      refine lv_bipush (v := (nI 24)) hx hb dX7_follow_12 (by decide) ?_
      refine lv_icmp_ge (tgt := 50) hx hb dX7_follow_14 (by decide) (fun c1 => ?_) (fun c1 => ?_)
      · rw [if_pos c1] at h
        cases h
        exact px_eWv hA0 hQ hP hD hS hx hb hr hlocks dX7_follow_50
      · rw [if_neg c1] at h
        refine lv_iload_n hx hb dX7_follow_17 rfl (lv_at hl 2 rfl) ?_
        refine lv_iconst (v := (-1 : Int32)) hx hb dX7_follow_18 (by decide) ?_
        refine lv_icmp_eq (tgt := 50) hx hb dX7_follow_19 (by decide) (fun c2 => ?_) (fun c2 => ?_)
        · rw [if_pos c2] at h
          cases h
          exact px_eWv hA0 hQ hP hD hS hx hb hr hlocks dX7_follow_50
        · rw [if_neg c2] at h
          refine lv_aload_n hx hb dX7_follow_22 rfl (lv_at hl 0 rfl) ?_
          refine va_get (D := E.1) (ci := 7) (v := .ref (a 1)) (C := RX7) (T := TX7) (N := 3) hx hb hts iX7 hown hK hP 0 rfl rfl 0 (by decide) (hts _ q158) (fun _ h9 => h9) rfl dX7_follow_23 ?_
          refine lv_iload hx hb dX7_follow_26 (lv_at hl 3 rfl) ?_
          refine lv_iload_n hx hb dX7_follow_28 rfl (lv_at hl 2 rfl) ?_
          obtain ⟨i3, h⟩ := o_t h
          refine va_iast (f := v_commits) hx hb hK hP hD hS 1 0 rfl rfl (inb_in i3) dX7_follow_29 (fun H locs hP hD hS => ?_)
          have hP : va_P E.1 vwCl ([gX7 E a (upd v_commits (x4).toNatClampNeg x3) v_length v_looks, gX1 E a_forest φ_forest] : List va_W).flatten H := hP
          have hD : va_D A ([gX7 E a (upd v_commits (x4).toNatClampNeg x3) v_length v_looks, gX1 E a_forest φ_forest] : List va_W).flatten := hD
          obtain ⟨u4, e5, h⟩ := lt_e h
          rw [← e5] at hP hD
          refine lv_aload_n hx hb dX7_follow_30 rfl (lv_at hl 0 rfl) ?_
          refine lv_iload hx hb dX7_follow_31 (lv_at hl 3 rfl) ?_
          refine lv_iconst (v := (nI 1)) hx hb dX7_follow_33 (by decide) ?_
          refine lv_iadd hx hb dX7_follow_34 ?_
          refine va_put (D := E.1) (ci := 7) (v := .int (x4 + (nI 1))) (ty := .int) (C := RX7) (T := TX7) (N := 3) hx hb hts iX7 tyX7 tyX7_ok nmX7 hown hK hP hD hS 0 rfl rfl 1 (by decide) (hts _ q159) (fun _ h9 => h9) rfl (tyX7_ok 1 (by decide)) rfl rfl (Nat.le_of_ble_eq_true rfl) dX7_follow_35 (fun H locs hP hD hS => ?_)
          have hP : va_P E.1 vwCl ([gX7 E a u4 (x4 + (nI 1)) v_looks, gX1 E a_forest φ_forest] : List va_W).flatten H := hP
          have hD : va_D A ([gX7 E a u4 (x4 + (nI 1)) v_looks, gX1 E a_forest φ_forest] : List va_W).flatten := hD
          obtain ⟨u6, e7, h⟩ := lt_e h
          rw [← e7] at hP hD
          refine lv_aload_n hx hb dX7_follow_38 rfl (lv_at hl 1 rfl) ?_
          refine lv_iload_n hx hb dX7_follow_39 rfl (lv_at hl 2 rfl) ?_
          obtain ⟨r8, hr9, h⟩ := ob h
          refine px_Vp (As := [.int x3]) (rest := []) (gs := ([gX7 E a u4 u6 v_looks, gX1 E a_forest φ_forest] : List va_W)) (gc := ([gX1 E a_forest φ_forest] : List va_W)) ⟨hx, hb, hml, hown, hts⟩ (c1_firstOf l E a_forest  (x3) (φ_forest) r8 hr9) (cwV 1 hts (ws_v q654 q526 q527 q19 q528) rfl rfl rfl hdV_X1_firstOf (by rw [hR]; exact ⟨Nat.le_of_ble_eq_true rfl, Nat.le_of_ble_eq_true rfl⟩)) hK hN hP hD [1] rfl (by decide) 0 1 rfl rfl rfl rfl hl.1 rfl (Nat.le_of_ble_eq_true rfl) dX7_follow_40 (by rw [hR]; exact ⟨Nat.le_of_ble_eq_true rfl, Nat.le_of_ble_eq_true rfl⟩) ?_
          refine W.eq (g2 := F0 m 43 ls [.int r8]) rfl ?_
          refine lv_istore_n (lv' := [(3, .int r8), (0, .ref (a 0)), (1, .ref (a_forest 0)), (4, .int x4)]) hx hb dX7_follow_43 rfl hl (by decide) rfl (fun ls hl => ?_)
          refine lv_iinc (v := (x4 + nI 1)) (lv' := [(4, .int (x4 + nI 1)), (3, .int r8), (0, .ref (a 0)), (1, .ref (a_forest 0))]) hx hb dX7_follow_44 hl (k := 3) rfl rfl (by decide) rfl (fun ls hl => ?_)
          refine lv_goto (tgt := 10) hx hb dX7_follow_47 (by decide) ?_
          exact ih (r8) ((x4 + nI 1)) (u4) (u6) H locs ls hP hD hS (lv_sub hl [2, 3, 1, 0] rfl) h
  intro H locs hP hS
  refine lv_aload_n hx hb dX7_follow_0 rfl (lv_at hl 0 rfl) ?_
  refine lv_iconst (v := (nI 0)) hx hb dX7_follow_1 (by decide) ?_
  refine va_put (D := E.1) (ci := 7) (v := .int (nI 0)) (ty := .int) (C := RX7) (T := TX7) (N := 3) hx hb hts iX7 tyX7 tyX7_ok nmX7 hown hK hP hD hS 0 rfl rfl 1 (by decide) (hts _ q159) (fun _ h9 => h9) rfl (tyX7_ok 1 (by decide)) rfl rfl (Nat.le_of_ble_eq_true rfl) dX7_follow_2 (fun H locs hP hD hS => ?_)
  have hP : va_P E.1 vwCl ([gX7 E a v_commits (nI 0) v_looks, gX1 E a_forest φ_forest] : List va_W).flatten H := hP
  have hD : va_D A ([gX7 E a v_commits (nI 0) v_looks, gX1 E a_forest φ_forest] : List va_W).flatten := hD
  refine lv_iload_n hx hb dX7_follow_5 rfl (lv_at hl 2 rfl) ?_
  refine lv_istore_n (lv' := [(3, .int x2), (0, .ref (a 0)), (1, .ref (a_forest 0)), (2, .int x2)]) hx hb dX7_follow_6 rfl hl (by decide) rfl (fun ls hl => ?_)
  refine lv_iconst (v := (nI 0)) hx hb dX7_follow_7 (by decide) ?_
  refine lv_istore (lv' := [(4, .int (nI 0)), (3, .int x2), (0, .ref (a 0)), (1, .ref (a_forest 0)), (2, .int x2)]) hx hb dX7_follow_8 hl (by decide) rfl (fun ls hl => ?_)
  exact L10 fuel (x2) ((nI 0)) (v_commits) ((nI 0)) H locs ls hP hD hS (lv_sub hl [2, 3, 1, 0] rfl) h
def f7_at (x1 : Int32) (v_commits : AI) (v_length : Int32) : Option (Int32) := (if x1 < 0 then (some (-1 : Int32)) else (if v_length ≤ x1 then (some (-1 : Int32)) else (if (nI 24) ≤ x1 then (some (-1 : Int32)) else (if inb x1 24 = true then (some (v_commits (x1).toNatClampNeg)) else none))))
set_option maxHeartbeats 4000000 in
set_option maxRecDepth 100000 in
theorem c7_at (l : Launch) (E : PE) (a : Nat → Nat)  (x1 : Int32) (v_commits : AI) (v_length : Int32) (v_looks : Int32) (r : Int32) (h : f7_at x1 v_commits v_length = some r) : MP l yX7_at cX7_at 2 (some .int) { frames := 0, cells := 0, slots := 0, locals := 0 } E [.ref (a 0), .int x1] ([gX7 E a v_commits v_length v_looks] : List va_W).flatten (some (.int r)) := by
  refine px_startP (by decide +kernel) (Nat.le_of_ble_eq_true rfl) ?_
  intro p e s m args below meth c R Q A ls hC hQ
  obtain ⟨hx, hb, hr, hml, hts, hown, hlocks, hR, hK, hN, hP, hD, hA, hl, hin⟩ := hC
  have hl : lv_has ls 2 [(0, .ref (a 0)), (1, .int x1)] := hl
  unfold f7_at at h
  refine lv_iload_n hx hb dX7_at_0 rfl (lv_at hl 1 rfl) ?_
  refine lv_if_lt (tgt := 27) hx hb dX7_at_1 (by decide) (fun c1 => ?_) (fun c1 => ?_)
  · rw [if_pos c1] at h
    refine lv_iconst (v := (-1 : Int32)) hx hb dX7_at_27 (by decide) ?_
    cases h
    exact px_ePi hQ hx hb hr hlocks dX7_at_28
  · rw [if_neg c1] at h
    refine lv_iload_n hx hb dX7_at_4 rfl (lv_at hl 1 rfl) ?_
    refine lv_aload_n hx hb dX7_at_5 rfl (lv_at hl 0 rfl) ?_
    refine va_get (D := E.1) (ci := 7) (v := .int v_length) (C := RX7) (T := TX7) (N := 3) hx hb hts iX7 hown hK hP 0 rfl rfl 1 (by decide) (hts _ q159) (fun _ h9 => h9) rfl dX7_at_6 ?_
    refine lv_icmp_ge (tgt := 27) hx hb dX7_at_9 (by decide) (fun c2 => ?_) (fun c2 => ?_)
    · rw [if_pos c2] at h
      refine lv_iconst (v := (-1 : Int32)) hx hb dX7_at_27 (by decide) ?_
      cases h
      exact px_ePi hQ hx hb hr hlocks dX7_at_28
    · rw [if_neg c2] at h
      refine lv_iload_n hx hb dX7_at_12 rfl (lv_at hl 1 rfl) ?_
      refine lv_bipush (v := (nI 24)) hx hb dX7_at_13 (by decide) ?_
      refine lv_icmp_ge (tgt := 27) hx hb dX7_at_15 (by decide) (fun c3 => ?_) (fun c3 => ?_)
      · rw [if_pos c3] at h
        refine lv_iconst (v := (-1 : Int32)) hx hb dX7_at_27 (by decide) ?_
        cases h
        exact px_ePi hQ hx hb hr hlocks dX7_at_28
      · rw [if_neg c3] at h
        refine lv_aload_n hx hb dX7_at_18 rfl (lv_at hl 0 rfl) ?_
        refine va_get (D := E.1) (ci := 7) (v := .ref (a 1)) (C := RX7) (T := TX7) (N := 3) hx hb hts iX7 hown hK hP 0 rfl rfl 0 (by decide) (hts _ q158) (fun _ h9 => h9) rfl dX7_at_19 ?_
        refine lv_iload_n hx hb dX7_at_22 rfl (lv_at hl 1 rfl) ?_
        obtain ⟨i4, h⟩ := o_t h
        refine va_iald (f := v_commits) hx hb hK hP 1 0 rfl rfl (inb_in i4) dX7_at_23 ?_
        refine lv_goto (tgt := 28) hx hb dX7_at_24 (by decide) ?_
        cases h
        exact px_ePi hQ hx hb hr hlocks dX7_at_28
def f7_looksTaken  (v_looks : Int32) : Option (Int32) := (some v_looks)
set_option maxHeartbeats 4000000 in
set_option maxRecDepth 100000 in
theorem c7_looksTaken (l : Launch) (E : PE) (a : Nat → Nat)   (v_commits : AI) (v_length : Int32) (v_looks : Int32) (r : Int32) (h : f7_looksTaken v_looks = some r) : MP l yX7_looksTaken cX7_looksTaken 1 (some .int) { frames := 0, cells := 0, slots := 0, locals := 0 } E [.ref (a 0)] ([gX7 E a v_commits v_length v_looks] : List va_W).flatten (some (.int r)) := by
  refine px_startP (by decide +kernel) (Nat.le_of_ble_eq_true rfl) ?_
  intro p e s m args below meth c R Q A ls hC hQ
  obtain ⟨hx, hb, hr, hml, hts, hown, hlocks, hR, hK, hN, hP, hD, hA, hl, hin⟩ := hC
  have hl : lv_has ls 1 [(0, .ref (a 0))] := hl
  unfold f7_looksTaken at h
  refine lv_aload_n hx hb dX7_looksTaken_0 rfl (lv_at hl 0 rfl) ?_
  refine va_get (D := E.1) (ci := 7) (v := .int v_looks) (C := RX7) (T := TX7) (N := 3) hx hb hts iX7 hown hK hP 0 rfl rfl 2 (by decide) (hts _ q160) (fun _ h9 => h9) rfl dX7_looksTaken_1 ?_
  cases h
  exact px_ePi hQ hx hb hr hlocks dX7_looksTaken_4
def f7_searchByHalves_L19 (x2 : Int32) (x3 : Int32) (v_commits : AI) (v_length : Int32) (φ_forest : Fo) : Nat → Int32 → Int32 → Int32 → Int32 → Option (Int32 × Int32)
  | 0, _, _, _, _ => none
  | n + 1, x4, x5, x6, v_looks => (if (nI 24) ≤ x6 then ((f7_at (x4) (v_commits) (v_length)).bind fun r2 => (some (r2, v_looks))) else (if (x5 - x4) ≤ (nI 1) then ((f7_at (x4) (v_commits) (v_length)).bind fun r5 => (some (r5, v_looks))) else (lt (v_looks + (nI 1)) fun u7 => ((f7_at (((x4 + x5) / (nI 2))) (v_commits) (v_length)).bind fun r9 => ((f1_amountIn (r9) (x2) (φ_forest)).bind fun r11 => (if r11 ≤ x3 then (f7_searchByHalves_L19 x2 x3 v_commits v_length φ_forest n (x4) (((x4 + x5) / (nI 2))) ((x6 + nI 1)) (u7)) else (f7_searchByHalves_L19 x2 x3 v_commits v_length φ_forest n (((x4 + x5) / (nI 2))) (x5) ((x6 + nI 1)) (u7))))))))
def f7_searchByHalves (x2 : Int32) (x3 : Int32) (v_commits : AI) (v_length : Int32) (v_looks : Int32) (φ_forest : Fo) : Option (Int32 × Int32) := (f7_searchByHalves_L19 x2 x3 v_commits v_length φ_forest fuel ((nI 0)) ((v_length - (nI 1))) ((nI 0)) ((nI 0)))
set_option maxHeartbeats 4000000 in
set_option maxRecDepth 100000 in
theorem c7_searchByHalves (l : Launch) (E : PE) (a : Nat → Nat) (a_forest : Nat → Nat)  (x2 : Int32) (x3 : Int32) (v_commits : AI) (v_length : Int32) (v_looks : Int32) (φ_forest : Fo) (r : Int32) (z_this_looks : Int32) (h : f7_searchByHalves x2 x3 v_commits v_length v_looks φ_forest = some (r, z_this_looks)) : MW l yX7_searchByHalves cX7_searchByHalves 8 (some .int) { frames := 1, cells := 0, slots := 0, locals := 22 } E [.ref (a 0), .ref (a_forest 0), .int x2, .int x3] ([gX7 E a v_commits v_length v_looks, gX1 E a_forest φ_forest] : List va_W).flatten 0 0 (some (.int r)) ([gX7 E a v_commits v_length z_this_looks, gX1 E a_forest φ_forest] : List va_W).flatten := by
  refine px_startW (by decide +kernel) (Nat.le_of_ble_eq_true rfl) ?_
  intro p e s m args below meth c R Q A ls hC hA0 hQ
  obtain ⟨hx, hb, hr, hml, hts, hown, hlocks, hR, hK, hN, hP, hD, hA, hl, hin⟩ := hC
  have hl : lv_has ls 8 [(0, .ref (a 0)), (1, .ref (a_forest 0)), (2, .int x2), (3, .int x3)] := hl
  suffices key : ∀ (H : Heap) (locs : List Loc), va_P E.1 vwCl ([gX7 E a v_commits v_length v_looks, gX1 E a_forest φ_forest] : List va_W).flatten H → va_S A s.heap H locs → W p l e R s m args below meth c H locs 0 0 Q (F0 m 0 ls []) from key s.heap [] hP va_S.rf
  unfold f7_searchByHalves at h
  have L19 : ∀ (n : Nat) (x4 : Int32) (x5 : Int32) (x6 : Int32) (v_looks : Int32) (H : Heap) (locs : List Loc) (ls : Array Slot), va_P E.1 vwCl ([gX7 E a v_commits v_length v_looks, gX1 E a_forest φ_forest] : List va_W).flatten H → va_D A ([gX7 E a v_commits v_length v_looks, gX1 E a_forest φ_forest] : List va_W).flatten → va_S A s.heap H locs → lv_has ls 8 [(0, .ref (a 0)), (1, .ref (a_forest 0)), (2, .int x2), (3, .int x3), (4, .int x4), (5, .int x5), (6, .int x6)] → f7_searchByHalves_L19 x2 x3 v_commits v_length φ_forest n x4 x5 x6 v_looks = some (r, z_this_looks) → W p l e R s m args below meth c H locs 0 0 Q (F0 m 19 ls []) := by
    intro n
    induction n with
    | zero =>
      intro x4 x5 x6 v_looks H locs ls hP hD hS hl h
      unfold f7_searchByHalves_L19 at h; cases h
    | succ n ih =>
      intro x4 x5 x6 v_looks H locs ls hP hD hS hl h
      unfold f7_searchByHalves_L19 at h
      refine lv_iload hx hb dX7_searchByHalves_19 (lv_at hl 6 rfl) ?_
      refine lv_bipush (v := (nI 24)) hx hb dX7_searchByHalves_21 (by decide) ?_
      refine lv_icmp_ge (tgt := 86) hx hb dX7_searchByHalves_23 (by decide) (fun c1 => ?_) (fun c1 => ?_)
      · rw [if_pos c1] at h
        refine lv_aload_n hx hb dX7_searchByHalves_86 rfl (lv_at hl 0 rfl) ?_
        refine lv_iload hx hb dX7_searchByHalves_87 (lv_at hl 4 rfl) ?_
        obtain ⟨r2, hr3, h⟩ := ob h
        refine px_Vp (As := [.int x4]) (rest := []) (gs := ([gX7 E a v_commits v_length v_looks, gX1 E a_forest φ_forest] : List va_W)) (gc := ([gX7 E a v_commits v_length v_looks] : List va_W)) ⟨hx, hb, hml, hown, hts⟩ (c7_at l E a  (x4) (v_commits) (v_length) (v_looks) r2 hr3) (cwV 1 hts (ws_v q659 q660 q661 q23 q662) rfl rfl rfl hdV_X7_at (by rw [hR]; exact ⟨Nat.le_of_ble_eq_true rfl, Nat.le_of_ble_eq_true rfl⟩)) hK hN hP hD [0] rfl (by decide) 0 7 rfl rfl rfl rfl hl.1 rfl (Nat.le_of_ble_eq_true rfl) dX7_searchByHalves_89 (by rw [hR]; exact ⟨Nat.le_of_ble_eq_true rfl, Nat.le_of_ble_eq_true rfl⟩) ?_
        refine W.eq (g2 := F0 m 92 ls [.int r2]) rfl ?_
        cases h
        exact px_eWi hA0 hQ hP hD hS hx hb hr hlocks dX7_searchByHalves_92
      · rw [if_neg c1] at h
        refine lv_iload hx hb dX7_searchByHalves_26 (lv_at hl 5 rfl) ?_
        refine lv_iload hx hb dX7_searchByHalves_28 (lv_at hl 4 rfl) ?_
        refine lv_isub hx hb dX7_searchByHalves_30 ?_
        refine lv_iconst (v := (nI 1)) hx hb dX7_searchByHalves_31 (by decide) ?_
        refine lv_icmp_le (tgt := 86) hx hb dX7_searchByHalves_32 (by decide) (fun c4 => ?_) (fun c4 => ?_)
        · rw [if_pos c4] at h
          refine lv_aload_n hx hb dX7_searchByHalves_86 rfl (lv_at hl 0 rfl) ?_
          refine lv_iload hx hb dX7_searchByHalves_87 (lv_at hl 4 rfl) ?_
          obtain ⟨r5, hr6, h⟩ := ob h
          refine px_Vp (As := [.int x4]) (rest := []) (gs := ([gX7 E a v_commits v_length v_looks, gX1 E a_forest φ_forest] : List va_W)) (gc := ([gX7 E a v_commits v_length v_looks] : List va_W)) ⟨hx, hb, hml, hown, hts⟩ (c7_at l E a  (x4) (v_commits) (v_length) (v_looks) r5 hr6) (cwV 1 hts (ws_v q659 q660 q661 q23 q662) rfl rfl rfl hdV_X7_at (by rw [hR]; exact ⟨Nat.le_of_ble_eq_true rfl, Nat.le_of_ble_eq_true rfl⟩)) hK hN hP hD [0] rfl (by decide) 0 7 rfl rfl rfl rfl hl.1 rfl (Nat.le_of_ble_eq_true rfl) dX7_searchByHalves_89 (by rw [hR]; exact ⟨Nat.le_of_ble_eq_true rfl, Nat.le_of_ble_eq_true rfl⟩) ?_
          refine W.eq (g2 := F0 m 92 ls [.int r5]) rfl ?_
          cases h
          exact px_eWi hA0 hQ hP hD hS hx hb hr hlocks dX7_searchByHalves_92
        · rw [if_neg c4] at h
          refine lv_iload hx hb dX7_searchByHalves_35 (lv_at hl 4 rfl) ?_
          refine lv_iload hx hb dX7_searchByHalves_37 (lv_at hl 5 rfl) ?_
          refine lv_iadd hx hb dX7_searchByHalves_39 ?_
          refine lv_iconst (v := (nI 2)) hx hb dX7_searchByHalves_40 (by decide) ?_
          refine lv_idiv hx hb dX7_searchByHalves_41 (by decide) ?_
          refine lv_istore (lv' := [(7, .int ((x4 + x5) / (nI 2))), (0, .ref (a 0)), (1, .ref (a_forest 0)), (2, .int x2), (3, .int x3), (4, .int x4), (5, .int x5), (6, .int x6)]) hx hb dX7_searchByHalves_42 hl (by decide) rfl (fun ls hl => ?_)
          refine lv_aload_n hx hb dX7_searchByHalves_44 rfl (lv_at hl 1 rfl) ?_
          refine lv_dup hx hb dX7_searchByHalves_45 rfl ?_
          refine va_get (D := E.1) (ci := 7) (v := .int v_looks) (C := RX7) (T := TX7) (N := 3) hx hb hts iX7 hown hK hP 0 rfl rfl 2 (by decide) (hts _ q160) (fun _ h9 => h9) rfl dX7_searchByHalves_46 ?_
          refine lv_iconst (v := (nI 1)) hx hb dX7_searchByHalves_49 (by decide) ?_
          refine lv_iadd hx hb dX7_searchByHalves_50 ?_
          refine va_put (D := E.1) (ci := 7) (v := .int (v_looks + (nI 1))) (ty := .int) (C := RX7) (T := TX7) (N := 3) hx hb hts iX7 tyX7 tyX7_ok nmX7 hown hK hP hD hS 0 rfl rfl 2 (by decide) (hts _ q160) (fun _ h9 => h9) rfl (tyX7_ok 2 (by decide)) rfl rfl (Nat.le_of_ble_eq_true rfl) dX7_searchByHalves_51 (fun H locs hP hD hS => ?_)
          have hP : va_P E.1 vwCl ([gX7 E a v_commits v_length (v_looks + (nI 1)), gX1 E a_forest φ_forest] : List va_W).flatten H := hP
          have hD : va_D A ([gX7 E a v_commits v_length (v_looks + (nI 1)), gX1 E a_forest φ_forest] : List va_W).flatten := hD
          obtain ⟨u7, e8, h⟩ := lt_e h
          rw [← e8] at hP hD
          refine lv_aload_n hx hb dX7_searchByHalves_54 rfl (lv_at hl 2 rfl) ?_
          refine lv_aload_n hx hb dX7_searchByHalves_55 rfl (lv_at hl 1 rfl) ?_
          refine lv_iload hx hb dX7_searchByHalves_56 (lv_at hl 0 rfl) ?_
          obtain ⟨r9, hr10, h⟩ := ob h
          refine px_Vp (As := [.int ((x4 + x5) / (nI 2))]) (rest := [.ref (a_forest 0)]) (gs := ([gX7 E a v_commits v_length u7, gX1 E a_forest φ_forest] : List va_W)) (gc := ([gX7 E a v_commits v_length u7] : List va_W)) ⟨hx, hb, hml, hown, hts⟩ (c7_at l E a  (((x4 + x5) / (nI 2))) (v_commits) (v_length) (u7) r9 hr10) (cwV 1 hts (ws_v q659 q660 q661 q23 q662) rfl rfl rfl hdV_X7_at (by rw [hR]; exact ⟨Nat.le_of_ble_eq_true rfl, Nat.le_of_ble_eq_true rfl⟩)) hK hN hP hD [0] rfl (by decide) 0 7 rfl rfl rfl rfl hl.1 rfl (Nat.le_of_ble_eq_true rfl) dX7_searchByHalves_58 (by rw [hR]; exact ⟨Nat.le_of_ble_eq_true rfl, Nat.le_of_ble_eq_true rfl⟩) ?_
          refine W.eq (g2 := F0 m 61 ls [.int r9, .ref (a_forest 0)]) rfl ?_
          refine lv_iload_n hx hb dX7_searchByHalves_61 rfl (lv_at hl 3 rfl) ?_
          obtain ⟨r11, hr12, h⟩ := ob h
          refine px_Vp (As := [.int r9, .int x2]) (rest := []) (gs := ([gX7 E a v_commits v_length u7, gX1 E a_forest φ_forest] : List va_W)) (gc := ([gX1 E a_forest φ_forest] : List va_W)) ⟨hx, hb, hml, hown, hts⟩ (c1_amountIn l E a_forest  (r9) (x2) (φ_forest) r11 hr12) (cwV 2 hts (ws_v q663 q299 q300 q19 q301) rfl rfl rfl hdV_X1_amountIn (by rw [hR]; exact ⟨Nat.le_of_ble_eq_true rfl, Nat.le_of_ble_eq_true rfl⟩)) hK hN hP hD [1] rfl (by decide) 0 1 rfl rfl rfl rfl hl.1 rfl (Nat.le_of_ble_eq_true rfl) dX7_searchByHalves_62 (by rw [hR]; exact ⟨Nat.le_of_ble_eq_true rfl, Nat.le_of_ble_eq_true rfl⟩) ?_
          refine W.eq (g2 := F0 m 65 ls [.int r11]) rfl ?_
          refine lv_iload_n hx hb dX7_searchByHalves_65 rfl (lv_at hl 4 rfl) ?_
          refine lv_icmp_le (tgt := 76) hx hb dX7_searchByHalves_66 (by decide) (fun c13 => ?_) (fun c13 => ?_)
          · rw [if_pos c13] at h
            refine lv_iload hx hb dX7_searchByHalves_76 (lv_at hl 0 rfl) ?_
            refine lv_istore (lv' := [(5, .int ((x4 + x5) / (nI 2))), (7, .int ((x4 + x5) / (nI 2))), (0, .ref (a 0)), (1, .ref (a_forest 0)), (2, .int x2), (3, .int x3), (4, .int x4), (6, .int x6)]) hx hb dX7_searchByHalves_78 hl (by decide) rfl (fun ls hl => ?_)
            refine lv_iinc (v := (x6 + nI 1)) (lv' := [(6, .int (x6 + nI 1)), (5, .int ((x4 + x5) / (nI 2))), (7, .int ((x4 + x5) / (nI 2))), (0, .ref (a 0)), (1, .ref (a_forest 0)), (2, .int x2), (3, .int x3), (4, .int x4)]) hx hb dX7_searchByHalves_80 hl (k := 7) rfl rfl (by decide) rfl (fun ls hl => ?_)
            refine lv_goto (tgt := 19) hx hb dX7_searchByHalves_83 (by decide) ?_
            exact ih (x4) (((x4 + x5) / (nI 2))) ((x6 + nI 1)) (u7) H locs ls hP hD hS (lv_sub hl [3, 4, 5, 6, 7, 1, 0] rfl) h
          · rw [if_neg c13] at h
            refine lv_iload hx hb dX7_searchByHalves_69 (lv_at hl 0 rfl) ?_
            refine lv_istore (lv' := [(4, .int ((x4 + x5) / (nI 2))), (7, .int ((x4 + x5) / (nI 2))), (0, .ref (a 0)), (1, .ref (a_forest 0)), (2, .int x2), (3, .int x3), (5, .int x5), (6, .int x6)]) hx hb dX7_searchByHalves_71 hl (by decide) rfl (fun ls hl => ?_)
            refine lv_goto (tgt := 80) hx hb dX7_searchByHalves_73 (by decide) ?_
            refine lv_iinc (v := (x6 + nI 1)) (lv' := [(6, .int (x6 + nI 1)), (4, .int ((x4 + x5) / (nI 2))), (7, .int ((x4 + x5) / (nI 2))), (0, .ref (a 0)), (1, .ref (a_forest 0)), (2, .int x2), (3, .int x3), (5, .int x5)]) hx hb dX7_searchByHalves_80 hl (k := 7) rfl rfl (by decide) rfl (fun ls hl => ?_)
            refine lv_goto (tgt := 19) hx hb dX7_searchByHalves_83 (by decide) ?_
            exact ih (((x4 + x5) / (nI 2))) (x5) ((x6 + nI 1)) (u7) H locs ls hP hD hS (lv_sub hl [3, 4, 5, 6, 1, 7, 0] rfl) h
  intro H locs hP hS
  refine lv_iconst (v := (nI 0)) hx hb dX7_searchByHalves_0 (by decide) ?_
  refine lv_istore (lv' := [(4, .int (nI 0)), (0, .ref (a 0)), (1, .ref (a_forest 0)), (2, .int x2), (3, .int x3)]) hx hb dX7_searchByHalves_1 hl (by decide) rfl (fun ls hl => ?_)
  refine lv_aload_n hx hb dX7_searchByHalves_3 rfl (lv_at hl 1 rfl) ?_
  refine va_get (D := E.1) (ci := 7) (v := .int v_length) (C := RX7) (T := TX7) (N := 3) hx hb hts iX7 hown hK hP 0 rfl rfl 1 (by decide) (hts _ q159) (fun _ h9 => h9) rfl dX7_searchByHalves_4 ?_
  refine lv_iconst (v := (nI 1)) hx hb dX7_searchByHalves_7 (by decide) ?_
  refine lv_isub hx hb dX7_searchByHalves_8 ?_
  refine lv_istore (lv' := [(5, .int (v_length - (nI 1))), (4, .int (nI 0)), (0, .ref (a 0)), (1, .ref (a_forest 0)), (2, .int x2), (3, .int x3)]) hx hb dX7_searchByHalves_9 hl (by decide) rfl (fun ls hl => ?_)
  refine lv_aload_n hx hb dX7_searchByHalves_11 rfl (lv_at hl 2 rfl) ?_
  refine lv_iconst (v := (nI 0)) hx hb dX7_searchByHalves_12 (by decide) ?_
  refine va_put (D := E.1) (ci := 7) (v := .int (nI 0)) (ty := .int) (C := RX7) (T := TX7) (N := 3) hx hb hts iX7 tyX7 tyX7_ok nmX7 hown hK hP hD hS 0 rfl rfl 2 (by decide) (hts _ q160) (fun _ h9 => h9) rfl (tyX7_ok 2 (by decide)) rfl rfl (Nat.le_of_ble_eq_true rfl) dX7_searchByHalves_13 (fun H locs hP hD hS => ?_)
  have hP : va_P E.1 vwCl ([gX7 E a v_commits v_length (nI 0), gX1 E a_forest φ_forest] : List va_W).flatten H := hP
  have hD : va_D A ([gX7 E a v_commits v_length (nI 0), gX1 E a_forest φ_forest] : List va_W).flatten := hD
  refine lv_iconst (v := (nI 0)) hx hb dX7_searchByHalves_16 (by decide) ?_
  refine lv_istore (lv' := [(6, .int (nI 0)), (5, .int (v_length - (nI 1))), (4, .int (nI 0)), (0, .ref (a 0)), (1, .ref (a_forest 0)), (2, .int x2), (3, .int x3)]) hx hb dX7_searchByHalves_17 hl (by decide) rfl (fun ls hl => ?_)
  exact L19 fuel ((nI 0)) ((v_length - (nI 1))) ((nI 0)) ((nI 0)) H locs ls hP hD hS (lv_sub hl [3, 4, 5, 6, 2, 1, 0] rfl) h
def f7_farthestBad_L8 (x2 : Int32) (x3 : Int32) (v_commits : AI) (v_length : Int32) (φ_forest : Fo) : Nat → Int32 → Option (Int32)
  | 0, _ => none
  | n + 1, x4 => (if x4 < 0 then (some (-1 : Int32)) else ((f7_at (x4) (v_commits) (v_length)).bind fun r2 => ((f1_amountIn (r2) (x2) (φ_forest)).bind fun r4 => (if r4 ≤ x3 then (f7_farthestBad_L8 x2 x3 v_commits v_length φ_forest n ((x4 + (-1)))) else ((f7_at (x4) (v_commits) (v_length)).bind fun r7 => (some r7))))))
def f7_farthestBad (x2 : Int32) (x3 : Int32) (v_commits : AI) (v_length : Int32) (φ_forest : Fo) : Option (Int32) := (f7_farthestBad_L8 x2 x3 v_commits v_length φ_forest fuel ((v_length - (nI 1))))
set_option maxHeartbeats 4000000 in
set_option maxRecDepth 100000 in
theorem c7_farthestBad (l : Launch) (E : PE) (a : Nat → Nat) (a_forest : Nat → Nat)  (x2 : Int32) (x3 : Int32) (v_commits : AI) (v_length : Int32) (v_looks : Int32) (φ_forest : Fo) (r : Int32) (h : f7_farthestBad x2 x3 v_commits v_length φ_forest = some r) : MP l yX7_farthestBad cX7_farthestBad 5 (some .int) { frames := 1, cells := 0, slots := 0, locals := 22 } E [.ref (a 0), .ref (a_forest 0), .int x2, .int x3] ([gX7 E a v_commits v_length v_looks, gX1 E a_forest φ_forest] : List va_W).flatten (some (.int r)) := by
  refine px_startP (by decide +kernel) (Nat.le_of_ble_eq_true rfl) ?_
  intro p e s m args below meth c R Q A ls hC hQ
  obtain ⟨hx, hb, hr, hml, hts, hown, hlocks, hR, hK, hN, hP, hD, hA, hl, hin⟩ := hC
  have hl : lv_has ls 5 [(0, .ref (a 0)), (1, .ref (a_forest 0)), (2, .int x2), (3, .int x3)] := hl
  unfold f7_farthestBad at h
  have L8 : ∀ (n : Nat) (x4 : Int32) (ls : Array Slot), lv_has ls 5 [(0, .ref (a 0)), (1, .ref (a_forest 0)), (2, .int x2), (3, .int x3), (4, .int x4)] → f7_farthestBad_L8 x2 x3 v_commits v_length φ_forest n x4 = some r → W p l e R s m args below meth c s.heap [] 0 0 Q (F0 m 8 ls []) := by
    intro n
    induction n with
    | zero =>
      intro x4 ls hl h
      unfold f7_farthestBad_L8 at h; cases h
    | succ n ih =>
      intro x4 ls hl h
      unfold f7_farthestBad_L8 at h
      refine lv_iload hx hb dX7_farthestBad_8 (lv_at hl 4 rfl) ?_
      refine lv_if_lt (tgt := 41) hx hb dX7_farthestBad_10 (by decide) (fun c1 => ?_) (fun c1 => ?_)
      · rw [if_pos c1] at h
        refine lv_iconst (v := (-1 : Int32)) hx hb dX7_farthestBad_41 (by decide) ?_
        cases h
        exact px_ePi hQ hx hb hr hlocks dX7_farthestBad_42
      · rw [if_neg c1] at h
        refine lv_aload_n hx hb dX7_farthestBad_13 rfl (lv_at hl 1 rfl) ?_
        refine lv_aload_n hx hb dX7_farthestBad_14 rfl (lv_at hl 0 rfl) ?_
        refine lv_iload hx hb dX7_farthestBad_15 (lv_at hl 4 rfl) ?_
        obtain ⟨r2, hr3, h⟩ := ob h
        refine px_Vp (As := [.int x4]) (rest := [.ref (a_forest 0)]) (gs := ([gX7 E a v_commits v_length v_looks, gX1 E a_forest φ_forest] : List va_W)) (gc := ([gX7 E a v_commits v_length v_looks] : List va_W)) ⟨hx, hb, hml, hown, hts⟩ (c7_at l E a  (x4) (v_commits) (v_length) (v_looks) r2 hr3) (cwV 1 hts (ws_v q659 q660 q661 q23 q662) rfl rfl rfl hdV_X7_at (by rw [hR]; exact ⟨Nat.le_of_ble_eq_true rfl, Nat.le_of_ble_eq_true rfl⟩)) hK hN hP hD [0] rfl (by decide) 0 7 rfl rfl rfl rfl hl.1 rfl (Nat.le_of_ble_eq_true rfl) dX7_farthestBad_17 (by rw [hR]; exact ⟨Nat.le_of_ble_eq_true rfl, Nat.le_of_ble_eq_true rfl⟩) ?_
        refine W.eq (g2 := F0 m 20 ls [.int r2, .ref (a_forest 0)]) rfl ?_
        refine lv_iload_n hx hb dX7_farthestBad_20 rfl (lv_at hl 2 rfl) ?_
        obtain ⟨r4, hr5, h⟩ := ob h
        refine px_Vp (As := [.int r2, .int x2]) (rest := []) (gs := ([gX7 E a v_commits v_length v_looks, gX1 E a_forest φ_forest] : List va_W)) (gc := ([gX1 E a_forest φ_forest] : List va_W)) ⟨hx, hb, hml, hown, hts⟩ (c1_amountIn l E a_forest  (r2) (x2) (φ_forest) r4 hr5) (cwV 2 hts (ws_v q663 q299 q300 q19 q301) rfl rfl rfl hdV_X1_amountIn (by rw [hR]; exact ⟨Nat.le_of_ble_eq_true rfl, Nat.le_of_ble_eq_true rfl⟩)) hK hN hP hD [1] rfl (by decide) 0 1 rfl rfl rfl rfl hl.1 rfl (Nat.le_of_ble_eq_true rfl) dX7_farthestBad_21 (by rw [hR]; exact ⟨Nat.le_of_ble_eq_true rfl, Nat.le_of_ble_eq_true rfl⟩) ?_
        refine W.eq (g2 := F0 m 24 ls [.int r4]) rfl ?_
        refine lv_iload_n hx hb dX7_farthestBad_24 rfl (lv_at hl 3 rfl) ?_
        refine lv_icmp_le (tgt := 35) hx hb dX7_farthestBad_25 (by decide) (fun c6 => ?_) (fun c6 => ?_)
        · rw [if_pos c6] at h
          refine lv_iinc (v := (x4 + (-1))) (lv' := [(4, .int (x4 + (-1))), (0, .ref (a 0)), (1, .ref (a_forest 0)), (2, .int x2), (3, .int x3)]) hx hb dX7_farthestBad_35 hl (k := 4) rfl rfl (by decide) rfl (fun ls hl => ?_)
          refine lv_goto (tgt := 8) hx hb dX7_farthestBad_38 (by decide) ?_
          exact ih ((x4 + (-1))) ls (lv_sub hl [1, 2, 3, 4, 0] rfl) h
        · rw [if_neg c6] at h
          refine lv_aload_n hx hb dX7_farthestBad_28 rfl (lv_at hl 0 rfl) ?_
          refine lv_iload hx hb dX7_farthestBad_29 (lv_at hl 4 rfl) ?_
          obtain ⟨r7, hr8, h⟩ := ob h
          refine px_Vp (As := [.int x4]) (rest := []) (gs := ([gX7 E a v_commits v_length v_looks, gX1 E a_forest φ_forest] : List va_W)) (gc := ([gX7 E a v_commits v_length v_looks] : List va_W)) ⟨hx, hb, hml, hown, hts⟩ (c7_at l E a  (x4) (v_commits) (v_length) (v_looks) r7 hr8) (cwV 1 hts (ws_v q659 q660 q661 q23 q662) rfl rfl rfl hdV_X7_at (by rw [hR]; exact ⟨Nat.le_of_ble_eq_true rfl, Nat.le_of_ble_eq_true rfl⟩)) hK hN hP hD [0] rfl (by decide) 0 7 rfl rfl rfl rfl hl.1 rfl (Nat.le_of_ble_eq_true rfl) dX7_farthestBad_31 (by rw [hR]; exact ⟨Nat.le_of_ble_eq_true rfl, Nat.le_of_ble_eq_true rfl⟩) ?_
          refine W.eq (g2 := F0 m 34 ls [.int r7]) rfl ?_
          cases h
          exact px_ePi hQ hx hb hr hlocks dX7_farthestBad_34
  refine lv_aload_n hx hb dX7_farthestBad_0 rfl (lv_at hl 0 rfl) ?_
  refine va_get (D := E.1) (ci := 7) (v := .int v_length) (C := RX7) (T := TX7) (N := 3) hx hb hts iX7 hown hK hP 0 rfl rfl 1 (by decide) (hts _ q159) (fun _ h9 => h9) rfl dX7_farthestBad_1 ?_
  refine lv_iconst (v := (nI 1)) hx hb dX7_farthestBad_4 (by decide) ?_
  refine lv_isub hx hb dX7_farthestBad_5 ?_
  refine lv_istore (lv' := [(4, .int (v_length - (nI 1))), (0, .ref (a 0)), (1, .ref (a_forest 0)), (2, .int x2), (3, .int x3)]) hx hb dX7_farthestBad_6 hl (by decide) rfl (fun ls hl => ?_)
  exact L8 fuel ((v_length - (nI 1))) ls (lv_sub hl [1, 2, 3, 4, 0] rfl) h
def f7_latestChange_L2 (x2 : Int32) (v_commits : AI) (v_length : Int32) (φ_forest : Fo) : Nat → Int32 → Option (Int32)
  | 0, _ => none
  | n + 1, x3 => (if (v_length - (nI 1)) ≤ x3 then (some (nI 0)) else ((f7_at (x3) (v_commits) (v_length)).bind fun r2 => ((f1_amountIn (r2) (x2) (φ_forest)).bind fun r4 => ((f7_at ((x3 + (nI 1))) (v_commits) (v_length)).bind fun r6 => ((f1_amountIn (r6) (x2) (φ_forest)).bind fun r8 => (if r4 = r8 then (f7_latestChange_L2 x2 v_commits v_length φ_forest n ((x3 + nI 1))) else ((f7_at (x3) (v_commits) (v_length)).bind fun r11 => (some r11))))))))
def f7_latestChange (x2 : Int32) (v_commits : AI) (v_length : Int32) (φ_forest : Fo) : Option (Int32) := (f7_latestChange_L2 x2 v_commits v_length φ_forest fuel ((nI 0)))
set_option maxHeartbeats 4000000 in
set_option maxRecDepth 100000 in
theorem c7_latestChange (l : Launch) (E : PE) (a : Nat → Nat) (a_forest : Nat → Nat)  (x2 : Int32) (v_commits : AI) (v_length : Int32) (v_looks : Int32) (φ_forest : Fo) (r : Int32) (h : f7_latestChange x2 v_commits v_length φ_forest = some r) : MP l yX7_latestChange cX7_latestChange 4 (some .int) { frames := 1, cells := 0, slots := 0, locals := 22 } E [.ref (a 0), .ref (a_forest 0), .int x2] ([gX7 E a v_commits v_length v_looks, gX1 E a_forest φ_forest] : List va_W).flatten (some (.int r)) := by
  refine px_startP (by decide +kernel) (Nat.le_of_ble_eq_true rfl) ?_
  intro p e s m args below meth c R Q A ls hC hQ
  obtain ⟨hx, hb, hr, hml, hts, hown, hlocks, hR, hK, hN, hP, hD, hA, hl, hin⟩ := hC
  have hl : lv_has ls 4 [(0, .ref (a 0)), (1, .ref (a_forest 0)), (2, .int x2)] := hl
  unfold f7_latestChange at h
  have L2 : ∀ (n : Nat) (x3 : Int32) (ls : Array Slot), lv_has ls 4 [(0, .ref (a 0)), (1, .ref (a_forest 0)), (2, .int x2), (3, .int x3)] → f7_latestChange_L2 x2 v_commits v_length φ_forest n x3 = some r → W p l e R s m args below meth c s.heap [] 0 0 Q (F0 m 2 ls []) := by
    intro n
    induction n with
    | zero =>
      intro x3 ls hl h
      unfold f7_latestChange_L2 at h; cases h
    | succ n ih =>
      intro x3 ls hl h
      unfold f7_latestChange_L2 at h
      refine lv_iload_n hx hb dX7_latestChange_2 rfl (lv_at hl 3 rfl) ?_
      refine lv_aload_n hx hb dX7_latestChange_3 rfl (lv_at hl 0 rfl) ?_
      refine va_get (D := E.1) (ci := 7) (v := .int v_length) (C := RX7) (T := TX7) (N := 3) hx hb hts iX7 hown hK hP 0 rfl rfl 1 (by decide) (hts _ q159) (fun _ h9 => h9) rfl dX7_latestChange_4 ?_
      refine lv_iconst (v := (nI 1)) hx hb dX7_latestChange_7 (by decide) ?_
      refine lv_isub hx hb dX7_latestChange_8 ?_
      refine lv_icmp_ge (tgt := 49) hx hb dX7_latestChange_9 (by decide) (fun c1 => ?_) (fun c1 => ?_)
      · rw [if_pos c1] at h
        refine lv_iconst (v := (nI 0)) hx hb dX7_latestChange_49 (by decide) ?_
        cases h
        exact px_ePi hQ hx hb hr hlocks dX7_latestChange_50
      · rw [if_neg c1] at h
        refine lv_aload_n hx hb dX7_latestChange_12 rfl (lv_at hl 1 rfl) ?_
        refine lv_aload_n hx hb dX7_latestChange_13 rfl (lv_at hl 0 rfl) ?_
        refine lv_iload_n hx hb dX7_latestChange_14 rfl (lv_at hl 3 rfl) ?_
        obtain ⟨r2, hr3, h⟩ := ob h
        refine px_Vp (As := [.int x3]) (rest := [.ref (a_forest 0)]) (gs := ([gX7 E a v_commits v_length v_looks, gX1 E a_forest φ_forest] : List va_W)) (gc := ([gX7 E a v_commits v_length v_looks] : List va_W)) ⟨hx, hb, hml, hown, hts⟩ (c7_at l E a  (x3) (v_commits) (v_length) (v_looks) r2 hr3) (cwV 1 hts (ws_v q659 q660 q661 q23 q662) rfl rfl rfl hdV_X7_at (by rw [hR]; exact ⟨Nat.le_of_ble_eq_true rfl, Nat.le_of_ble_eq_true rfl⟩)) hK hN hP hD [0] rfl (by decide) 0 7 rfl rfl rfl rfl hl.1 rfl (Nat.le_of_ble_eq_true rfl) dX7_latestChange_15 (by rw [hR]; exact ⟨Nat.le_of_ble_eq_true rfl, Nat.le_of_ble_eq_true rfl⟩) ?_
        refine W.eq (g2 := F0 m 18 ls [.int r2, .ref (a_forest 0)]) rfl ?_
        refine lv_iload_n hx hb dX7_latestChange_18 rfl (lv_at hl 2 rfl) ?_
        obtain ⟨r4, hr5, h⟩ := ob h
        refine px_Vp (As := [.int r2, .int x2]) (rest := []) (gs := ([gX7 E a v_commits v_length v_looks, gX1 E a_forest φ_forest] : List va_W)) (gc := ([gX1 E a_forest φ_forest] : List va_W)) ⟨hx, hb, hml, hown, hts⟩ (c1_amountIn l E a_forest  (r2) (x2) (φ_forest) r4 hr5) (cwV 2 hts (ws_v q663 q299 q300 q19 q301) rfl rfl rfl hdV_X1_amountIn (by rw [hR]; exact ⟨Nat.le_of_ble_eq_true rfl, Nat.le_of_ble_eq_true rfl⟩)) hK hN hP hD [1] rfl (by decide) 0 1 rfl rfl rfl rfl hl.1 rfl (Nat.le_of_ble_eq_true rfl) dX7_latestChange_19 (by rw [hR]; exact ⟨Nat.le_of_ble_eq_true rfl, Nat.le_of_ble_eq_true rfl⟩) ?_
        refine W.eq (g2 := F0 m 22 ls [.int r4]) rfl ?_
        refine lv_aload_n hx hb dX7_latestChange_22 rfl (lv_at hl 1 rfl) ?_
        refine lv_aload_n hx hb dX7_latestChange_23 rfl (lv_at hl 0 rfl) ?_
        refine lv_iload_n hx hb dX7_latestChange_24 rfl (lv_at hl 3 rfl) ?_
        refine lv_iconst (v := (nI 1)) hx hb dX7_latestChange_25 (by decide) ?_
        refine lv_iadd hx hb dX7_latestChange_26 ?_
        obtain ⟨r6, hr7, h⟩ := ob h
        refine px_Vp (As := [.int (x3 + (nI 1))]) (rest := [.ref (a_forest 0), .int r4]) (gs := ([gX7 E a v_commits v_length v_looks, gX1 E a_forest φ_forest] : List va_W)) (gc := ([gX7 E a v_commits v_length v_looks] : List va_W)) ⟨hx, hb, hml, hown, hts⟩ (c7_at l E a  ((x3 + (nI 1))) (v_commits) (v_length) (v_looks) r6 hr7) (cwV 1 hts (ws_v q659 q660 q661 q23 q662) rfl rfl rfl hdV_X7_at (by rw [hR]; exact ⟨Nat.le_of_ble_eq_true rfl, Nat.le_of_ble_eq_true rfl⟩)) hK hN hP hD [0] rfl (by decide) 0 7 rfl rfl rfl rfl hl.1 rfl (Nat.le_of_ble_eq_true rfl) dX7_latestChange_27 (by rw [hR]; exact ⟨Nat.le_of_ble_eq_true rfl, Nat.le_of_ble_eq_true rfl⟩) ?_
        refine W.eq (g2 := F0 m 30 ls [.int r6, .ref (a_forest 0), .int r4]) rfl ?_
        refine lv_iload_n hx hb dX7_latestChange_30 rfl (lv_at hl 2 rfl) ?_
        obtain ⟨r8, hr9, h⟩ := ob h
        refine px_Vp (As := [.int r6, .int x2]) (rest := [.int r4]) (gs := ([gX7 E a v_commits v_length v_looks, gX1 E a_forest φ_forest] : List va_W)) (gc := ([gX1 E a_forest φ_forest] : List va_W)) ⟨hx, hb, hml, hown, hts⟩ (c1_amountIn l E a_forest  (r6) (x2) (φ_forest) r8 hr9) (cwV 2 hts (ws_v q663 q299 q300 q19 q301) rfl rfl rfl hdV_X1_amountIn (by rw [hR]; exact ⟨Nat.le_of_ble_eq_true rfl, Nat.le_of_ble_eq_true rfl⟩)) hK hN hP hD [1] rfl (by decide) 0 1 rfl rfl rfl rfl hl.1 rfl (Nat.le_of_ble_eq_true rfl) dX7_latestChange_31 (by rw [hR]; exact ⟨Nat.le_of_ble_eq_true rfl, Nat.le_of_ble_eq_true rfl⟩) ?_
        refine W.eq (g2 := F0 m 34 ls [.int r8, .int r4]) rfl ?_
        refine lv_icmp_eq (tgt := 43) hx hb dX7_latestChange_34 (by decide) (fun c10 => ?_) (fun c10 => ?_)
        · rw [if_pos c10] at h
          refine lv_iinc (v := (x3 + nI 1)) (lv' := [(3, .int (x3 + nI 1)), (0, .ref (a 0)), (1, .ref (a_forest 0)), (2, .int x2)]) hx hb dX7_latestChange_43 hl (k := 3) rfl rfl (by decide) rfl (fun ls hl => ?_)
          refine lv_goto (tgt := 2) hx hb dX7_latestChange_46 (by decide) ?_
          exact ih ((x3 + nI 1)) ls (lv_sub hl [1, 2, 3, 0] rfl) h
        · rw [if_neg c10] at h
          refine lv_aload_n hx hb dX7_latestChange_37 rfl (lv_at hl 0 rfl) ?_
          refine lv_iload_n hx hb dX7_latestChange_38 rfl (lv_at hl 3 rfl) ?_
          obtain ⟨r11, hr12, h⟩ := ob h
          refine px_Vp (As := [.int x3]) (rest := []) (gs := ([gX7 E a v_commits v_length v_looks, gX1 E a_forest φ_forest] : List va_W)) (gc := ([gX7 E a v_commits v_length v_looks] : List va_W)) ⟨hx, hb, hml, hown, hts⟩ (c7_at l E a  (x3) (v_commits) (v_length) (v_looks) r11 hr12) (cwV 1 hts (ws_v q659 q660 q661 q23 q662) rfl rfl rfl hdV_X7_at (by rw [hR]; exact ⟨Nat.le_of_ble_eq_true rfl, Nat.le_of_ble_eq_true rfl⟩)) hK hN hP hD [0] rfl (by decide) 0 7 rfl rfl rfl rfl hl.1 rfl (Nat.le_of_ble_eq_true rfl) dX7_latestChange_39 (by rw [hR]; exact ⟨Nat.le_of_ble_eq_true rfl, Nat.le_of_ble_eq_true rfl⟩) ?_
          refine W.eq (g2 := F0 m 42 ls [.int r11]) rfl ?_
          cases h
          exact px_ePi hQ hx hb hr hlocks dX7_latestChange_42
  refine lv_iconst (v := (nI 0)) hx hb dX7_latestChange_0 (by decide) ?_
  refine lv_istore_n (lv' := [(3, .int (nI 0)), (0, .ref (a 0)), (1, .ref (a_forest 0)), (2, .int x2)]) hx hb dX7_latestChange_1 rfl hl (by decide) rfl (fun ls hl => ?_)
  exact L2 fuel ((nI 0)) ls (lv_sub hl [1, 2, 3, 0] rfl) h
def f7_farthestBest_L12 (v_commits : AI) (v_length : Int32) (φ_forest : Fo) : Nat → Int32 → UInt32 → Int32 → Option (Int32)
  | 0, _, _, _ => none
  | n + 1, x2, x3, x4 => (if x4 < 0 then (some x2) else ((f7_at (x4) (v_commits) (v_length)).bind fun r2 => ((f1_tasteOf (r2) (φ_forest)).bind fun r4 => (if (Op.cmpValue (FP.fcmp r4 x3) CmpOp.l) ≤ 0 then (f7_farthestBest_L12 v_commits v_length φ_forest n (x2) (x3) ((x4 + (-1)))) else ((f7_at (x4) (v_commits) (v_length)).bind fun r7 => (f7_farthestBest_L12 v_commits v_length φ_forest n (r7) (r4) ((x4 + (-1)))))))))
def f7_farthestBest  (v_commits : AI) (v_length : Int32) (φ_forest : Fo) : Option (Int32) := (f7_farthestBest_L12 v_commits v_length φ_forest fuel ((nI 0)) (FP.fconst0) ((v_length - (nI 1))))
set_option maxHeartbeats 4000000 in
set_option maxRecDepth 100000 in
theorem c7_farthestBest (l : Launch) (E : PE) (a : Nat → Nat) (a_forest : Nat → Nat)   (v_commits : AI) (v_length : Int32) (v_looks : Int32) (φ_forest : Fo) (r : Int32) (h : f7_farthestBest v_commits v_length φ_forest = some r) : MP l yX7_farthestBest cX7_farthestBest 6 (some .int) { frames := 2, cells := 0, slots := 0, locals := 47 } E [.ref (a 0), .ref (a_forest 0)] ([gX7 E a v_commits v_length v_looks, gX1 E a_forest φ_forest] : List va_W).flatten (some (.int r)) := by
  refine px_startP (by decide +kernel) (Nat.le_of_ble_eq_true rfl) ?_
  intro p e s m args below meth c R Q A ls hC hQ
  obtain ⟨hx, hb, hr, hml, hts, hown, hlocks, hR, hK, hN, hP, hD, hA, hl, hin⟩ := hC
  have hl : lv_has ls 6 [(0, .ref (a 0)), (1, .ref (a_forest 0))] := hl
  unfold f7_farthestBest at h
  have L12 : ∀ (n : Nat) (x2 : Int32) (x3 : UInt32) (x4 : Int32) (ls : Array Slot), lv_has ls 6 [(0, .ref (a 0)), (1, .ref (a_forest 0)), (2, .int x2), (3, .float x3), (4, .int x4)] → f7_farthestBest_L12 v_commits v_length φ_forest n x2 x3 x4 = some r → W p l e R s m args below meth c s.heap [] 0 0 Q (F0 m 12 ls []) := by
    intro n
    induction n with
    | zero =>
      intro x2 x3 x4 ls hl h
      unfold f7_farthestBest_L12 at h; cases h
    | succ n ih =>
      intro x2 x3 x4 ls hl h
      unfold f7_farthestBest_L12 at h
      refine lv_iload hx hb dX7_farthestBest_12 (lv_at hl 4 rfl) ?_
      refine lv_if_lt (tgt := 52) hx hb dX7_farthestBest_14 (by decide) (fun c1 => ?_) (fun c1 => ?_)
      · rw [if_pos c1] at h
        refine lv_iload_n hx hb dX7_farthestBest_52 rfl (lv_at hl 2 rfl) ?_
        cases h
        exact px_ePi hQ hx hb hr hlocks dX7_farthestBest_53
      · rw [if_neg c1] at h
        refine lv_aload_n hx hb dX7_farthestBest_17 rfl (lv_at hl 1 rfl) ?_
        refine lv_aload_n hx hb dX7_farthestBest_18 rfl (lv_at hl 0 rfl) ?_
        refine lv_iload hx hb dX7_farthestBest_19 (lv_at hl 4 rfl) ?_
        obtain ⟨r2, hr3, h⟩ := ob h
        refine px_Vp (As := [.int x4]) (rest := [.ref (a_forest 0)]) (gs := ([gX7 E a v_commits v_length v_looks, gX1 E a_forest φ_forest] : List va_W)) (gc := ([gX7 E a v_commits v_length v_looks] : List va_W)) ⟨hx, hb, hml, hown, hts⟩ (c7_at l E a  (x4) (v_commits) (v_length) (v_looks) r2 hr3) (cwV 1 hts (ws_v q659 q660 q661 q23 q662) rfl rfl rfl hdV_X7_at (by rw [hR]; exact ⟨Nat.le_of_ble_eq_true rfl, Nat.le_of_ble_eq_true rfl⟩)) hK hN hP hD [0] rfl (by decide) 0 7 rfl rfl rfl rfl hl.1 rfl (Nat.le_of_ble_eq_true rfl) dX7_farthestBest_21 (by rw [hR]; exact ⟨Nat.le_of_ble_eq_true rfl, Nat.le_of_ble_eq_true rfl⟩) ?_
        refine W.eq (g2 := F0 m 24 ls [.int r2, .ref (a_forest 0)]) rfl ?_
        obtain ⟨r4, hr5, h⟩ := ob h
        refine px_Vp (As := [.int r2]) (rest := []) (gs := ([gX7 E a v_commits v_length v_looks, gX1 E a_forest φ_forest] : List va_W)) (gc := ([gX1 E a_forest φ_forest] : List va_W)) ⟨hx, hb, hml, hown, hts⟩ (c1_tasteOf l E a_forest  (r2) (φ_forest) r4 hr5) (cwV 1 hts (ws_v q1110 q951 q952 q19 q953) rfl rfl rfl hdV_X1_tasteOf (by rw [hR]; exact ⟨Nat.le_of_ble_eq_true rfl, Nat.le_of_ble_eq_true rfl⟩)) hK hN hP hD [1] rfl (by decide) 0 1 rfl rfl rfl rfl hl.1 rfl (Nat.le_of_ble_eq_true rfl) dX7_farthestBest_24 (by rw [hR]; exact ⟨Nat.le_of_ble_eq_true rfl, Nat.le_of_ble_eq_true rfl⟩) ?_
        refine W.eq (g2 := F0 m 27 ls [.float r4]) rfl ?_
        refine lv_fstore (lv' := [(5, .float r4), (0, .ref (a 0)), (1, .ref (a_forest 0)), (2, .int x2), (3, .float x3), (4, .int x4)]) hx hb dX7_farthestBest_27 hl (by decide) rfl (fun ls hl => ?_)
        refine lv_fload hx hb dX7_farthestBest_29 (lv_at hl 0 rfl) ?_
        refine lv_fload_n hx hb dX7_farthestBest_31 rfl (lv_at hl 4 rfl) ?_
        refine lv_fcmp hx hb dX7_farthestBest_32 ?_
        refine lv_if_le (tgt := 46) hx hb dX7_farthestBest_33 (by decide) (fun c6 => ?_) (fun c6 => ?_)
        · rw [if_pos c6] at h
          refine lv_iinc (v := (x4 + (-1))) (lv' := [(4, .int (x4 + (-1))), (5, .float r4), (0, .ref (a 0)), (1, .ref (a_forest 0)), (2, .int x2), (3, .float x3)]) hx hb dX7_farthestBest_46 hl (k := 5) rfl rfl (by decide) rfl (fun ls hl => ?_)
          refine lv_goto (tgt := 12) hx hb dX7_farthestBest_49 (by decide) ?_
          exact ih (x2) (x3) ((x4 + (-1))) ls (lv_sub hl [2, 3, 4, 5, 0] rfl) h
        · rw [if_neg c6] at h
          refine lv_fload hx hb dX7_farthestBest_36 (lv_at hl 0 rfl) ?_
          refine lv_fstore_n (lv' := [(3, .float r4), (5, .float r4), (0, .ref (a 0)), (1, .ref (a_forest 0)), (2, .int x2), (4, .int x4)]) hx hb dX7_farthestBest_38 rfl hl (by decide) rfl (fun ls hl => ?_)
          refine lv_aload_n hx hb dX7_farthestBest_39 rfl (lv_at hl 2 rfl) ?_
          refine lv_iload hx hb dX7_farthestBest_40 (lv_at hl 5 rfl) ?_
          obtain ⟨r7, hr8, h⟩ := ob h
          refine px_Vp (As := [.int x4]) (rest := []) (gs := ([gX7 E a v_commits v_length v_looks, gX1 E a_forest φ_forest] : List va_W)) (gc := ([gX7 E a v_commits v_length v_looks] : List va_W)) ⟨hx, hb, hml, hown, hts⟩ (c7_at l E a  (x4) (v_commits) (v_length) (v_looks) r7 hr8) (cwV 1 hts (ws_v q659 q660 q661 q23 q662) rfl rfl rfl hdV_X7_at (by rw [hR]; exact ⟨Nat.le_of_ble_eq_true rfl, Nat.le_of_ble_eq_true rfl⟩)) hK hN hP hD [0] rfl (by decide) 0 7 rfl rfl rfl rfl hl.1 rfl (Nat.le_of_ble_eq_true rfl) dX7_farthestBest_42 (by rw [hR]; exact ⟨Nat.le_of_ble_eq_true rfl, Nat.le_of_ble_eq_true rfl⟩) ?_
          refine W.eq (g2 := F0 m 45 ls [.int r7]) rfl ?_
          refine lv_istore_n (lv' := [(2, .int r7), (3, .float r4), (5, .float r4), (0, .ref (a 0)), (1, .ref (a_forest 0)), (4, .int x4)]) hx hb dX7_farthestBest_45 rfl hl (by decide) rfl (fun ls hl => ?_)
          refine lv_iinc (v := (x4 + (-1))) (lv' := [(4, .int (x4 + (-1))), (2, .int r7), (3, .float r4), (5, .float r4), (0, .ref (a 0)), (1, .ref (a_forest 0))]) hx hb dX7_farthestBest_46 hl (k := 5) rfl rfl (by decide) rfl (fun ls hl => ?_)
          refine lv_goto (tgt := 12) hx hb dX7_farthestBest_49 (by decide) ?_
          exact ih (r7) (r4) ((x4 + (-1))) ls (lv_sub hl [4, 5, 1, 2, 0] rfl) h
  refine lv_iconst (v := (nI 0)) hx hb dX7_farthestBest_0 (by decide) ?_
  refine lv_istore_n (lv' := [(2, .int (nI 0)), (0, .ref (a 0)), (1, .ref (a_forest 0))]) hx hb dX7_farthestBest_1 rfl hl (by decide) rfl (fun ls hl => ?_)
  refine lv_fconst0 hx hb dX7_farthestBest_2 ?_
  refine lv_fstore_n (lv' := [(3, .float FP.fconst0), (2, .int (nI 0)), (0, .ref (a 0)), (1, .ref (a_forest 0))]) hx hb dX7_farthestBest_3 rfl hl (by decide) rfl (fun ls hl => ?_)
  refine lv_aload_n hx hb dX7_farthestBest_4 rfl (lv_at hl 2 rfl) ?_
  refine va_get (D := E.1) (ci := 7) (v := .int v_length) (C := RX7) (T := TX7) (N := 3) hx hb hts iX7 hown hK hP 0 rfl rfl 1 (by decide) (hts _ q159) (fun _ h9 => h9) rfl dX7_farthestBest_5 ?_
  refine lv_iconst (v := (nI 1)) hx hb dX7_farthestBest_8 (by decide) ?_
  refine lv_isub hx hb dX7_farthestBest_9 ?_
  refine lv_istore (lv' := [(4, .int (v_length - (nI 1))), (3, .float FP.fconst0), (2, .int (nI 0)), (0, .ref (a 0)), (1, .ref (a_forest 0))]) hx hb dX7_farthestBest_10 hl (by decide) rfl (fun ls hl => ?_)
  exact L12 fuel ((nI 0)) (FP.fconst0) ((v_length - (nI 1))) ls (lv_sub hl [3, 4, 2, 1, 0] rfl) h
