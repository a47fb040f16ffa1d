def f9_isIn (x1 : Int32) (x2 : Int32) (v_now : AI) (v_thrown : Int32) : Option (Bool × Int32) := ((f9_isCommit (x1) (v_now)).bind fun r1 => (if (b2i r1) = 0 then (if (nI 1) = 0 then ((f9_isWithin (x1) (x2) (v_now)).bind fun r5 => (if (b2i r5) = 0 then (some (false, (nI 1))) else (some (true, (nI 1))))) else (some (false, (nI 1)))) else ((f9_isCommit (x2) (v_now)).bind fun r8 => (if (b2i r8) = 0 then (if (nI 1) = 0 then ((f9_isWithin (x1) (x2) (v_now)).bind fun r12 => (if (b2i r12) = 0 then (some (false, (nI 1))) else (some (true, (nI 1))))) else (some (false, (nI 1)))) else (if (nI 0) = 0 then ((f9_isWithin (x1) (x2) (v_now)).bind fun r16 => (if (b2i r16) = 0 then (some (false, (nI 0))) else (some (true, (nI 0))))) else (some (false, (nI 0))))))))
set_option maxHeartbeats 4000000 in
set_option maxRecDepth 100000 in
theorem c9_isIn (l : Launch) (E : PE) (a : Nat → Nat)  (x1 : Int32) (x2 : Int32) (v_now : AI) (v_tried : AI) (v_kept : AI) (v_undos : Int32) (v_saved : AI) (v_isSaved : Int32) (v_line : AI) (v_lined : Int32) (v_text : AI) (v_length : Int32) (v_at : Int32) (v_order : Int32) (v_told : AI) (v_error : Int32) (v_reason : Int32) (v_detail : Int32) (v_answer : Int32) (v_thrown : Int32) (v_mixed : AI) (v_conflicts : Int32) (v_firstConflict : Int32) (r : Bool) (z_this_thrown : Int32) (h : f9_isIn x1 x2 v_now v_thrown = some (r, z_this_thrown)) : MW l yX9_isIn cX9_isIn 3 (some .boolean) { frames := 3, cells := 0, slots := 0, locals := 67 } E [.ref (a 0), .int x1, .int x2] ([gX9 E a v_now v_tried v_kept v_undos v_saved v_isSaved v_line v_lined v_text v_length v_at v_order v_told v_error v_reason v_detail v_answer v_thrown v_mixed v_conflicts v_firstConflict] : List va_W).flatten 0 0 (some (.int (b2i r))) ([gX9 E a v_now v_tried v_kept v_undos v_saved v_isSaved v_line v_lined v_text v_length v_at v_order v_told v_error v_reason v_detail v_answer z_this_thrown v_mixed v_conflicts v_firstConflict] : List va_W).flatten := by
  refine px_startW (by decide +kernel) (Nat.le_of_ble_eq_true rfl) ?_
  intro p e s m args below meth c R Q A ls hC hA0 hQ
  obtain ⟨hx, hb, hr, hml, hts, hown, hlocks, hR, hK, hN, hP, hD, hA, hl, hin⟩ := hC
  have hl : lv_has ls 3 [(0, .ref (a 0)), (1, .int x1), (2, .int x2)] := hl
  suffices key : ∀ (H : Heap) (locs : List Loc), va_P E.1 vwCl ([gX9 E a v_now v_tried v_kept v_undos v_saved v_isSaved v_line v_lined v_text v_length v_at v_order v_told v_error v_reason v_detail v_answer v_thrown v_mixed v_conflicts v_firstConflict] : List va_W).flatten H → va_S A s.heap H locs → W p l e R s m args below meth c H locs 0 0 Q (F0 m 0 ls []) from key s.heap [] hP va_S.rf
  unfold f9_isIn at h
  intro H locs hP hS
  refine lv_aload_n hx hb dX9_isIn_0 rfl (lv_at hl 0 rfl) ?_
  refine lv_aload_n hx hb dX9_isIn_1 rfl (lv_at hl 0 rfl) ?_
  refine lv_iload_n hx hb dX9_isIn_2 rfl (lv_at hl 1 rfl) ?_
  obtain ⟨r1, hr2, h⟩ := ob h
  refine px_Vp (As := [.int x1]) (rest := [.ref (a 0)]) (gs := ([gX9 E a v_now v_tried v_kept v_undos v_saved v_isSaved v_line v_lined v_text v_length v_at v_order v_told v_error v_reason v_detail v_answer v_thrown v_mixed v_conflicts v_firstConflict] : List va_W)) (gc := ([gX9 E a v_now v_tried v_kept v_undos v_saved v_isSaved v_line v_lined v_text v_length v_at v_order v_told v_error v_reason v_detail v_answer v_thrown v_mixed v_conflicts v_firstConflict] : List va_W)) ⟨hx, hb, hml, hown, hts⟩ (c9_isCommit l E a  (x1) (v_now) (v_tried) (v_kept) (v_undos) (v_saved) (v_isSaved) (v_line) (v_lined) (v_text) (v_length) (v_at) (v_order) (v_told) (v_error) (v_reason) (v_detail) (v_answer) (v_thrown) (v_mixed) (v_conflicts) (v_firstConflict) r1 hr2) (cwV 1 hts (ws_v q1344 q1346 q32 q68 q1347) rfl rfl rfl hdV_X9_isCommit (by rw [hR]; exact ⟨Nat.le_of_ble_eq_true rfl, Nat.le_of_ble_eq_true rfl⟩)) hK hN hP hD [0] rfl (by decide) 0 9 rfl rfl rfl rfl hl.1 rfl (Nat.le_of_ble_eq_true rfl) dX9_isIn_3 (by rw [hR]; exact ⟨Nat.le_of_ble_eq_true rfl, Nat.le_of_ble_eq_true rfl⟩) ?_
  refine W.eq (g2 := F0 m 6 ls [.int (b2i r1), .ref (a 0)]) rfl ?_
  refine lv_if_eq (tgt := 21) hx hb dX9_isIn_6 (by decide) (fun c3 => ?_) (fun c3 => ?_)
  · rw [if_pos c3] at h
    refine lv_iconst (v := (nI 1)) hx hb dX9_isIn_21 (by decide) ?_
    refine va_put (D := E.1) (ci := 9) (v := .int (nI 1)) (ty := .int) (C := RX9) (T := TX9) (N := 21) hx hb hts iX9 tyX9 tyX9_ok nmX9 hown hK hP hD hS 0 rfl rfl 17 (by decide) (hts _ q1215) (fun _ h9 => h9) rfl (tyX9_ok 17 (by decide)) rfl rfl (Nat.le_of_ble_eq_true rfl) dX9_isIn_22 (fun H locs hP hD hS => ?_)
    have hP : va_P E.1 vwCl ([gX9 E a v_now v_tried v_kept v_undos v_saved v_isSaved v_line v_lined v_text v_length v_at v_order v_told v_error v_reason v_detail v_answer (nI 1) v_mixed v_conflicts v_firstConflict] : List va_W).flatten H := hP
    have hD : va_D A ([gX9 E a v_now v_tried v_kept v_undos v_saved v_isSaved v_line v_lined v_text v_length v_at v_order v_told v_error v_reason v_detail v_answer (nI 1) v_mixed v_conflicts v_firstConflict] : List va_W).flatten := hD
    refine lv_aload_n hx hb dX9_isIn_25 rfl (lv_at hl 0 rfl) ?_
    refine va_get (D := E.1) (ci := 9) (v := .int (nI 1)) (C := RX9) (T := TX9) (N := 21) hx hb hts iX9 hown hK hP 0 rfl rfl 17 (by decide) (hts _ q1215) (fun _ h9 => h9) rfl dX9_isIn_26 ?_
    refine lv_if_ne (tgt := 45) hx hb dX9_isIn_29 (by decide) (fun c4 => ?_) (fun c4 => ?_)
    · rw [if_neg c4] at h
      refine lv_iconst (v := (nI 0)) hx hb dX9_isIn_45 (by decide) ?_
      cases h
      refine W.eq (g2 := F0 m 46 ls [.int (b2i false)]) rfl ?_
      exact px_eWz (b2i_n _) hA0 hQ hP hD hS hx hb hr hlocks dX9_isIn_46
    · rw [if_pos c4] at h
      refine lv_aload_n hx hb dX9_isIn_32 rfl (lv_at hl 0 rfl) ?_
      refine lv_iload_n hx hb dX9_isIn_33 rfl (lv_at hl 1 rfl) ?_
      refine lv_iload_n hx hb dX9_isIn_34 rfl (lv_at hl 2 rfl) ?_
      obtain ⟨r5, hr6, h⟩ := ob h
      refine px_Vp (As := [.int x1, .int x2]) (rest := []) (gs := ([gX9 E a v_now v_tried v_kept v_undos v_saved v_isSaved v_line v_lined v_text v_length v_at v_order v_told v_error v_reason v_detail v_answer (nI 1) v_mixed v_conflicts v_firstConflict] : List va_W)) (gc := ([gX9 E a v_now v_tried v_kept v_undos v_saved v_isSaved v_line v_lined v_text v_length v_at v_order v_told v_error v_reason v_detail v_answer (nI 1) v_mixed v_conflicts v_firstConflict] : List va_W)) ⟨hx, hb, hml, hown, hts⟩ (c9_isWithin l E a  (x1) (x2) (v_now) (v_tried) (v_kept) (v_undos) (v_saved) (v_isSaved) (v_line) (v_lined) (v_text) (v_length) (v_at) (v_order) (v_told) (v_error) (v_reason) (v_detail) (v_answer) ((nI 1)) (v_mixed) (v_conflicts) (v_firstConflict) r5 hr6) (cwV 2 hts (ws_v q1382 q1384 q37 q68 q1385) rfl rfl rfl hdV_X9_isWithin (by rw [hR]; exact ⟨Nat.le_of_ble_eq_true rfl, Nat.le_of_ble_eq_true rfl⟩)) hK hN hP hD [0] rfl (by decide) 0 9 rfl rfl rfl rfl hl.1 rfl (Nat.le_of_ble_eq_true rfl) dX9_isIn_35 (by rw [hR]; exact ⟨Nat.le_of_ble_eq_true rfl, Nat.le_of_ble_eq_true rfl⟩) ?_
      refine W.eq (g2 := F0 m 38 ls [.int (b2i r5)]) rfl ?_
      refine lv_if_eq (tgt := 45) hx hb dX9_isIn_38 (by decide) (fun c7 => ?_) (fun c7 => ?_)
      · rw [if_pos c7] at h
        refine lv_iconst (v := (nI 0)) hx hb dX9_isIn_45 (by decide) ?_
        cases h
        refine W.eq (g2 := F0 m 46 ls [.int (b2i false)]) rfl ?_
        exact px_eWz (b2i_n _) hA0 hQ hP hD hS hx hb hr hlocks dX9_isIn_46
      · rw [if_neg c7] at h
        refine lv_iconst (v := (nI 1)) hx hb dX9_isIn_41 (by decide) ?_
        refine lv_goto (tgt := 46) hx hb dX9_isIn_42 (by decide) ?_
        cases h
        refine W.eq (g2 := F0 m 46 ls [.int (b2i true)]) rfl ?_
        exact px_eWz (b2i_n _) hA0 hQ hP hD hS hx hb hr hlocks dX9_isIn_46
  · rw [if_neg c3] at h
    refine lv_aload_n hx hb dX9_isIn_9 rfl (lv_at hl 0 rfl) ?_
    refine lv_iload_n hx hb dX9_isIn_10 rfl (lv_at hl 2 rfl) ?_
    obtain ⟨r8, hr9, h⟩ := ob h
    refine px_Vp (As := [.int x2]) (rest := [.ref (a 0)]) (gs := ([gX9 E a v_now v_tried v_kept v_undos v_saved v_isSaved v_line v_lined v_text v_length v_at v_order v_told v_error v_reason v_detail v_answer v_thrown v_mixed v_conflicts v_firstConflict] : List va_W)) (gc := ([gX9 E a v_now v_tried v_kept v_undos v_saved v_isSaved v_line v_lined v_text v_length v_at v_order v_told v_error v_reason v_detail v_answer v_thrown v_mixed v_conflicts v_firstConflict] : List va_W)) ⟨hx, hb, hml, hown, hts⟩ (c9_isCommit l E a  (x2) (v_now) (v_tried) (v_kept) (v_undos) (v_saved) (v_isSaved) (v_line) (v_lined) (v_text) (v_length) (v_at) (v_order) (v_told) (v_error) (v_reason) (v_detail) (v_answer) (v_thrown) (v_mixed) (v_conflicts) (v_firstConflict) r8 hr9) (cwV 1 hts (ws_v q1344 q1346 q32 q68 q1347) rfl rfl rfl hdV_X9_isCommit (by rw [hR]; exact ⟨Nat.le_of_ble_eq_true rfl, Nat.le_of_ble_eq_true rfl⟩)) hK hN hP hD [0] rfl (by decide) 0 9 rfl rfl rfl rfl hl.1 rfl (Nat.le_of_ble_eq_true rfl) dX9_isIn_11 (by rw [hR]; exact ⟨Nat.le_of_ble_eq_true rfl, Nat.le_of_ble_eq_true rfl⟩) ?_
    refine W.eq (g2 := F0 m 14 ls [.int (b2i r8), .ref (a 0)]) rfl ?_
    refine lv_if_eq (tgt := 21) hx hb dX9_isIn_14 (by decide) (fun c10 => ?_) (fun c10 => ?_)
    · rw [if_pos c10] at h
      refine lv_iconst (v := (nI 1)) hx hb dX9_isIn_21 (by decide) ?_
      refine va_put (D := E.1) (ci := 9) (v := .int (nI 1)) (ty := .int) (C := RX9) (T := TX9) (N := 21) hx hb hts iX9 tyX9 tyX9_ok nmX9 hown hK hP hD hS 0 rfl rfl 17 (by decide) (hts _ q1215) (fun _ h9 => h9) rfl (tyX9_ok 17 (by decide)) rfl rfl (Nat.le_of_ble_eq_true rfl) dX9_isIn_22 (fun H locs hP hD hS => ?_)
      have hP : va_P E.1 vwCl ([gX9 E a v_now v_tried v_kept v_undos v_saved v_isSaved v_line v_lined v_text v_length v_at v_order v_told v_error v_reason v_detail v_answer (nI 1) v_mixed v_conflicts v_firstConflict] : List va_W).flatten H := hP
      have hD : va_D A ([gX9 E a v_now v_tried v_kept v_undos v_saved v_isSaved v_line v_lined v_text v_length v_at v_order v_told v_error v_reason v_detail v_answer (nI 1) v_mixed v_conflicts v_firstConflict] : List va_W).flatten := hD
      refine lv_aload_n hx hb dX9_isIn_25 rfl (lv_at hl 0 rfl) ?_
      refine va_get (D := E.1) (ci := 9) (v := .int (nI 1)) (C := RX9) (T := TX9) (N := 21) hx hb hts iX9 hown hK hP 0 rfl rfl 17 (by decide) (hts _ q1215) (fun _ h9 => h9) rfl dX9_isIn_26 ?_
      refine lv_if_ne (tgt := 45) hx hb dX9_isIn_29 (by decide) (fun c11 => ?_) (fun c11 => ?_)
      · rw [if_neg c11] at h
        refine lv_iconst (v := (nI 0)) hx hb dX9_isIn_45 (by decide) ?_
        cases h
        refine W.eq (g2 := F0 m 46 ls [.int (b2i false)]) rfl ?_
        exact px_eWz (b2i_n _) hA0 hQ hP hD hS hx hb hr hlocks dX9_isIn_46
      · rw [if_pos c11] at h
        refine lv_aload_n hx hb dX9_isIn_32 rfl (lv_at hl 0 rfl) ?_
        refine lv_iload_n hx hb dX9_isIn_33 rfl (lv_at hl 1 rfl) ?_
        refine lv_iload_n hx hb dX9_isIn_34 rfl (lv_at hl 2 rfl) ?_
        obtain ⟨r12, hr13, h⟩ := ob h
        refine px_Vp (As := [.int x1, .int x2]) (rest := []) (gs := ([gX9 E a v_now v_tried v_kept v_undos v_saved v_isSaved v_line v_lined v_text v_length v_at v_order v_told v_error v_reason v_detail v_answer (nI 1) v_mixed v_conflicts v_firstConflict] : List va_W)) (gc := ([gX9 E a v_now v_tried v_kept v_undos v_saved v_isSaved v_line v_lined v_text v_length v_at v_order v_told v_error v_reason v_detail v_answer (nI 1) v_mixed v_conflicts v_firstConflict] : List va_W)) ⟨hx, hb, hml, hown, hts⟩ (c9_isWithin l E a  (x1) (x2) (v_now) (v_tried) (v_kept) (v_undos) (v_saved) (v_isSaved) (v_line) (v_lined) (v_text) (v_length) (v_at) (v_order) (v_told) (v_error) (v_reason) (v_detail) (v_answer) ((nI 1)) (v_mixed) (v_conflicts) (v_firstConflict) r12 hr13) (cwV 2 hts (ws_v q1382 q1384 q37 q68 q1385) rfl rfl rfl hdV_X9_isWithin (by rw [hR]; exact ⟨Nat.le_of_ble_eq_true rfl, Nat.le_of_ble_eq_true rfl⟩)) hK hN hP hD [0] rfl (by decide) 0 9 rfl rfl rfl rfl hl.1 rfl (Nat.le_of_ble_eq_true rfl) dX9_isIn_35 (by rw [hR]; exact ⟨Nat.le_of_ble_eq_true rfl, Nat.le_of_ble_eq_true rfl⟩) ?_
        refine W.eq (g2 := F0 m 38 ls [.int (b2i r12)]) rfl ?_
        refine lv_if_eq (tgt := 45) hx hb dX9_isIn_38 (by decide) (fun c14 => ?_) (fun c14 => ?_)
        · rw [if_pos c14] at h
          refine lv_iconst (v := (nI 0)) hx hb dX9_isIn_45 (by decide) ?_
          cases h
          refine W.eq (g2 := F0 m 46 ls [.int (b2i false)]) rfl ?_
          exact px_eWz (b2i_n _) hA0 hQ hP hD hS hx hb hr hlocks dX9_isIn_46
        · rw [if_neg c14] at h
          refine lv_iconst (v := (nI 1)) hx hb dX9_isIn_41 (by decide) ?_
          refine lv_goto (tgt := 46) hx hb dX9_isIn_42 (by decide) ?_
          cases h
          refine W.eq (g2 := F0 m 46 ls [.int (b2i true)]) rfl ?_
          exact px_eWz (b2i_n _) hA0 hQ hP hD hS hx hb hr hlocks dX9_isIn_46
    · rw [if_neg c10] at h
      refine lv_iconst (v := (nI 0)) hx hb dX9_isIn_17 (by decide) ?_
      refine lv_goto (tgt := 22) hx hb dX9_isIn_18 (by decide) ?_
      refine va_put (D := E.1) (ci := 9) (v := .int (nI 0)) (ty := .int) (C := RX9) (T := TX9) (N := 21) hx hb hts iX9 tyX9 tyX9_ok nmX9 hown hK hP hD hS 0 rfl rfl 17 (by decide) (hts _ q1215) (fun _ h9 => h9) rfl (tyX9_ok 17 (by decide)) rfl rfl (Nat.le_of_ble_eq_true rfl) dX9_isIn_22 (fun H locs hP hD hS => ?_)
      have hP : va_P E.1 vwCl ([gX9 E a v_now v_tried v_kept v_undos v_saved v_isSaved v_line v_lined v_text v_length v_at v_order v_told v_error v_reason v_detail v_answer (nI 0) v_mixed v_conflicts v_firstConflict] : List va_W).flatten H := hP
      have hD : va_D A ([gX9 E a v_now v_tried v_kept v_undos v_saved v_isSaved v_line v_lined v_text v_length v_at v_order v_told v_error v_reason v_detail v_answer (nI 0) v_mixed v_conflicts v_firstConflict] : List va_W).flatten := hD
      refine lv_aload_n hx hb dX9_isIn_25 rfl (lv_at hl 0 rfl) ?_
      refine va_get (D := E.1) (ci := 9) (v := .int (nI 0)) (C := RX9) (T := TX9) (N := 21) hx hb hts iX9 hown hK hP 0 rfl rfl 17 (by decide) (hts _ q1215) (fun _ h9 => h9) rfl dX9_isIn_26 ?_
      refine lv_if_ne (tgt := 45) hx hb dX9_isIn_29 (by decide) (fun c15 => ?_) (fun c15 => ?_)
      · rw [if_neg c15] at h
        refine lv_iconst (v := (nI 0)) hx hb dX9_isIn_45 (by decide) ?_
        cases h
        refine W.eq (g2 := F0 m 46 ls [.int (b2i false)]) rfl ?_
        exact px_eWz (b2i_n _) hA0 hQ hP hD hS hx hb hr hlocks dX9_isIn_46
      · rw [if_pos c15] at h
        refine lv_aload_n hx hb dX9_isIn_32 rfl (lv_at hl 0 rfl) ?_
        refine lv_iload_n hx hb dX9_isIn_33 rfl (lv_at hl 1 rfl) ?_
        refine lv_iload_n hx hb dX9_isIn_34 rfl (lv_at hl 2 rfl) ?_
        obtain ⟨r16, hr17, h⟩ := ob h
        refine px_Vp (As := [.int x1, .int x2]) (rest := []) (gs := ([gX9 E a v_now v_tried v_kept v_undos v_saved v_isSaved v_line v_lined v_text v_length v_at v_order v_told v_error v_reason v_detail v_answer (nI 0) v_mixed v_conflicts v_firstConflict] : List va_W)) (gc := ([gX9 E a v_now v_tried v_kept v_undos v_saved v_isSaved v_line v_lined v_text v_length v_at v_order v_told v_error v_reason v_detail v_answer (nI 0) v_mixed v_conflicts v_firstConflict] : List va_W)) ⟨hx, hb, hml, hown, hts⟩ (c9_isWithin l E a  (x1) (x2) (v_now) (v_tried) (v_kept) (v_undos) (v_saved) (v_isSaved) (v_line) (v_lined) (v_text) (v_length) (v_at) (v_order) (v_told) (v_error) (v_reason) (v_detail) (v_answer) ((nI 0)) (v_mixed) (v_conflicts) (v_firstConflict) r16 hr17) (cwV 2 hts (ws_v q1382 q1384 q37 q68 q1385) rfl rfl rfl hdV_X9_isWithin (by rw [hR]; exact ⟨Nat.le_of_ble_eq_true rfl, Nat.le_of_ble_eq_true rfl⟩)) hK hN hP hD [0] rfl (by decide) 0 9 rfl rfl rfl rfl hl.1 rfl (Nat.le_of_ble_eq_true rfl) dX9_isIn_35 (by rw [hR]; exact ⟨Nat.le_of_ble_eq_true rfl, Nat.le_of_ble_eq_true rfl⟩) ?_
        refine W.eq (g2 := F0 m 38 ls [.int (b2i r16)]) rfl ?_
        refine lv_if_eq (tgt := 45) hx hb dX9_isIn_38 (by decide) (fun c18 => ?_) (fun c18 => ?_)
        · rw [if_pos c18] at h
          refine lv_iconst (v := (nI 0)) hx hb dX9_isIn_45 (by decide) ?_
          cases h
          refine W.eq (g2 := F0 m 46 ls [.int (b2i false)]) rfl ?_
          exact px_eWz (b2i_n _) hA0 hQ hP hD hS hx hb hr hlocks dX9_isIn_46
        · rw [if_neg c18] at h
          refine lv_iconst (v := (nI 1)) hx hb dX9_isIn_41 (by decide) ?_
          refine lv_goto (tgt := 46) hx hb dX9_isIn_42 (by decide) ?_
          cases h
          refine W.eq (g2 := F0 m 46 ls [.int (b2i true)]) rfl ?_
          exact px_eWz (b2i_n _) hA0 hQ hP hD hS hx hb hr hlocks dX9_isIn_46
def f9_base (x1 : Int32) (x2 : Int32) (v_now : AI) (v_thrown : Int32) : Option (Int32 × Int32) := ((f9_isCommit (x1) (v_now)).bind fun r1 => (if (b2i r1) = 0 then ((f9_raises ((nI 1)) ((nI 0))).bind fun (r4, w5) => (some (r4, w5))) else ((f9_isCommit (x2) (v_now)).bind fun r7 => (if (b2i r7) = 0 then ((f9_raises ((nI 1)) ((nI 0))).bind fun (r10, w11) => (some (r10, w11))) else ((f9_common (x1) (x2) (v_now)).bind fun r13 => (some (r13, (nI 0))))))))
set_option maxHeartbeats 4000000 in
set_option maxRecDepth 100000 in
theorem c9_base (l : Launch) (E : PE) (a : Nat → Nat)  (x1 : Int32) (x2 : Int32) (v_now : AI) (v_tried : AI) (v_kept : AI) (v_undos : Int32) (v_saved : AI) (v_isSaved : Int32) (v_line : AI) (v_lined : Int32) (v_text : AI) (v_length : Int32) (v_at : Int32) (v_order : Int32) (v_told : AI) (v_error : Int32) (v_reason : Int32) (v_detail : Int32) (v_answer : Int32) (v_thrown : Int32) (v_mixed : AI) (v_conflicts : Int32) (v_firstConflict : Int32) (r : Int32) (z_this_thrown : Int32) (h : f9_base x1 x2 v_now v_thrown = some (r, z_this_thrown)) : MW l yX9_base cX9_base 3 (some .int) { frames := 3, cells := 0, slots := 0, locals := 69 } E [.ref (a 0), .int x1, .int x2] ([gX9 E a v_now v_tried v_kept v_undos v_saved v_isSaved v_line v_lined v_text v_length v_at v_order v_told v_error v_reason v_detail v_answer v_thrown v_mixed v_conflicts v_firstConflict] : List va_W).flatten 0 0 (some (.int r)) ([gX9 E a v_now v_tried v_kept v_undos v_saved v_isSaved v_line v_lined v_text v_length v_at v_order v_told v_error v_reason v_detail v_answer z_this_thrown v_mixed v_conflicts v_firstConflict] : List va_W).flatten := by
  refine px_startW (by decide +kernel) (Nat.le_of_ble_eq_true rfl) ?_
  intro p e s m args below meth c R Q A ls hC hA0 hQ
  obtain ⟨hx, hb, hr, hml, hts, hown, hlocks, hR, hK, hN, hP, hD, hA, hl, hin⟩ := hC
  have hl : lv_has ls 3 [(0, .ref (a 0)), (1, .int x1), (2, .int x2)] := hl
  suffices key : ∀ (H : Heap) (locs : List Loc), va_P E.1 vwCl ([gX9 E a v_now v_tried v_kept v_undos v_saved v_isSaved v_line v_lined v_text v_length v_at v_order v_told v_error v_reason v_detail v_answer v_thrown v_mixed v_conflicts v_firstConflict] : List va_W).flatten H → va_S A s.heap H locs → W p l e R s m args below meth c H locs 0 0 Q (F0 m 0 ls []) from key s.heap [] hP va_S.rf
  unfold f9_base at h
  intro H locs hP hS
  refine lv_aload_n hx hb dX9_base_0 rfl (lv_at hl 0 rfl) ?_
  refine lv_iconst (v := (nI 0)) hx hb dX9_base_1 (by decide) ?_
  refine va_put (D := E.1) (ci := 9) (v := .int (nI 0)) (ty := .int) (C := RX9) (T := TX9) (N := 21) hx hb hts iX9 tyX9 tyX9_ok nmX9 hown hK hP hD hS 0 rfl rfl 17 (by decide) (hts _ q1215) (fun _ h9 => h9) rfl (tyX9_ok 17 (by decide)) rfl rfl (Nat.le_of_ble_eq_true rfl) dX9_base_2 (fun H locs hP hD hS => ?_)
  have hP : va_P E.1 vwCl ([gX9 E a v_now v_tried v_kept v_undos v_saved v_isSaved v_line v_lined v_text v_length v_at v_order v_told v_error v_reason v_detail v_answer (nI 0) v_mixed v_conflicts v_firstConflict] : List va_W).flatten H := hP
  have hD : va_D A ([gX9 E a v_now v_tried v_kept v_undos v_saved v_isSaved v_line v_lined v_text v_length v_at v_order v_told v_error v_reason v_detail v_answer (nI 0) v_mixed v_conflicts v_firstConflict] : List va_W).flatten := hD
  refine lv_aload_n hx hb dX9_base_5 rfl (lv_at hl 0 rfl) ?_
  refine lv_iload_n hx hb dX9_base_6 rfl (lv_at hl 1 rfl) ?_
  obtain ⟨r1, hr2, h⟩ := ob h
  refine px_Vp (As := [.int x1]) (rest := []) (gs := ([gX9 E a v_now v_tried v_kept v_undos v_saved v_isSaved v_line v_lined v_text v_length v_at v_order v_told v_error v_reason v_detail v_answer (nI 0) v_mixed v_conflicts v_firstConflict] : List va_W)) (gc := ([gX9 E a v_now v_tried v_kept v_undos v_saved v_isSaved v_line v_lined v_text v_length v_at v_order v_told v_error v_reason v_detail v_answer (nI 0) v_mixed v_conflicts v_firstConflict] : List va_W)) ⟨hx, hb, hml, hown, hts⟩ (c9_isCommit l E a  (x1) (v_now) (v_tried) (v_kept) (v_undos) (v_saved) (v_isSaved) (v_line) (v_lined) (v_text) (v_length) (v_at) (v_order) (v_told) (v_error) (v_reason) (v_detail) (v_answer) ((nI 0)) (v_mixed) (v_conflicts) (v_firstConflict) r1 hr2) (cwV 1 hts (ws_v q1344 q1346 q32 q68 q1347) rfl rfl rfl hdV_X9_isCommit (by rw [hR]; exact ⟨Nat.le_of_ble_eq_true rfl, Nat.le_of_ble_eq_true rfl⟩)) hK hN hP hD [0] rfl (by decide) 0 9 rfl rfl rfl rfl hl.1 rfl (Nat.le_of_ble_eq_true rfl) dX9_base_7 (by rw [hR]; exact ⟨Nat.le_of_ble_eq_true rfl, Nat.le_of_ble_eq_true rfl⟩) ?_
  refine W.eq (g2 := F0 m 10 ls [.int (b2i r1)]) rfl ?_
  refine lv_if_eq (tgt := 30) hx hb dX9_base_10 (by decide) (fun c3 => ?_) (fun c3 => ?_)
  · rw [if_pos c3] at h
    refine lv_aload_n hx hb dX9_base_30 rfl (lv_at hl 0 rfl) ?_
    refine lv_iconst (v := (nI 1)) hx hb dX9_base_31 (by decide) ?_
    obtain ⟨⟨r4, w5⟩, hr6, h⟩ := ob h
    dsimp only at h
    refine px_V (As := [.int (nI 1)]) (rest := []) (gs := ([gX9 E a v_now v_tried v_kept v_undos v_saved v_isSaved v_line v_lined v_text v_length v_at v_order v_told v_error v_reason v_detail v_answer (nI 0) v_mixed v_conflicts v_firstConflict] : List va_W)) (gr := ([] : List va_W)) (gc := ([gX9 E a v_now v_tried v_kept v_undos v_saved v_isSaved v_line v_lined v_text v_length v_at v_order v_told v_error v_reason v_detail v_answer (nI 0) v_mixed v_conflicts v_firstConflict] : List va_W)) (g1 := ([gX9 E a v_now v_tried v_kept v_undos v_saved v_isSaved v_line v_lined v_text v_length v_at v_order v_told v_error v_reason v_detail v_answer w5 v_mixed v_conflicts v_firstConflict] : List va_W)) (g2 := ([gX9 E a v_now v_tried v_kept v_undos v_saved v_isSaved v_line v_lined v_text v_length v_at v_order v_told v_error v_reason v_detail v_answer w5 v_mixed v_conflicts v_firstConflict] : List va_W)) ⟨hx, hb, hml, hown, hts⟩ (c9_raises l E a  ((nI 1)) (v_now) (v_tried) (v_kept) (v_undos) (v_saved) (v_isSaved) (v_line) (v_lined) (v_text) (v_length) (v_at) (v_order) (v_told) (v_error) (v_reason) (v_detail) (v_answer) ((nI 0)) (v_mixed) (v_conflicts) (v_firstConflict) r4 w5 hr6) (cwV 1 hts (ws_v q1320 q1322 q28 q68 q1323) rfl rfl rfl hdV_X9_raises (by rw [hR]; exact ⟨Nat.le_of_ble_eq_true rfl, Nat.le_of_ble_eq_true rfl⟩)) hK hN hP hD hS hA [] [0] [0] rfl rfl (by decide) (by decide) rfl (by decide) 0 9 rfl rfl rfl rfl hl.1 rfl (Nat.le_of_ble_eq_true rfl) dX9_base_32 (by rw [hR]; exact ⟨Nat.le_of_ble_eq_true rfl, Nat.le_of_ble_eq_true rfl⟩) (fun H locs hP hD hS => ?_)
    refine W.eq (g2 := F0 m 35 ls [.int r4]) rfl ?_
    cases h
    exact px_eWi hA0 hQ hP hD hS hx hb hr hlocks dX9_base_35
  · rw [if_neg c3] at h
    refine lv_aload_n hx hb dX9_base_13 rfl (lv_at hl 0 rfl) ?_
    refine lv_iload_n hx hb dX9_base_14 rfl (lv_at hl 2 rfl) ?_
    obtain ⟨r7, hr8, h⟩ := ob h
    refine px_Vp (As := [.int x2]) (rest := []) (gs := ([gX9 E a v_now v_tried v_kept v_undos v_saved v_isSaved v_line v_lined v_text v_length v_at v_order v_told v_error v_reason v_detail v_answer (nI 0) v_mixed v_conflicts v_firstConflict] : List va_W)) (gc := ([gX9 E a v_now v_tried v_kept v_undos v_saved v_isSaved v_line v_lined v_text v_length v_at v_order v_told v_error v_reason v_detail v_answer (nI 0) v_mixed v_conflicts v_firstConflict] : List va_W)) ⟨hx, hb, hml, hown, hts⟩ (c9_isCommit l E a  (x2) (v_now) (v_tried) (v_kept) (v_undos) (v_saved) (v_isSaved) (v_line) (v_lined) (v_text) (v_length) (v_at) (v_order) (v_told) (v_error) (v_reason) (v_detail) (v_answer) ((nI 0)) (v_mixed) (v_conflicts) (v_firstConflict) r7 hr8) (cwV 1 hts (ws_v q1344 q1346 q32 q68 q1347) rfl rfl rfl hdV_X9_isCommit (by rw [hR]; exact ⟨Nat.le_of_ble_eq_true rfl, Nat.le_of_ble_eq_true rfl⟩)) hK hN hP hD [0] rfl (by decide) 0 9 rfl rfl rfl rfl hl.1 rfl (Nat.le_of_ble_eq_true rfl) dX9_base_15 (by rw [hR]; exact ⟨Nat.le_of_ble_eq_true rfl, Nat.le_of_ble_eq_true rfl⟩) ?_
    refine W.eq (g2 := F0 m 18 ls [.int (b2i r7)]) rfl ?_
    refine lv_if_eq (tgt := 30) hx hb dX9_base_18 (by decide) (fun c9 => ?_) (fun c9 => ?_)
    · rw [if_pos c9] at h
      refine lv_aload_n hx hb dX9_base_30 rfl (lv_at hl 0 rfl) ?_
      refine lv_iconst (v := (nI 1)) hx hb dX9_base_31 (by decide) ?_
      obtain ⟨⟨r10, w11⟩, hr12, h⟩ := ob h
      dsimp only at h
      refine px_V (As := [.int (nI 1)]) (rest := []) (gs := ([gX9 E a v_now v_tried v_kept v_undos v_saved v_isSaved v_line v_lined v_text v_length v_at v_order v_told v_error v_reason v_detail v_answer (nI 0) v_mixed v_conflicts v_firstConflict] : List va_W)) (gr := ([] : List va_W)) (gc := ([gX9 E a v_now v_tried v_kept v_undos v_saved v_isSaved v_line v_lined v_text v_length v_at v_order v_told v_error v_reason v_detail v_answer (nI 0) v_mixed v_conflicts v_firstConflict] : List va_W)) (g1 := ([gX9 E a v_now v_tried v_kept v_undos v_saved v_isSaved v_line v_lined v_text v_length v_at v_order v_told v_error v_reason v_detail v_answer w11 v_mixed v_conflicts v_firstConflict] : List va_W)) (g2 := ([gX9 E a v_now v_tried v_kept v_undos v_saved v_isSaved v_line v_lined v_text v_length v_at v_order v_told v_error v_reason v_detail v_answer w11 v_mixed v_conflicts v_firstConflict] : List va_W)) ⟨hx, hb, hml, hown, hts⟩ (c9_raises l E a  ((nI 1)) (v_now) (v_tried) (v_kept) (v_undos) (v_saved) (v_isSaved) (v_line) (v_lined) (v_text) (v_length) (v_at) (v_order) (v_told) (v_error) (v_reason) (v_detail) (v_answer) ((nI 0)) (v_mixed) (v_conflicts) (v_firstConflict) r10 w11 hr12) (cwV 1 hts (ws_v q1320 q1322 q28 q68 q1323) rfl rfl rfl hdV_X9_raises (by rw [hR]; exact ⟨Nat.le_of_ble_eq_true rfl, Nat.le_of_ble_eq_true rfl⟩)) hK hN hP hD hS hA [] [0] [0] rfl rfl (by decide) (by decide) rfl (by decide) 0 9 rfl rfl rfl rfl hl.1 rfl (Nat.le_of_ble_eq_true rfl) dX9_base_32 (by rw [hR]; exact ⟨Nat.le_of_ble_eq_true rfl, Nat.le_of_ble_eq_true rfl⟩) (fun H locs hP hD hS => ?_)
      refine W.eq (g2 := F0 m 35 ls [.int r10]) rfl ?_
      cases h
      exact px_eWi hA0 hQ hP hD hS hx hb hr hlocks dX9_base_35
    · rw [if_neg c9] at h
      refine lv_aload_n hx hb dX9_base_21 rfl (lv_at hl 0 rfl) ?_
      refine lv_iload_n hx hb dX9_base_22 rfl (lv_at hl 1 rfl) ?_
      refine lv_iload_n hx hb dX9_base_23 rfl (lv_at hl 2 rfl) ?_
      obtain ⟨r13, hr14, h⟩ := ob h
      refine px_Vp (As := [.int x1, .int x2]) (rest := []) (gs := ([gX9 E a v_now v_tried v_kept v_undos v_saved v_isSaved v_line v_lined v_text v_length v_at v_order v_told v_error v_reason v_detail v_answer (nI 0) v_mixed v_conflicts v_firstConflict] : List va_W)) (gc := ([gX9 E a v_now v_tried v_kept v_undos v_saved v_isSaved v_line v_lined v_text v_length v_at v_order v_told v_error v_reason v_detail v_answer (nI 0) v_mixed v_conflicts v_firstConflict] : List va_W)) ⟨hx, hb, hml, hown, hts⟩ (c9_common l E a  (x1) (x2) (v_now) (v_tried) (v_kept) (v_undos) (v_saved) (v_isSaved) (v_line) (v_lined) (v_text) (v_length) (v_at) (v_order) (v_told) (v_error) (v_reason) (v_detail) (v_answer) ((nI 0)) (v_mixed) (v_conflicts) (v_firstConflict) r13 hr14) (cwV 2 hts (ws_v q1386 q1388 q38 q68 q1389) rfl rfl rfl hdV_X9_common (by rw [hR]; exact ⟨Nat.le_of_ble_eq_true rfl, Nat.le_of_ble_eq_true rfl⟩)) hK hN hP hD [0] rfl (by decide) 0 9 rfl rfl rfl rfl hl.1 rfl (Nat.le_of_ble_eq_true rfl) dX9_base_24 (by rw [hR]; exact ⟨Nat.le_of_ble_eq_true rfl, Nat.le_of_ble_eq_true rfl⟩) ?_
      refine W.eq (g2 := F0 m 27 ls [.int r13]) rfl ?_
      refine lv_goto (tgt := 35) hx hb dX9_base_27 (by decide) ?_
      cases h
      exact px_eWi hA0 hQ hP hD hS hx hb hr hlocks dX9_base_35
def f9_baseAgain (x1 : Int32) (x2 : Int32) (v_now : AI) (v_thrown : Int32) : Option (Int32 × Int32) := ((f9_base (x1) (x2) (v_now) (v_thrown)).bind fun (r1, w2) => (some (r1, w2)))
set_option maxHeartbeats 4000000 in
set_option maxRecDepth 100000 in
theorem c9_baseAgain (l : Launch) (E : PE) (a : Nat → Nat)  (x1 : Int32) (x2 : Int32) (v_now : AI) (v_tried : AI) (v_kept : AI) (v_undos : Int32) (v_saved : AI) (v_isSaved : Int32) (v_line : AI) (v_lined : Int32) (v_text : AI) (v_length : Int32) (v_at : Int32) (v_order : Int32) (v_told : AI) (v_error : Int32) (v_reason : Int32) (v_detail : Int32) (v_answer : Int32) (v_thrown : Int32) (v_mixed : AI) (v_conflicts : Int32) (v_firstConflict : Int32) (r : Int32) (z_this_thrown : Int32) (h : f9_baseAgain x1 x2 v_now v_thrown = some (r, z_this_thrown)) : MW l yX9_baseAgain cX9_baseAgain 3 (some .int) { frames := 4, cells := 0, slots := 0, locals := 91 } E [.ref (a 0), .int x1, .int x2] ([gX9 E a v_now v_tried v_kept v_undos v_saved v_isSaved v_line v_lined v_text v_length v_at v_order v_told v_error v_reason v_detail v_answer v_thrown v_mixed v_conflicts v_firstConflict] : List va_W).flatten 0 0 (some (.int r)) ([gX9 E a v_now v_tried v_kept v_undos v_saved v_isSaved v_line v_lined v_text v_length v_at v_order v_told v_error v_reason v_detail v_answer z_this_thrown v_mixed v_conflicts v_firstConflict] : List va_W).flatten := by
  refine px_startW (by decide +kernel) (Nat.le_of_ble_eq_true rfl) ?_
  intro p e s m args below meth c R Q A ls hC hA0 hQ
  obtain ⟨hx, hb, hr, hml, hts, hown, hlocks, hR, hK, hN, hP, hD, hA, hl, hin⟩ := hC
  have hl : lv_has ls 3 [(0, .ref (a 0)), (1, .int x1), (2, .int x2)] := hl
  suffices key : ∀ (H : Heap) (locs : List Loc), va_P E.1 vwCl ([gX9 E a v_now v_tried v_kept v_undos v_saved v_isSaved v_line v_lined v_text v_length v_at v_order v_told v_error v_reason v_detail v_answer v_thrown v_mixed v_conflicts v_firstConflict] : List va_W).flatten H → va_S A s.heap H locs → W p l e R s m args below meth c H locs 0 0 Q (F0 m 0 ls []) from key s.heap [] hP va_S.rf
  unfold f9_baseAgain at h
  intro H locs hP hS
  refine lv_aload_n hx hb dX9_baseAgain_0 rfl (lv_at hl 0 rfl) ?_
  refine lv_iload_n hx hb dX9_baseAgain_1 rfl (lv_at hl 1 rfl) ?_
  refine lv_iload_n hx hb dX9_baseAgain_2 rfl (lv_at hl 2 rfl) ?_
  obtain ⟨⟨r1, w2⟩, hr3, h⟩ := ob h
  dsimp only at h
  refine px_V (As := [.int x1, .int x2]) (rest := []) (gs := ([gX9 E a v_now v_tried v_kept v_undos v_saved v_isSaved v_line v_lined v_text v_length v_at v_order v_told v_error v_reason v_detail v_answer v_thrown v_mixed v_conflicts v_firstConflict] : List va_W)) (gr := ([] : List va_W)) (gc := ([gX9 E a v_now v_tried v_kept v_undos v_saved v_isSaved v_line v_lined v_text v_length v_at v_order v_told v_error v_reason v_detail v_answer v_thrown v_mixed v_conflicts v_firstConflict] : List va_W)) (g1 := ([gX9 E a v_now v_tried v_kept v_undos v_saved v_isSaved v_line v_lined v_text v_length v_at v_order v_told v_error v_reason v_detail v_answer w2 v_mixed v_conflicts v_firstConflict] : List va_W)) (g2 := ([gX9 E a v_now v_tried v_kept v_undos v_saved v_isSaved v_line v_lined v_text v_length v_at v_order v_told v_error v_reason v_detail v_answer w2 v_mixed v_conflicts v_firstConflict] : List va_W)) ⟨hx, hb, hml, hown, hts⟩ (c9_base l E a  (x1) (x2) (v_now) (v_tried) (v_kept) (v_undos) (v_saved) (v_isSaved) (v_line) (v_lined) (v_text) (v_length) (v_at) (v_order) (v_told) (v_error) (v_reason) (v_detail) (v_answer) (v_thrown) (v_mixed) (v_conflicts) (v_firstConflict) r1 w2 hr3) (cwV 2 hts (ws_v q1434 q1427 q1428 q68 q1429) rfl rfl rfl hdV_X9_base (by rw [hR]; exact ⟨Nat.le_of_ble_eq_true rfl, Nat.le_of_ble_eq_true rfl⟩)) hK hN hP hD hS hA [] [0] [0] rfl rfl (by decide) (by decide) rfl (by decide) 0 9 rfl rfl rfl rfl hl.1 rfl (Nat.le_of_ble_eq_true rfl) dX9_baseAgain_3 (by rw [hR]; exact ⟨Nat.le_of_ble_eq_true rfl, Nat.le_of_ble_eq_true rfl⟩) (fun H locs hP hD hS => ?_)
  refine W.eq (g2 := F0 m 6 ls [.int r1]) rfl ?_
  cases h
  exact px_eWi hA0 hQ hP hD hS hx hb hr hlocks dX9_baseAgain_6
def f9_difference_L32 (x1 : Int32) (x2 : Int32) (v_now : AI) : Nat → Int32 → Int32 → Int32 → Option (Int32 × Int32)
  | 0, _, _, _ => none
  | n + 1, x3, x4, v_thrown => (if (nI 6) ≤ x4 then (some (x3, v_thrown)) else ((f9_has (x1) (x4) (v_now)).bind fun r14 => ((f9_has (x2) (x4) (v_now)).bind fun r16 => (f9_difference_L32 x1 x2 v_now n ((x3 + (if 0 ≤ (r14 - r16) then (r14 - r16) else 0 - (r14 - r16)))) ((x4 + nI 1)) (v_thrown)))))
def f9_difference (x1 : Int32) (x2 : Int32) (v_now : AI) (v_thrown : Int32) : Option (Int32 × Int32) := ((f9_isCommit (x1) (v_now)).bind fun r1 => (if (b2i r1) = 0 then ((f9_raises ((nI 1)) ((nI 0))).bind fun (r4, w5) => (some (r4, w5))) else ((f9_isCommit (x2) (v_now)).bind fun r7 => (if (b2i r7) = 0 then ((f9_raises ((nI 1)) ((nI 0))).bind fun (r10, w11) => (some (r10, w11))) else (f9_difference_L32 x1 x2 v_now fuel ((nI 0)) ((nI 0)) ((nI 0)))))))
set_option maxHeartbeats 4000000 in
set_option maxRecDepth 100000 in
theorem c9_difference (l : Launch) (E : PE) (a : Nat → Nat)  (x1 : Int32) (x2 : Int32) (v_now : AI) (v_tried : AI) (v_kept : AI) (v_undos : Int32) (v_saved : AI) (v_isSaved : Int32) (v_line : AI) (v_lined : Int32) (v_text : AI) (v_length : Int32) (v_at : Int32) (v_order : Int32) (v_told : AI) (v_error : Int32) (v_reason : Int32) (v_detail : Int32) (v_answer : Int32) (v_thrown : Int32) (v_mixed : AI) (v_conflicts : Int32) (v_firstConflict : Int32) (r : Int32) (z_this_thrown : Int32) (h : f9_difference x1 x2 v_now v_thrown = some (r, z_this_thrown)) : MW l yX9_difference cX9_difference 5 (some .int) { frames := 2, cells := 0, slots := 0, locals := 44 } E [.ref (a 0), .int x1, .int x2] ([gX9 E a v_now v_tried v_kept v_undos v_saved v_isSaved v_line v_lined v_text v_length v_at v_order v_told v_error v_reason v_detail v_answer v_thrown v_mixed v_conflicts v_firstConflict] : List va_W).flatten 0 0 (some (.int r)) ([gX9 E a v_now v_tried v_kept v_undos v_saved v_isSaved v_line v_lined v_text v_length v_at v_order v_told v_error v_reason v_detail v_answer z_this_thrown v_mixed v_conflicts v_firstConflict] : List va_W).flatten := by
  refine px_startW (by decide +kernel) (Nat.le_of_ble_eq_true rfl) ?_
  intro p e s m args below meth c R Q A ls hC hA0 hQ
  obtain ⟨hx, hb, hr, hml, hts, hown, hlocks, hR, hK, hN, hP, hD, hA, hl, hin⟩ := hC
  have hl : lv_has ls 5 [(0, .ref (a 0)), (1, .int x1), (2, .int x2)] := hl
  suffices key : ∀ (H : Heap) (locs : List Loc), va_P E.1 vwCl ([gX9 E a v_now v_tried v_kept v_undos v_saved v_isSaved v_line v_lined v_text v_length v_at v_order v_told v_error v_reason v_detail v_answer v_thrown v_mixed v_conflicts v_firstConflict] : List va_W).flatten H → va_S A s.heap H locs → W p l e R s m args below meth c H locs 0 0 Q (F0 m 0 ls []) from key s.heap [] hP va_S.rf
  unfold f9_difference at h
  have L32 : ∀ (n : Nat) (x3 : Int32) (x4 : Int32) (v_thrown : Int32) (H : Heap) (locs : List Loc) (ls : Array Slot), va_P E.1 vwCl ([gX9 E a v_now v_tried v_kept v_undos v_saved v_isSaved v_line v_lined v_text v_length v_at v_order v_told v_error v_reason v_detail v_answer v_thrown v_mixed v_conflicts v_firstConflict] : List va_W).flatten H → va_D A ([gX9 E a v_now v_tried v_kept v_undos v_saved v_isSaved v_line v_lined v_text v_length v_at v_order v_told v_error v_reason v_detail v_answer v_thrown v_mixed v_conflicts v_firstConflict] : List va_W).flatten → va_S A s.heap H locs → lv_has ls 5 [(0, .ref (a 0)), (1, .int x1), (2, .int x2), (3, .int x3), (4, .int x4)] → f9_difference_L32 x1 x2 v_now n x3 x4 v_thrown = some (r, z_this_thrown) → W p l e R s m args below meth c H locs 0 0 Q (F0 m 32 ls []) := by
    intro n
    induction n with
    | zero =>
      intro x3 x4 v_thrown H locs ls hP hD hS hl h
      unfold f9_difference_L32 at h; cases h
    | succ n ih =>
      intro x3 x4 v_thrown H locs ls hP hD hS hl h
      unfold f9_difference_L32 at h
      refine lv_iload hx hb dX9_difference_32 (lv_at hl 4 rfl) ?_
      refine lv_bipush (v := (nI 6)) hx hb dX9_difference_34 (by decide) ?_
      refine lv_icmp_ge (tgt := 66) hx hb dX9_difference_36 (by decide) (fun c13 => ?_) (fun c13 => ?_)
      · rw [if_pos c13] at h
        refine lv_iload_n hx hb dX9_difference_66 rfl (lv_at hl 3 rfl) ?_
        cases h
        exact px_eWi hA0 hQ hP hD hS hx hb hr hlocks dX9_difference_67
      · rw [if_neg c13] at h
        refine lv_iload_n hx hb dX9_difference_39 rfl (lv_at hl 3 rfl) ?_
        refine lv_aload_n hx hb dX9_difference_40 rfl (lv_at hl 0 rfl) ?_
        refine lv_iload_n hx hb dX9_difference_41 rfl (lv_at hl 1 rfl) ?_
        refine lv_iload hx hb dX9_difference_42 (lv_at hl 4 rfl) ?_
        obtain ⟨r14, hr15, h⟩ := ob h
        refine px_Vp (As := [.int x1, .int x4]) (rest := [.int x3]) (gs := ([gX9 E a v_now v_tried v_kept v_undos v_saved v_isSaved v_line v_lined v_text v_length v_at v_order v_told v_error v_reason v_detail v_answer v_thrown v_mixed v_conflicts v_firstConflict] : List va_W)) (gc := ([gX9 E a v_now v_tried v_kept v_undos v_saved v_isSaved v_line v_lined v_text v_length v_at v_order v_told v_error v_reason v_detail v_answer v_thrown v_mixed v_conflicts v_firstConflict] : List va_W)) ⟨hx, hb, hml, hown, hts⟩ (c9_has l E a  (x1) (x4) (v_now) (v_tried) (v_kept) (v_undos) (v_saved) (v_isSaved) (v_line) (v_lined) (v_text) (v_length) (v_at) (v_order) (v_told) (v_error) (v_reason) (v_detail) (v_answer) (v_thrown) (v_mixed) (v_conflicts) (v_firstConflict) r14 hr15) (cwV 2 hts (ws_v q1292 q1294 q21 q68 q1295) rfl rfl rfl hdV_X9_has (by rw [hR]; exact ⟨Nat.le_of_ble_eq_true rfl, Nat.le_of_ble_eq_true rfl⟩)) hK hN hP hD [0] rfl (by decide) 0 9 rfl rfl rfl rfl hl.1 rfl (Nat.le_of_ble_eq_true rfl) dX9_difference_44 (by rw [hR]; exact ⟨Nat.le_of_ble_eq_true rfl, Nat.le_of_ble_eq_true rfl⟩) ?_
        refine W.eq (g2 := F0 m 47 ls [.int r14, .int x3]) rfl ?_
        refine lv_aload_n hx hb dX9_difference_47 rfl (lv_at hl 0 rfl) ?_
        refine lv_iload_n hx hb dX9_difference_48 rfl (lv_at hl 2 rfl) ?_
        refine lv_iload hx hb dX9_difference_49 (lv_at hl 4 rfl) ?_
        obtain ⟨r16, hr17, h⟩ := ob h
        refine px_Vp (As := [.int x2, .int x4]) (rest := [.int r14, .int x3]) (gs := ([gX9 E a v_now v_tried v_kept v_undos v_saved v_isSaved v_line v_lined v_text v_length v_at v_order v_told v_error v_reason v_detail v_answer v_thrown v_mixed v_conflicts v_firstConflict] : List va_W)) (gc := ([gX9 E a v_now v_tried v_kept v_undos v_saved v_isSaved v_line v_lined v_text v_length v_at v_order v_told v_error v_reason v_detail v_answer v_thrown v_mixed v_conflicts v_firstConflict] : List va_W)) ⟨hx, hb, hml, hown, hts⟩ (c9_has l E a  (x2) (x4) (v_now) (v_tried) (v_kept) (v_undos) (v_saved) (v_isSaved) (v_line) (v_lined) (v_text) (v_length) (v_at) (v_order) (v_told) (v_error) (v_reason) (v_detail) (v_answer) (v_thrown) (v_mixed) (v_conflicts) (v_firstConflict) r16 hr17) (cwV 2 hts (ws_v q1292 q1294 q21 q68 q1295) rfl rfl rfl hdV_X9_has (by rw [hR]; exact ⟨Nat.le_of_ble_eq_true rfl, Nat.le_of_ble_eq_true rfl⟩)) hK hN hP hD [0] rfl (by decide) 0 9 rfl rfl rfl rfl hl.1 rfl (Nat.le_of_ble_eq_true rfl) dX9_difference_51 (by rw [hR]; exact ⟨Nat.le_of_ble_eq_true rfl, Nat.le_of_ble_eq_true rfl⟩) ?_
        refine W.eq (g2 := F0 m 54 ls [.int r16, .int r14, .int x3]) rfl ?_
        refine lv_isub hx hb dX9_difference_54 ?_
        refine va_mabs hx hb (hml.trans hl.1.symm) hown (hts _ q1439) (hts _ q753) (hts _ q70) (hts _ q754) (by rw [hR]; exact Nat.le_of_ble_eq_true rfl) (by rw [hR]; exact Nat.le_of_ble_eq_true rfl) (by rw [hR]; exact Nat.le_of_ble_eq_true rfl) (by rw [hR]; exact Nat.le_of_ble_eq_true rfl) dX9_difference_55 ?_
        refine lv_iadd hx hb dX9_difference_58 ?_
        refine lv_istore_n (lv' := [(3, .int (x3 + (if 0 ≤ (r14 - r16) then (r14 - r16) else 0 - (r14 - r16)))), (0, .ref (a 0)), (1, .int x1), (2, .int x2), (4, .int x4)]) hx hb dX9_difference_59 rfl hl (by decide) rfl (fun ls hl => ?_)
        refine lv_iinc (v := (x4 + nI 1)) (lv' := [(4, .int (x4 + nI 1)), (3, .int (x3 + (if 0 ≤ (r14 - r16) then (r14 - r16) else 0 - (r14 - r16)))), (0, .ref (a 0)), (1, .int x1), (2, .int x2)]) hx hb dX9_difference_60 hl (k := 4) rfl rfl (by decide) rfl (fun ls hl => ?_)
        refine lv_goto (tgt := 32) hx hb dX9_difference_63 (by decide) ?_
        exact ih ((x3 + (if 0 ≤ (r14 - r16) then (r14 - r16) else 0 - (r14 - r16)))) ((x4 + nI 1)) (v_thrown) H locs ls hP hD hS (lv_sub hl [2, 3, 4, 1, 0] rfl) h
  intro H locs hP hS
  refine lv_aload_n hx hb dX9_difference_0 rfl (lv_at hl 0 rfl) ?_
  refine lv_iconst (v := (nI 0)) hx hb dX9_difference_1 (by decide) ?_
  refine va_put (D := E.1) (ci := 9) (v := .int (nI 0)) (ty := .int) (C := RX9) (T := TX9) (N := 21) hx hb hts iX9 tyX9 tyX9_ok nmX9 hown hK hP hD hS 0 rfl rfl 17 (by decide) (hts _ q1215) (fun _ h9 => h9) rfl (tyX9_ok 17 (by decide)) rfl rfl (Nat.le_of_ble_eq_true rfl) dX9_difference_2 (fun H locs hP hD hS => ?_)
  have hP : va_P E.1 vwCl ([gX9 E a v_now v_tried v_kept v_undos v_saved v_isSaved v_line v_lined v_text v_length v_at v_order v_told v_error v_reason v_detail v_answer (nI 0) v_mixed v_conflicts v_firstConflict] : List va_W).flatten H := hP
  have hD : va_D A ([gX9 E a v_now v_tried v_kept v_undos v_saved v_isSaved v_line v_lined v_text v_length v_at v_order v_told v_error v_reason v_detail v_answer (nI 0) v_mixed v_conflicts v_firstConflict] : List va_W).flatten := hD
  refine lv_aload_n hx hb dX9_difference_5 rfl (lv_at hl 0 rfl) ?_
  refine lv_iload_n hx hb dX9_difference_6 rfl (lv_at hl 1 rfl) ?_
  obtain ⟨r1, hr2, h⟩ := ob h
  refine px_Vp (As := [.int x1]) (rest := []) (gs := ([gX9 E a v_now v_tried v_kept v_undos v_saved v_isSaved v_line v_lined v_text v_length v_at v_order v_told v_error v_reason v_detail v_answer (nI 0) v_mixed v_conflicts v_firstConflict] : List va_W)) (gc := ([gX9 E a v_now v_tried v_kept v_undos v_saved v_isSaved v_line v_lined v_text v_length v_at v_order v_told v_error v_reason v_detail v_answer (nI 0) v_mixed v_conflicts v_firstConflict] : List va_W)) ⟨hx, hb, hml, hown, hts⟩ (c9_isCommit l E a  (x1) (v_now) (v_tried) (v_kept) (v_undos) (v_saved) (v_isSaved) (v_line) (v_lined) (v_text) (v_length) (v_at) (v_order) (v_told) (v_error) (v_reason) (v_detail) (v_answer) ((nI 0)) (v_mixed) (v_conflicts) (v_firstConflict) r1 hr2) (cwV 1 hts (ws_v q1344 q1346 q32 q68 q1347) rfl rfl rfl hdV_X9_isCommit (by rw [hR]; exact ⟨Nat.le_of_ble_eq_true rfl, Nat.le_of_ble_eq_true rfl⟩)) hK hN hP hD [0] rfl (by decide) 0 9 rfl rfl rfl rfl hl.1 rfl (Nat.le_of_ble_eq_true rfl) dX9_difference_7 (by rw [hR]; exact ⟨Nat.le_of_ble_eq_true rfl, Nat.le_of_ble_eq_true rfl⟩) ?_
  refine W.eq (g2 := F0 m 10 ls [.int (b2i r1)]) rfl ?_
  refine lv_if_eq (tgt := 21) hx hb dX9_difference_10 (by decide) (fun c3 => ?_) (fun c3 => ?_)
  · rw [if_pos c3] at h
    refine lv_aload_n hx hb dX9_difference_21 rfl (lv_at hl 0 rfl) ?_
    refine lv_iconst (v := (nI 1)) hx hb dX9_difference_22 (by decide) ?_
    obtain ⟨⟨r4, w5⟩, hr6, h⟩ := ob h
    dsimp only at h
    refine px_V (As := [.int (nI 1)]) (rest := []) (gs := ([gX9 E a v_now v_tried v_kept v_undos v_saved v_isSaved v_line v_lined v_text v_length v_at v_order v_told v_error v_reason v_detail v_answer (nI 0) v_mixed v_conflicts v_firstConflict] : List va_W)) (gr := ([] : List va_W)) (gc := ([gX9 E a v_now v_tried v_kept v_undos v_saved v_isSaved v_line v_lined v_text v_length v_at v_order v_told v_error v_reason v_detail v_answer (nI 0) v_mixed v_conflicts v_firstConflict] : List va_W)) (g1 := ([gX9 E a v_now v_tried v_kept v_undos v_saved v_isSaved v_line v_lined v_text v_length v_at v_order v_told v_error v_reason v_detail v_answer w5 v_mixed v_conflicts v_firstConflict] : List va_W)) (g2 := ([gX9 E a v_now v_tried v_kept v_undos v_saved v_isSaved v_line v_lined v_text v_length v_at v_order v_told v_error v_reason v_detail v_answer w5 v_mixed v_conflicts v_firstConflict] : List va_W)) ⟨hx, hb, hml, hown, hts⟩ (c9_raises l E a  ((nI 1)) (v_now) (v_tried) (v_kept) (v_undos) (v_saved) (v_isSaved) (v_line) (v_lined) (v_text) (v_length) (v_at) (v_order) (v_told) (v_error) (v_reason) (v_detail) (v_answer) ((nI 0)) (v_mixed) (v_conflicts) (v_firstConflict) r4 w5 hr6) (cwV 1 hts (ws_v q1320 q1322 q28 q68 q1323) rfl rfl rfl hdV_X9_raises (by rw [hR]; exact ⟨Nat.le_of_ble_eq_true rfl, Nat.le_of_ble_eq_true rfl⟩)) hK hN hP hD hS hA [] [0] [0] rfl rfl (by decide) (by decide) rfl (by decide) 0 9 rfl rfl rfl rfl hl.1 rfl (Nat.le_of_ble_eq_true rfl) dX9_difference_23 (by rw [hR]; exact ⟨Nat.le_of_ble_eq_true rfl, Nat.le_of_ble_eq_true rfl⟩) (fun H locs hP hD hS => ?_)
    refine W.eq (g2 := F0 m 26 ls [.int r4]) rfl ?_
    cases h
    exact px_eWi hA0 hQ hP hD hS hx hb hr hlocks dX9_difference_26
  · rw [if_neg c3] at h
    refine lv_aload_n hx hb dX9_difference_13 rfl (lv_at hl 0 rfl) ?_
    refine lv_iload_n hx hb dX9_difference_14 rfl (lv_at hl 2 rfl) ?_
    obtain ⟨r7, hr8, h⟩ := ob h
    refine px_Vp (As := [.int x2]) (rest := []) (gs := ([gX9 E a v_now v_tried v_kept v_undos v_saved v_isSaved v_line v_lined v_text v_length v_at v_order v_told v_error v_reason v_detail v_answer (nI 0) v_mixed v_conflicts v_firstConflict] : List va_W)) (gc := ([gX9 E a v_now v_tried v_kept v_undos v_saved v_isSaved v_line v_lined v_text v_length v_at v_order v_told v_error v_reason v_detail v_answer (nI 0) v_mixed v_conflicts v_firstConflict] : List va_W)) ⟨hx, hb, hml, hown, hts⟩ (c9_isCommit l E a  (x2) (v_now) (v_tried) (v_kept) (v_undos) (v_saved) (v_isSaved) (v_line) (v_lined) (v_text) (v_length) (v_at) (v_order) (v_told) (v_error) (v_reason) (v_detail) (v_answer) ((nI 0)) (v_mixed) (v_conflicts) (v_firstConflict) r7 hr8) (cwV 1 hts (ws_v q1344 q1346 q32 q68 q1347) rfl rfl rfl hdV_X9_isCommit (by rw [hR]; exact ⟨Nat.le_of_ble_eq_true rfl, Nat.le_of_ble_eq_true rfl⟩)) hK hN hP hD [0] rfl (by decide) 0 9 rfl rfl rfl rfl hl.1 rfl (Nat.le_of_ble_eq_true rfl) dX9_difference_15 (by rw [hR]; exact ⟨Nat.le_of_ble_eq_true rfl, Nat.le_of_ble_eq_true rfl⟩) ?_
    refine W.eq (g2 := F0 m 18 ls [.int (b2i r7)]) rfl ?_
    refine lv_if_ne (tgt := 27) hx hb dX9_difference_18 (by decide) (fun c9 => ?_) (fun c9 => ?_)
    · rw [if_neg c9] at h
      refine lv_iconst (v := (nI 0)) hx hb dX9_difference_27 (by decide) ?_
      refine lv_istore_n (lv' := [(3, .int (nI 0)), (0, .ref (a 0)), (1, .int x1), (2, .int x2)]) hx hb dX9_difference_28 rfl hl (by decide) rfl (fun ls hl => ?_)
      refine lv_iconst (v := (nI 0)) hx hb dX9_difference_29 (by decide) ?_
      refine lv_istore (lv' := [(4, .int (nI 0)), (3, .int (nI 0)), (0, .ref (a 0)), (1, .int x1), (2, .int x2)]) hx hb dX9_difference_30 hl (by decide) rfl (fun ls hl => ?_)
      exact L32 fuel ((nI 0)) ((nI 0)) ((nI 0)) H locs ls hP hD hS (lv_sub hl [2, 3, 4, 1, 0] rfl) h
    · rw [if_pos c9] at h
      refine lv_aload_n hx hb dX9_difference_21 rfl (lv_at hl 0 rfl) ?_
      refine lv_iconst (v := (nI 1)) hx hb dX9_difference_22 (by decide) ?_
      obtain ⟨⟨r10, w11⟩, hr12, h⟩ := ob h
      dsimp only at h
      refine px_V (As := [.int (nI 1)]) (rest := []) (gs := ([gX9 E a v_now v_tried v_kept v_undos v_saved v_isSaved v_line v_lined v_text v_length v_at v_order v_told v_error v_reason v_detail v_answer (nI 0) v_mixed v_conflicts v_firstConflict] : List va_W)) (gr := ([] : List va_W)) (gc := ([gX9 E a v_now v_tried v_kept v_undos v_saved v_isSaved v_line v_lined v_text v_length v_at v_order v_told v_error v_reason v_detail v_answer (nI 0) v_mixed v_conflicts v_firstConflict] : List va_W)) (g1 := ([gX9 E a v_now v_tried v_kept v_undos v_saved v_isSaved v_line v_lined v_text v_length v_at v_order v_told v_error v_reason v_detail v_answer w11 v_mixed v_conflicts v_firstConflict] : List va_W)) (g2 := ([gX9 E a v_now v_tried v_kept v_undos v_saved v_isSaved v_line v_lined v_text v_length v_at v_order v_told v_error v_reason v_detail v_answer w11 v_mixed v_conflicts v_firstConflict] : List va_W)) ⟨hx, hb, hml, hown, hts⟩ (c9_raises l E a  ((nI 1)) (v_now) (v_tried) (v_kept) (v_undos) (v_saved) (v_isSaved) (v_line) (v_lined) (v_text) (v_length) (v_at) (v_order) (v_told) (v_error) (v_reason) (v_detail) (v_answer) ((nI 0)) (v_mixed) (v_conflicts) (v_firstConflict) r10 w11 hr12) (cwV 1 hts (ws_v q1320 q1322 q28 q68 q1323) rfl rfl rfl hdV_X9_raises (by rw [hR]; exact ⟨Nat.le_of_ble_eq_true rfl, Nat.le_of_ble_eq_true rfl⟩)) hK hN hP hD hS hA [] [0] [0] rfl rfl (by decide) (by decide) rfl (by decide) 0 9 rfl rfl rfl rfl hl.1 rfl (Nat.le_of_ble_eq_true rfl) dX9_difference_23 (by rw [hR]; exact ⟨Nat.le_of_ble_eq_true rfl, Nat.le_of_ble_eq_true rfl⟩) (fun H locs hP hD hS => ?_)
      refine W.eq (g2 := F0 m 26 ls [.int r10]) rfl ?_
      cases h
      exact px_eWi hA0 hQ hP hD hS hx hb hr hlocks dX9_difference_26
def f9_far_L8 (x1 : Int32) (v_now : AI) : Nat → Int32 → Int32 → Option (Int32)
  | 0, _, _ => none
  | n + 1, x2, x3 => (if x3 ≤ 0 then (some x2) else ((f9_of (x3) ((nI 1)) (v_now)).bind fun r4 => (f9_far_L8 x1 v_now n ((x2 + nI 1)) (r4))))
def f9_far (x1 : Int32) (v_now : AI) : Option (Int32) := ((f9_top (x1) (v_now)).bind fun r1 => (f9_far_L8 x1 v_now fuel ((nI 0)) (r1)))
set_option maxHeartbeats 4000000 in
set_option maxRecDepth 100000 in
theorem c9_far (l : Launch) (E : PE) (a : Nat → Nat)  (x1 : Int32) (v_now : AI) (v_tried : AI) (v_kept : AI) (v_undos : Int32) (v_saved : AI) (v_isSaved : Int32) (v_line : AI) (v_lined : Int32) (v_text : AI) (v_length : Int32) (v_at : Int32) (v_order : Int32) (v_told : AI) (v_error : Int32) (v_reason : Int32) (v_detail : Int32) (v_answer : Int32) (v_thrown : Int32) (v_mixed : AI) (v_conflicts : Int32) (v_firstConflict : Int32) (r : Int32) (h : f9_far x1 v_now = some r) : MP l yX9_far cX9_far 4 (some .int) { frames := 1, cells := 0, slots := 0, locals := 22 } E [.ref (a 0), .int x1] ([gX9 E a v_now v_tried v_kept v_undos v_saved v_isSaved v_line v_lined v_text v_length v_at v_order v_told v_error v_reason v_detail v_answer v_thrown v_mixed v_conflicts v_firstConflict] : List va_W).flatten (some (.int r)) := by
  refine px_startP (by decide +kernel) (Nat.le_of_ble_eq_true rfl) ?_
  intro p e s m args below meth c R Q A ls hC hQ
  obtain ⟨hx, hb, hr, hml, hts, hown, hlocks, hR, hK, hN, hP, hD, hA, hl, hin⟩ := hC
  have hl : lv_has ls 4 [(0, .ref (a 0)), (1, .int x1)] := hl
  unfold f9_far at h
  have L8 : ∀ (n : Nat) (x2 : Int32) (x3 : Int32) (ls : Array Slot), lv_has ls 4 [(0, .ref (a 0)), (2, .int x2), (3, .int x3)] → f9_far_L8 x1 v_now n x2 x3 = some r → W p l e R s m args below meth c s.heap [] 0 0 Q (F0 m 8 ls []) := by
    intro n
    induction n with
    | zero =>
      intro x2 x3 ls hl h
      unfold f9_far_L8 at h; cases h
    | succ n ih =>
      intro x2 x3 ls hl h
      unfold f9_far_L8 at h
      refine lv_iload_n hx hb dX9_far_8 rfl (lv_at hl 2 rfl) ?_
      refine lv_if_le (tgt := 25) hx hb dX9_far_9 (by decide) (fun c3 => ?_) (fun c3 => ?_)
      · rw [if_pos c3] at h
        refine lv_iload_n hx hb dX9_far_25 rfl (lv_at hl 1 rfl) ?_
        cases h
        exact px_ePi hQ hx hb hr hlocks dX9_far_26
      · rw [if_neg c3] at h
        refine lv_iinc (v := (x2 + nI 1)) (lv' := [(2, .int (x2 + nI 1)), (0, .ref (a 0)), (3, .int x3)]) hx hb dX9_far_12 hl (k := 1) rfl rfl (by decide) rfl (fun ls hl => ?_)
        refine lv_aload_n hx hb dX9_far_15 rfl (lv_at hl 1 rfl) ?_
        refine lv_iload_n hx hb dX9_far_16 rfl (lv_at hl 2 rfl) ?_
        refine lv_iconst (v := (nI 1)) hx hb dX9_far_17 (by decide) ?_
        obtain ⟨r4, hr5, h⟩ := ob h
        refine px_Vp (As := [.int x3, .int (nI 1)]) (rest := []) (gs := ([gX9 E a v_now v_tried v_kept v_undos v_saved v_isSaved v_line v_lined v_text v_length v_at v_order v_told v_error v_reason v_detail v_answer v_thrown v_mixed v_conflicts v_firstConflict] : List va_W)) (gc := ([gX9 E a v_now v_tried v_kept v_undos v_saved v_isSaved v_line v_lined v_text v_length v_at v_order v_told v_error v_reason v_detail v_answer v_thrown v_mixed v_conflicts v_firstConflict] : List va_W)) ⟨hx, hb, hml, hown, hts⟩ (c9_of l E a  (x3) ((nI 1)) (v_now) (v_tried) (v_kept) (v_undos) (v_saved) (v_isSaved) (v_line) (v_lined) (v_text) (v_length) (v_at) (v_order) (v_told) (v_error) (v_reason) (v_detail) (v_answer) (v_thrown) (v_mixed) (v_conflicts) (v_firstConflict) r4 hr5) (cwV 2 hts (ws_v q1296 q1298 q22 q68 q1299) rfl rfl rfl hdV_X9_of (by rw [hR]; exact ⟨Nat.le_of_ble_eq_true rfl, Nat.le_of_ble_eq_true rfl⟩)) hK hN hP hD [0] rfl (by decide) 0 9 rfl rfl rfl rfl hl.1 rfl (Nat.le_of_ble_eq_true rfl) dX9_far_18 (by rw [hR]; exact ⟨Nat.le_of_ble_eq_true rfl, Nat.le_of_ble_eq_true rfl⟩) ?_
        refine W.eq (g2 := F0 m 21 ls [.int r4]) rfl ?_
        refine lv_istore_n (lv' := [(3, .int r4), (2, .int (x2 + nI 1)), (0, .ref (a 0))]) hx hb dX9_far_21 rfl hl (by decide) rfl (fun ls hl => ?_)
        refine lv_goto (tgt := 8) hx hb dX9_far_22 (by decide) ?_
        exact ih ((x2 + nI 1)) (r4) ls (lv_sub hl [2, 1, 0] rfl) h
  refine lv_iconst (v := (nI 0)) hx hb dX9_far_0 (by decide) ?_
  refine lv_istore_n (lv' := [(2, .int (nI 0)), (0, .ref (a 0)), (1, .int x1)]) hx hb dX9_far_1 rfl hl (by decide) rfl (fun ls hl => ?_)
  refine lv_aload_n hx hb dX9_far_2 rfl (lv_at hl 1 rfl) ?_
  refine lv_iload_n hx hb dX9_far_3 rfl (lv_at hl 2 rfl) ?_
  obtain ⟨r1, hr2, h⟩ := ob h
  refine px_Vp (As := [.int x1]) (rest := []) (gs := ([gX9 E a v_now v_tried v_kept v_undos v_saved v_isSaved v_line v_lined v_text v_length v_at v_order v_told v_error v_reason v_detail v_answer v_thrown v_mixed v_conflicts v_firstConflict] : List va_W)) (gc := ([gX9 E a v_now v_tried v_kept v_undos v_saved v_isSaved v_line v_lined v_text v_length v_at v_order v_told v_error v_reason v_detail v_answer v_thrown v_mixed v_conflicts v_firstConflict] : List va_W)) ⟨hx, hb, hml, hown, hts⟩ (c9_top l E a  (x1) (v_now) (v_tried) (v_kept) (v_undos) (v_saved) (v_isSaved) (v_line) (v_lined) (v_text) (v_length) (v_at) (v_order) (v_told) (v_error) (v_reason) (v_detail) (v_answer) (v_thrown) (v_mixed) (v_conflicts) (v_firstConflict) r1 hr2) (cwV 1 hts (ws_v q1288 q1290 q20 q68 q1291) rfl rfl rfl hdV_X9_top (by rw [hR]; exact ⟨Nat.le_of_ble_eq_true rfl, Nat.le_of_ble_eq_true rfl⟩)) hK hN hP hD [0] rfl (by decide) 0 9 rfl rfl rfl rfl hl.1 rfl (Nat.le_of_ble_eq_true rfl) dX9_far_4 (by rw [hR]; exact ⟨Nat.le_of_ble_eq_true rfl, Nat.le_of_ble_eq_true rfl⟩) ?_
  refine W.eq (g2 := F0 m 7 ls [.int r1]) rfl ?_
  refine lv_istore_n (lv' := [(3, .int r1), (2, .int (nI 0)), (0, .ref (a 0)), (1, .int x1)]) hx hb dX9_far_7 rfl hl (by decide) rfl (fun ls hl => ?_)
  exact L8 fuel ((nI 0)) (r1) ls (lv_sub hl [2, 1, 0] rfl) h
def f9_onLineOf_L9 (x1 : Int32) (x2 : Int32) (v_now : AI) : Nat → Int32 → Int32 → Option (Int32)
  | 0, _, _ => none
  | n + 1, x3, x4 => (if x2 ≤ x4 then (some x3) else ((f9_of (x3) ((nI 1)) (v_now)).bind fun r4 => (f9_onLineOf_L9 x1 x2 v_now n (r4) ((x4 + nI 1)))))
def f9_onLineOf (x1 : Int32) (x2 : Int32) (v_now : AI) : Option (Int32) := ((f9_top (x1) (v_now)).bind fun r1 => (f9_onLineOf_L9 x1 x2 v_now fuel (r1) ((nI 0))))
set_option maxHeartbeats 4000000 in
set_option maxRecDepth 100000 in
theorem c9_onLineOf (l : Launch) (E : PE) (a : Nat → Nat)  (x1 : Int32) (x2 : Int32) (v_now : AI) (v_tried : AI) (v_kept : AI) (v_undos : Int32) (v_saved : AI) (v_isSaved : Int32) (v_line : AI) (v_lined : Int32) (v_text : AI) (v_length : Int32) (v_at : Int32) (v_order : Int32) (v_told : AI) (v_error : Int32) (v_reason : Int32) (v_detail : Int32) (v_answer : Int32) (v_thrown : Int32) (v_mixed : AI) (v_conflicts : Int32) (v_firstConflict : Int32) (r : Int32) (h : f9_onLineOf x1 x2 v_now = some r) : MP l yX9_onLineOf cX9_onLineOf 5 (some .int) { frames := 1, cells := 0, slots := 0, locals := 22 } E [.ref (a 0), .int x1, .int x2] ([gX9 E a v_now v_tried v_kept v_undos v_saved v_isSaved v_line v_lined v_text v_length v_at v_order v_told v_error v_reason v_detail v_answer v_thrown v_mixed v_conflicts v_firstConflict] : List va_W).flatten (some (.int r)) := by
  refine px_startP (by decide +kernel) (Nat.le_of_ble_eq_true rfl) ?_
  intro p e s m args below meth c R Q A ls hC hQ
  obtain ⟨hx, hb, hr, hml, hts, hown, hlocks, hR, hK, hN, hP, hD, hA, hl, hin⟩ := hC
  have hl : lv_has ls 5 [(0, .ref (a 0)), (1, .int x1), (2, .int x2)] := hl
  unfold f9_onLineOf at h
  have L9 : ∀ (n : Nat) (x3 : Int32) (x4 : Int32) (ls : Array Slot), lv_has ls 5 [(0, .ref (a 0)), (2, .int x2), (3, .int x3), (4, .int x4)] → f9_onLineOf_L9 x1 x2 v_now n x3 x4 = some r → W p l e R s m args below meth c s.heap [] 0 0 Q (F0 m 9 ls []) := by
    intro n
    induction n with
    | zero =>
      intro x3 x4 ls hl h
      unfold f9_onLineOf_L9 at h; cases h
    | succ n ih =>
      intro x3 x4 ls hl h
      unfold f9_onLineOf_L9 at h
      refine lv_iload hx hb dX9_onLineOf_9 (lv_at hl 3 rfl) ?_
      refine lv_iload_n hx hb dX9_onLineOf_11 rfl (lv_at hl 1 rfl) ?_
      refine lv_icmp_ge (tgt := 28) hx hb dX9_onLineOf_12 (by decide) (fun c3 => ?_) (fun c3 => ?_)
      · rw [if_pos c3] at h
        refine lv_iload_n hx hb dX9_onLineOf_28 rfl (lv_at hl 2 rfl) ?_
        cases h
        exact px_ePi hQ hx hb hr hlocks dX9_onLineOf_29
      · rw [if_neg c3] at h
        refine lv_aload_n hx hb dX9_onLineOf_15 rfl (lv_at hl 0 rfl) ?_
        refine lv_iload_n hx hb dX9_onLineOf_16 rfl (lv_at hl 2 rfl) ?_
        refine lv_iconst (v := (nI 1)) hx hb dX9_onLineOf_17 (by decide) ?_
        obtain ⟨r4, hr5, h⟩ := ob h
        refine px_Vp (As := [.int x3, .int (nI 1)]) (rest := []) (gs := ([gX9 E a v_now v_tried v_kept v_undos v_saved v_isSaved v_line v_lined v_text v_length v_at v_order v_told v_error v_reason v_detail v_answer v_thrown v_mixed v_conflicts v_firstConflict] : List va_W)) (gc := ([gX9 E a v_now v_tried v_kept v_undos v_saved v_isSaved v_line v_lined v_text v_length v_at v_order v_told v_error v_reason v_detail v_answer v_thrown v_mixed v_conflicts v_firstConflict] : List va_W)) ⟨hx, hb, hml, hown, hts⟩ (c9_of l E a  (x3) ((nI 1)) (v_now) (v_tried) (v_kept) (v_undos) (v_saved) (v_isSaved) (v_line) (v_lined) (v_text) (v_length) (v_at) (v_order) (v_told) (v_error) (v_reason) (v_detail) (v_answer) (v_thrown) (v_mixed) (v_conflicts) (v_firstConflict) r4 hr5) (cwV 2 hts (ws_v q1296 q1298 q22 q68 q1299) rfl rfl rfl hdV_X9_of (by rw [hR]; exact ⟨Nat.le_of_ble_eq_true rfl, Nat.le_of_ble_eq_true rfl⟩)) hK hN hP hD [0] rfl (by decide) 0 9 rfl rfl rfl rfl hl.1 rfl (Nat.le_of_ble_eq_true rfl) dX9_onLineOf_18 (by rw [hR]; exact ⟨Nat.le_of_ble_eq_true rfl, Nat.le_of_ble_eq_true rfl⟩) ?_
        refine W.eq (g2 := F0 m 21 ls [.int r4]) rfl ?_
        refine lv_istore_n (lv' := [(3, .int r4), (0, .ref (a 0)), (2, .int x2), (4, .int x4)]) hx hb dX9_onLineOf_21 rfl hl (by decide) rfl (fun ls hl => ?_)
        refine lv_iinc (v := (x4 + nI 1)) (lv' := [(4, .int (x4 + nI 1)), (3, .int r4), (0, .ref (a 0)), (2, .int x2)]) hx hb dX9_onLineOf_22 hl (k := 3) rfl rfl (by decide) rfl (fun ls hl => ?_)
        refine lv_goto (tgt := 9) hx hb dX9_onLineOf_25 (by decide) ?_
        exact ih (r4) ((x4 + nI 1)) ls (lv_sub hl [2, 3, 1, 0] rfl) h
  refine lv_aload_n hx hb dX9_onLineOf_0 rfl (lv_at hl 0 rfl) ?_
  refine lv_iload_n hx hb dX9_onLineOf_1 rfl (lv_at hl 1 rfl) ?_
  obtain ⟨r1, hr2, h⟩ := ob h
  refine px_Vp (As := [.int x1]) (rest := []) (gs := ([gX9 E a v_now v_tried v_kept v_undos v_saved v_isSaved v_line v_lined v_text v_length v_at v_order v_told v_error v_reason v_detail v_answer v_thrown v_mixed v_conflicts v_firstConflict] : List va_W)) (gc := ([gX9 E a v_now v_tried v_kept v_undos v_saved v_isSaved v_line v_lined v_text v_length v_at v_order v_told v_error v_reason v_detail v_answer v_thrown v_mixed v_conflicts v_firstConflict] : List va_W)) ⟨hx, hb, hml, hown, hts⟩ (c9_top l E a  (x1) (v_now) (v_tried) (v_kept) (v_undos) (v_saved) (v_isSaved) (v_line) (v_lined) (v_text) (v_length) (v_at) (v_order) (v_told) (v_error) (v_reason) (v_detail) (v_answer) (v_thrown) (v_mixed) (v_conflicts) (v_firstConflict) r1 hr2) (cwV 1 hts (ws_v q1288 q1290 q20 q68 q1291) rfl rfl rfl hdV_X9_top (by rw [hR]; exact ⟨Nat.le_of_ble_eq_true rfl, Nat.le_of_ble_eq_true rfl⟩)) hK hN hP hD [0] rfl (by decide) 0 9 rfl rfl rfl rfl hl.1 rfl (Nat.le_of_ble_eq_true rfl) dX9_onLineOf_2 (by rw [hR]; exact ⟨Nat.le_of_ble_eq_true rfl, Nat.le_of_ble_eq_true rfl⟩) ?_
  refine W.eq (g2 := F0 m 5 ls [.int r1]) rfl ?_
  refine lv_istore_n (lv' := [(3, .int r1), (0, .ref (a 0)), (1, .int x1), (2, .int x2)]) hx hb dX9_onLineOf_5 rfl hl (by decide) rfl (fun ls hl => ?_)
  refine lv_iconst (v := (nI 0)) hx hb dX9_onLineOf_6 (by decide) ?_
  refine lv_istore (lv' := [(4, .int (nI 0)), (3, .int r1), (0, .ref (a 0)), (1, .int x1), (2, .int x2)]) hx hb dX9_onLineOf_7 hl (by decide) rfl (fun ls hl => ?_)
  exact L9 fuel (r1) ((nI 0)) ls (lv_sub hl [2, 4, 1, 0] rfl) h
def f9_onLine (x1 : Int32) (x2 : Int32) (v_now : AI) (v_thrown : Int32) : Option (Int32 × Int32) := ((f9_isBranch (x1) (v_now)).bind fun r1 => (if (b2i r1) = 0 then ((f9_raises ((nI 1)) ((nI 0))).bind fun (r14, w15) => (some (r14, w15))) else ((f9_far (x1) (v_now)).bind fun r4 => ((f9_in (x2) ((nI 0)) (r4)).bind fun r6 => (if (b2i r6) = 0 then ((f9_raises ((nI 2)) ((nI 0))).bind fun (r9, w10) => (some (r9, w10))) else ((f9_onLineOf (x1) (x2) (v_now)).bind fun r12 => (some (r12, (nI 0)))))))))
set_option maxHeartbeats 4000000 in
set_option maxRecDepth 100000 in
theorem c9_onLine (l : Launch) (E : PE) (a : Nat → Nat)  (x1 : Int32) (x2 : Int32) (v_now : AI) (v_tried : AI) (v_kept : AI) (v_undos : Int32) (v_saved : AI) (v_isSaved : Int32) (v_line : AI) (v_lined : Int32) (v_text : AI) (v_length : Int32) (v_at : Int32) (v_order : Int32) (v_told : AI) (v_error : Int32) (v_reason : Int32) (v_detail : Int32) (v_answer : Int32) (v_thrown : Int32) (v_mixed : AI) (v_conflicts : Int32) (v_firstConflict : Int32) (r : Int32) (z_this_thrown : Int32) (h : f9_onLine x1 x2 v_now v_thrown = some (r, z_this_thrown)) : MW l yX9_onLine cX9_onLine 3 (some .int) { frames := 2, cells := 0, slots := 0, locals := 46 } E [.ref (a 0), .int x1, .int x2] ([gX9 E a v_now v_tried v_kept v_undos v_saved v_isSaved v_line v_lined v_text v_length v_at v_order v_told v_error v_reason v_detail v_answer v_thrown v_mixed v_conflicts v_firstConflict] : List va_W).flatten 0 0 (some (.int r)) ([gX9 E a v_now v_tried v_kept v_undos v_saved v_isSaved v_line v_lined v_text v_length v_at v_order v_told v_error v_reason v_detail v_answer z_this_thrown v_mixed v_conflicts v_firstConflict] : List va_W).flatten := by
  refine px_startW (by decide +kernel) (Nat.le_of_ble_eq_true rfl) ?_
  intro p e s m args below meth c R Q A ls hC hA0 hQ
  obtain ⟨hx, hb, hr, hml, hts, hown, hlocks, hR, hK, hN, hP, hD, hA, hl, hin⟩ := hC
  have hl : lv_has ls 3 [(0, .ref (a 0)), (1, .int x1), (2, .int x2)] := hl
  suffices key : ∀ (H : Heap) (locs : List Loc), va_P E.1 vwCl ([gX9 E a v_now v_tried v_kept v_undos v_saved v_isSaved v_line v_lined v_text v_length v_at v_order v_told v_error v_reason v_detail v_answer v_thrown v_mixed v_conflicts v_firstConflict] : List va_W).flatten H → va_S A s.heap H locs → W p l e R s m args below meth c H locs 0 0 Q (F0 m 0 ls []) from key s.heap [] hP va_S.rf
  unfold f9_onLine at h
  intro H locs hP hS
  refine lv_aload_n hx hb dX9_onLine_0 rfl (lv_at hl 0 rfl) ?_
  refine lv_iconst (v := (nI 0)) hx hb dX9_onLine_1 (by decide) ?_
  refine va_put (D := E.1) (ci := 9) (v := .int (nI 0)) (ty := .int) (C := RX9) (T := TX9) (N := 21) hx hb hts iX9 tyX9 tyX9_ok nmX9 hown hK hP hD hS 0 rfl rfl 17 (by decide) (hts _ q1215) (fun _ h9 => h9) rfl (tyX9_ok 17 (by decide)) rfl rfl (Nat.le_of_ble_eq_true rfl) dX9_onLine_2 (fun H locs hP hD hS => ?_)
  have hP : va_P E.1 vwCl ([gX9 E a v_now v_tried v_kept v_undos v_saved v_isSaved v_line v_lined v_text v_length v_at v_order v_told v_error v_reason v_detail v_answer (nI 0) v_mixed v_conflicts v_firstConflict] : List va_W).flatten H := hP
  have hD : va_D A ([gX9 E a v_now v_tried v_kept v_undos v_saved v_isSaved v_line v_lined v_text v_length v_at v_order v_told v_error v_reason v_detail v_answer (nI 0) v_mixed v_conflicts v_firstConflict] : List va_W).flatten := hD
  refine lv_aload_n hx hb dX9_onLine_5 rfl (lv_at hl 0 rfl) ?_
  refine lv_iload_n hx hb dX9_onLine_6 rfl (lv_at hl 1 rfl) ?_
  obtain ⟨r1, hr2, h⟩ := ob h
  refine px_Vp (As := [.int x1]) (rest := []) (gs := ([gX9 E a v_now v_tried v_kept v_undos v_saved v_isSaved v_line v_lined v_text v_length v_at v_order v_told v_error v_reason v_detail v_answer (nI 0) v_mixed v_conflicts v_firstConflict] : List va_W)) (gc := ([gX9 E a v_now v_tried v_kept v_undos v_saved v_isSaved v_line v_lined v_text v_length v_at v_order v_told v_error v_reason v_detail v_answer (nI 0) v_mixed v_conflicts v_firstConflict] : List va_W)) ⟨hx, hb, hml, hown, hts⟩ (c9_isBranch l E a  (x1) (v_now) (v_tried) (v_kept) (v_undos) (v_saved) (v_isSaved) (v_line) (v_lined) (v_text) (v_length) (v_at) (v_order) (v_told) (v_error) (v_reason) (v_detail) (v_answer) ((nI 0)) (v_mixed) (v_conflicts) (v_firstConflict) r1 hr2) (cwV 1 hts (ws_v q1278 q1280 q19 q68 q1281) rfl rfl rfl hdV_X9_isBranch (by rw [hR]; exact ⟨Nat.le_of_ble_eq_true rfl, Nat.le_of_ble_eq_true rfl⟩)) hK hN hP hD [0] rfl (by decide) 0 9 rfl rfl rfl rfl hl.1 rfl (Nat.le_of_ble_eq_true rfl) dX9_onLine_7 (by rw [hR]; exact ⟨Nat.le_of_ble_eq_true rfl, Nat.le_of_ble_eq_true rfl⟩) ?_
  refine W.eq (g2 := F0 m 10 ls [.int (b2i r1)]) rfl ?_
  refine lv_if_ne (tgt := 19) hx hb dX9_onLine_10 (by decide) (fun c3 => ?_) (fun c3 => ?_)
  · rw [if_neg c3] at h
    refine lv_iload_n hx hb dX9_onLine_19 rfl (lv_at hl 2 rfl) ?_
    refine lv_iconst (v := (nI 0)) hx hb dX9_onLine_20 (by decide) ?_
    refine lv_aload_n hx hb dX9_onLine_21 rfl (lv_at hl 0 rfl) ?_
    refine lv_iload_n hx hb dX9_onLine_22 rfl (lv_at hl 1 rfl) ?_
    obtain ⟨r4, hr5, h⟩ := ob h
    refine px_Vp (As := [.int x1]) (rest := [.int (nI 0), .int x2]) (gs := ([gX9 E a v_now v_tried v_kept v_undos v_saved v_isSaved v_line v_lined v_text v_length v_at v_order v_told v_error v_reason v_detail v_answer (nI 0) v_mixed v_conflicts v_firstConflict] : List va_W)) (gc := ([gX9 E a v_now v_tried v_kept v_undos v_saved v_isSaved v_line v_lined v_text v_length v_at v_order v_told v_error v_reason v_detail v_answer (nI 0) v_mixed v_conflicts v_firstConflict] : List va_W)) ⟨hx, hb, hml, hown, hts⟩ (c9_far l E a  (x1) (v_now) (v_tried) (v_kept) (v_undos) (v_saved) (v_isSaved) (v_line) (v_lined) (v_text) (v_length) (v_at) (v_order) (v_told) (v_error) (v_reason) (v_detail) (v_answer) ((nI 0)) (v_mixed) (v_conflicts) (v_firstConflict) r4 hr5) (cwV 1 hts (ws_v q1444 q1446 q44 q68 q1447) rfl rfl rfl hdV_X9_far (by rw [hR]; exact ⟨Nat.le_of_ble_eq_true rfl, Nat.le_of_ble_eq_true rfl⟩)) hK hN hP hD [0] rfl (by decide) 0 9 rfl rfl rfl rfl hl.1 rfl (Nat.le_of_ble_eq_true rfl) dX9_onLine_23 (by rw [hR]; exact ⟨Nat.le_of_ble_eq_true rfl, Nat.le_of_ble_eq_true rfl⟩) ?_
    refine W.eq (g2 := F0 m 26 ls [.int r4, .int (nI 0), .int x2]) rfl ?_
    obtain ⟨r6, hr7, h⟩ := ob h
    refine px_Sp (As := [.int x2, .int (nI 0), .int r4]) (rest := []) (gs := ([gX9 E a v_now v_tried v_kept v_undos v_saved v_isSaved v_line v_lined v_text v_length v_at v_order v_told v_error v_reason v_detail v_answer (nI 0) v_mixed v_conflicts v_firstConflict] : List va_W)) (gc := ([] : List va_W)) ⟨hx, hb, hml, hown, hts⟩ (c9_in l E   (x2) ((nI 0)) (r4)  r6 hr7) (va_cwS 3 hts (ws_s q1282 q1283 q68 q1284) rfl rfl rfl hdS_X9_in (by rw [hR]; exact ⟨Nat.le_of_ble_eq_true rfl, Nat.le_of_ble_eq_true rfl⟩)) hK hN hP hD [] rfl (by decide) rfl hl.1 rfl (Nat.le_of_ble_eq_true rfl) dX9_onLine_26 (by rw [hR]; exact ⟨Nat.le_of_ble_eq_true rfl, Nat.le_of_ble_eq_true rfl⟩) ?_
    refine W.eq (g2 := F0 m 29 ls [.int (b2i r6)]) rfl ?_
    refine lv_if_eq (tgt := 41) hx hb dX9_onLine_29 (by decide) (fun c8 => ?_) (fun c8 => ?_)
    · rw [if_pos c8] at h
      refine lv_aload_n hx hb dX9_onLine_41 rfl (lv_at hl 0 rfl) ?_
      refine lv_iconst (v := (nI 2)) hx hb dX9_onLine_42 (by decide) ?_
      obtain ⟨⟨r9, w10⟩, hr11, h⟩ := ob h
      dsimp only at h
      refine px_V (As := [.int (nI 2)]) (rest := []) (gs := ([gX9 E a v_now v_tried v_kept v_undos v_saved v_isSaved v_line v_lined v_text v_length v_at v_order v_told v_error v_reason v_detail v_answer (nI 0) v_mixed v_conflicts v_firstConflict] : List va_W)) (gr := ([] : List va_W)) (gc := ([gX9 E a v_now v_tried v_kept v_undos v_saved v_isSaved v_line v_lined v_text v_length v_at v_order v_told v_error v_reason v_detail v_answer (nI 0) v_mixed v_conflicts v_firstConflict] : List va_W)) (g1 := ([gX9 E a v_now v_tried v_kept v_undos v_saved v_isSaved v_line v_lined v_text v_length v_at v_order v_told v_error v_reason v_detail v_answer w10 v_mixed v_conflicts v_firstConflict] : List va_W)) (g2 := ([gX9 E a v_now v_tried v_kept v_undos v_saved v_isSaved v_line v_lined v_text v_length v_at v_order v_told v_error v_reason v_detail v_answer w10 v_mixed v_conflicts v_firstConflict] : List va_W)) ⟨hx, hb, hml, hown, hts⟩ (c9_raises l E a  ((nI 2)) (v_now) (v_tried) (v_kept) (v_undos) (v_saved) (v_isSaved) (v_line) (v_lined) (v_text) (v_length) (v_at) (v_order) (v_told) (v_error) (v_reason) (v_detail) (v_answer) ((nI 0)) (v_mixed) (v_conflicts) (v_firstConflict) r9 w10 hr11) (cwV 1 hts (ws_v q1320 q1322 q28 q68 q1323) rfl rfl rfl hdV_X9_raises (by rw [hR]; exact ⟨Nat.le_of_ble_eq_true rfl, Nat.le_of_ble_eq_true rfl⟩)) hK hN hP hD hS hA [] [0] [0] rfl rfl (by decide) (by decide) rfl (by decide) 0 9 rfl rfl rfl rfl hl.1 rfl (Nat.le_of_ble_eq_true rfl) dX9_onLine_43 (by rw [hR]; exact ⟨Nat.le_of_ble_eq_true rfl, Nat.le_of_ble_eq_true rfl⟩) (fun H locs hP hD hS => ?_)
      refine W.eq (g2 := F0 m 46 ls [.int r9]) rfl ?_
      cases h
      exact px_eWi hA0 hQ hP hD hS hx hb hr hlocks dX9_onLine_46
    · rw [if_neg c8] at h
      refine lv_aload_n hx hb dX9_onLine_32 rfl (lv_at hl 0 rfl) ?_
      refine lv_iload_n hx hb dX9_onLine_33 rfl (lv_at hl 1 rfl) ?_
      refine lv_iload_n hx hb dX9_onLine_34 rfl (lv_at hl 2 rfl) ?_
      obtain ⟨r12, hr13, h⟩ := ob h
      refine px_Vp (As := [.int x1, .int x2]) (rest := []) (gs := ([gX9 E a v_now v_tried v_kept v_undos v_saved v_isSaved v_line v_lined v_text v_length v_at v_order v_told v_error v_reason v_detail v_answer (nI 0) v_mixed v_conflicts v_firstConflict] : List va_W)) (gc := ([gX9 E a v_now v_tried v_kept v_undos v_saved v_isSaved v_line v_lined v_text v_length v_at v_order v_told v_error v_reason v_detail v_answer (nI 0) v_mixed v_conflicts v_firstConflict] : List va_W)) ⟨hx, hb, hml, hown, hts⟩ (c9_onLineOf l E a  (x1) (x2) (v_now) (v_tried) (v_kept) (v_undos) (v_saved) (v_isSaved) (v_line) (v_lined) (v_text) (v_length) (v_at) (v_order) (v_told) (v_error) (v_reason) (v_detail) (v_answer) ((nI 0)) (v_mixed) (v_conflicts) (v_firstConflict) r12 hr13) (cwV 2 hts (ws_v q1448 q1450 q45 q68 q1451) rfl rfl rfl hdV_X9_onLineOf (by rw [hR]; exact ⟨Nat.le_of_ble_eq_true rfl, Nat.le_of_ble_eq_true rfl⟩)) hK hN hP hD [0] rfl (by decide) 0 9 rfl rfl rfl rfl hl.1 rfl (Nat.le_of_ble_eq_true rfl) dX9_onLine_35 (by rw [hR]; exact ⟨Nat.le_of_ble_eq_true rfl, Nat.le_of_ble_eq_true rfl⟩) ?_
      refine W.eq (g2 := F0 m 38 ls [.int r12]) rfl ?_
      refine lv_goto (tgt := 46) hx hb dX9_onLine_38 (by decide) ?_
      cases h
      exact px_eWi hA0 hQ hP hD hS hx hb hr hlocks dX9_onLine_46
  · rw [if_pos c3] at h
    refine lv_aload_n hx hb dX9_onLine_13 rfl (lv_at hl 0 rfl) ?_
    refine lv_iconst (v := (nI 1)) hx hb dX9_onLine_14 (by decide) ?_
    obtain ⟨⟨r14, w15⟩, hr16, h⟩ := ob h
    dsimp only at h
    refine px_V (As := [.int (nI 1)]) (rest := []) (gs := ([gX9 E a v_now v_tried v_kept v_undos v_saved v_isSaved v_line v_lined v_text v_length v_at v_order v_told v_error v_reason v_detail v_answer (nI 0) v_mixed v_conflicts v_firstConflict] : List va_W)) (gr := ([] : List va_W)) (gc := ([gX9 E a v_now v_tried v_kept v_undos v_saved v_isSaved v_line v_lined v_text v_length v_at v_order v_told v_error v_reason v_detail v_answer (nI 0) v_mixed v_conflicts v_firstConflict] : List va_W)) (g1 := ([gX9 E a v_now v_tried v_kept v_undos v_saved v_isSaved v_line v_lined v_text v_length v_at v_order v_told v_error v_reason v_detail v_answer w15 v_mixed v_conflicts v_firstConflict] : List va_W)) (g2 := ([gX9 E a v_now v_tried v_kept v_undos v_saved v_isSaved v_line v_lined v_text v_length v_at v_order v_told v_error v_reason v_detail v_answer w15 v_mixed v_conflicts v_firstConflict] : List va_W)) ⟨hx, hb, hml, hown, hts⟩ (c9_raises l E a  ((nI 1)) (v_now) (v_tried) (v_kept) (v_undos) (v_saved) (v_isSaved) (v_line) (v_lined) (v_text) (v_length) (v_at) (v_order) (v_told) (v_error) (v_reason) (v_detail) (v_answer) ((nI 0)) (v_mixed) (v_conflicts) (v_firstConflict) r14 w15 hr16) (cwV 1 hts (ws_v q1320 q1322 q28 q68 q1323) rfl rfl rfl hdV_X9_raises (by rw [hR]; exact ⟨Nat.le_of_ble_eq_true rfl, Nat.le_of_ble_eq_true rfl⟩)) hK hN hP hD hS hA [] [0] [0] rfl rfl (by decide) (by decide) rfl (by decide) 0 9 rfl rfl rfl rfl hl.1 rfl (Nat.le_of_ble_eq_true rfl) dX9_onLine_15 (by rw [hR]; exact ⟨Nat.le_of_ble_eq_true rfl, Nat.le_of_ble_eq_true rfl⟩) (fun H locs hP hD hS => ?_)
    refine W.eq (g2 := F0 m 18 ls [.int r14]) rfl ?_
    cases h
    exact px_eWi hA0 hQ hP hD hS hx hb hr hlocks dX9_onLine_18
def f9_isBad (x1 : Int32) (x2 : Int32) (x3 : Int32) (v_now : AI) : Option (Bool) := ((f9_has (x1) (x2) (v_now)).bind fun r1 => (if r1 ≤ x3 then (some false) else (some true)))
set_option maxHeartbeats 4000000 in
set_option maxRecDepth 100000 in
theorem c9_isBad (l : Launch) (E : PE) (a : Nat → Nat)  (x1 : Int32) (x2 : Int32) (x3 : Int32) (v_now : AI) (v_tried : AI) (v_kept : AI) (v_undos : Int32) (v_saved : AI) (v_isSaved : Int32) (v_line : AI) (v_lined : Int32) (v_text : AI) (v_length : Int32) (v_at : Int32) (v_order : Int32) (v_told : AI) (v_error : Int32) (v_reason : Int32) (v_detail : Int32) (v_answer : Int32) (v_thrown : Int32) (v_mixed : AI) (v_conflicts : Int32) (v_firstConflict : Int32) (r : Bool) (h : f9_isBad x1 x2 x3 v_now = some r) : MP l yX9_isBad cX9_isBad 4 (some .boolean) { frames := 2, cells := 0, slots := 0, locals := 44 } E [.ref (a 0), .int x1, .int x2, .int x3] ([gX9 E a v_now v_tried v_kept v_undos v_saved v_isSaved v_line v_lined v_text v_length v_at v_order v_told v_error v_reason v_detail v_answer v_thrown v_mixed v_conflicts v_firstConflict] : List va_W).flatten (some (.int (b2i r))) := by
  refine px_startP (by decide +kernel) (Nat.le_of_ble_eq_true rfl) ?_
  intro p e s m args below meth c R Q A ls hC hQ
  obtain ⟨hx, hb, hr, hml, hts, hown, hlocks, hR, hK, hN, hP, hD, hA, hl, hin⟩ := hC
  have hl : lv_has ls 4 [(0, .ref (a 0)), (1, .int x1), (2, .int x2), (3, .int x3)] := hl
  unfold f9_isBad at h
  refine lv_aload_n hx hb dX9_isBad_0 rfl (lv_at hl 0 rfl) ?_
  refine lv_iload_n hx hb dX9_isBad_1 rfl (lv_at hl 1 rfl) ?_
  refine lv_iload_n hx hb dX9_isBad_2 rfl (lv_at hl 2 rfl) ?_
  obtain ⟨r1, hr2, h⟩ := ob h
  refine px_Vp (As := [.int x1, .int x2]) (rest := []) (gs := ([gX9 E a v_now v_tried v_kept v_undos v_saved v_isSaved v_line v_lined v_text v_length v_at v_order v_told v_error v_reason v_detail v_answer v_thrown v_mixed v_conflicts v_firstConflict] : List va_W)) (gc := ([gX9 E a v_now v_tried v_kept v_undos v_saved v_isSaved v_line v_lined v_text v_length v_at v_order v_told v_error v_reason v_detail v_answer v_thrown v_mixed v_conflicts v_firstConflict] : List va_W)) ⟨hx, hb, hml, hown, hts⟩ (c9_has l E a  (x1) (x2) (v_now) (v_tried) (v_kept) (v_undos) (v_saved) (v_isSaved) (v_line) (v_lined) (v_text) (v_length) (v_at) (v_order) (v_told) (v_error) (v_reason) (v_detail) (v_answer) (v_thrown) (v_mixed) (v_conflicts) (v_firstConflict) r1 hr2) (cwV 2 hts (ws_v q1292 q1294 q21 q68 q1295) rfl rfl rfl hdV_X9_has (by rw [hR]; exact ⟨Nat.le_of_ble_eq_true rfl, Nat.le_of_ble_eq_true rfl⟩)) hK hN hP hD [0] rfl (by decide) 0 9 rfl rfl rfl rfl hl.1 rfl (Nat.le_of_ble_eq_true rfl) dX9_isBad_3 (by rw [hR]; exact ⟨Nat.le_of_ble_eq_true rfl, Nat.le_of_ble_eq_true rfl⟩) ?_
  refine W.eq (g2 := F0 m 6 ls [.int r1]) rfl ?_
  refine lv_iload_n hx hb dX9_isBad_6 rfl (lv_at hl 3 rfl) ?_
  refine lv_icmp_le (tgt := 14) hx hb dX9_isBad_7 (by decide) (fun c3 => ?_) (fun c3 => ?_)
  · rw [if_pos c3] at h
    refine lv_iconst (v := (nI 0)) hx hb dX9_isBad_14 (by decide) ?_
    cases h
    refine W.eq (g2 := F0 m 15 ls [.int (b2i false)]) rfl ?_
    exact px_ePz (b2i_n _) hQ hx hb hr hlocks dX9_isBad_15
  · rw [if_neg c3] at h
    refine lv_iconst (v := (nI 1)) hx hb dX9_isBad_10 (by decide) ?_
    refine lv_goto (tgt := 15) hx hb dX9_isBad_11 (by decide) ?_
    cases h
    refine W.eq (g2 := F0 m 15 ls [.int (b2i true)]) rfl ?_
    exact px_ePz (b2i_n _) hQ hx hb hr hlocks dX9_isBad_15
def f9_halve_L75 (x1 : Int32) (x2 : Int32) (x3 : Int32) (x4 : Int32) (v_now : AI) : Nat → Int32 → Int32 → Int32 → Int32 → Option (Int32 × Int32)
  | 0, _, _, _, _ => none
  | n + 1, x5, x6, x7, v_thrown => (if (x6 - x5) ≤ (nI 1) then (if x4 = 0 then ((f9_onLineOf (x1) (x5) (v_now)).bind fun r31 => (some (r31, v_thrown))) else (some (x7, v_thrown))) else ((f9_onLineOf (x1) (((x5 + x6) / (nI 2))) (v_now)).bind fun r33 => ((f9_isBad (r33) (x2) (x3) (v_now)).bind fun r35 => (if (b2i r35) = 0 then (f9_halve_L75 x1 x2 x3 x4 v_now n (x5) (((x5 + x6) / (nI 2))) ((x7 + nI 1)) (v_thrown)) else (f9_halve_L75 x1 x2 x3 x4 v_now n (((x5 + x6) / (nI 2))) (x6) ((x7 + nI 1)) (v_thrown))))))
def f9_halve (x1 : Int32) (x2 : Int32) (x3 : Int32) (x4 : Int32) (v_now : AI) (v_thrown : Int32) : Option (Int32 × Int32) := ((f9_isBranch (x1) (v_now)).bind fun r1 => (if (b2i r1) = 0 then ((f9_raises ((nI 1)) ((nI 0))).bind fun (r4, w5) => (some (r4, w5))) else ((f9_isKind (x2)).bind fun r7 => (if (b2i r7) = 0 then ((f9_raises ((nI 1)) ((nI 0))).bind fun (r26, w27) => (some (r26, w27))) else ((f9_in (x3) ((nI 0)) ((nI 99))).bind fun r10 => (if (b2i r10) = 0 then ((f9_raises ((nI 2)) ((nI 0))).bind fun (r23, w24) => (some (r23, w24))) else ((f9_top (x1) (v_now)).bind fun r13 => ((f9_isBad (r13) (x2) (x3) (v_now)).bind fun r15 => (if (b2i r15) = 0 then ((f9_raises ((nI 3)) ((nI 0))).bind fun (r20, w21) => (some (r20, w21))) else ((f9_far (x1) (v_now)).bind fun r18 => (f9_halve_L75 x1 x2 x3 x4 v_now fuel ((nI 0)) (r18) ((nI 0)) ((nI 0)))))))))))))
set_option maxHeartbeats 4000000 in
set_option maxRecDepth 100000 in
theorem c9_halve (l : Launch) (E : PE) (a : Nat → Nat)  (x1 : Int32) (x2 : Int32) (x3 : Int32) (x4 : Int32) (v_now : AI) (v_tried : AI) (v_kept : AI) (v_undos : Int32) (v_saved : AI) (v_isSaved : Int32) (v_line : AI) (v_lined : Int32) (v_text : AI) (v_length : Int32) (v_at : Int32) (v_order : Int32) (v_told : AI) (v_error : Int32) (v_reason : Int32) (v_detail : Int32) (v_answer : Int32) (v_thrown : Int32) (v_mixed : AI) (v_conflicts : Int32) (v_firstConflict : Int32) (r : Int32) (z_this_thrown : Int32) (h : f9_halve x1 x2 x3 x4 v_now v_thrown = some (r, z_this_thrown)) : MW l yX9_halve cX9_halve 9 (some .int) { frames := 3, cells := 0, slots := 0, locals := 67 } E [.ref (a 0), .int x1, .int x2, .int x3, .int x4] ([gX9 E a v_now v_tried v_kept v_undos v_saved v_isSaved v_line v_lined v_text v_length v_at v_order v_told v_error v_reason v_detail v_answer v_thrown v_mixed v_conflicts v_firstConflict] : List va_W).flatten 0 0 (some (.int r)) ([gX9 E a v_now v_tried v_kept v_undos v_saved v_isSaved v_line v_lined v_text v_length v_at v_order v_told v_error v_reason v_detail v_answer z_this_thrown v_mixed v_conflicts v_firstConflict] : List va_W).flatten := by
  refine px_startW (by decide +kernel) (Nat.le_of_ble_eq_true rfl) ?_
  intro p e s m args below meth c R Q A ls hC hA0 hQ
  obtain ⟨hx, hb, hr, hml, hts, hown, hlocks, hR, hK, hN, hP, hD, hA, hl, hin⟩ := hC
  have hl : lv_has ls 9 [(0, .ref (a 0)), (1, .int x1), (2, .int x2), (3, .int x3), (4, .int x4)] := hl
  suffices key : ∀ (H : Heap) (locs : List Loc), va_P E.1 vwCl ([gX9 E a v_now v_tried v_kept v_undos v_saved v_isSaved v_line v_lined v_text v_length v_at v_order v_told v_error v_reason v_detail v_answer v_thrown v_mixed v_conflicts v_firstConflict] : List va_W).flatten H → va_S A s.heap H locs → W p l e R s m args below meth c H locs 0 0 Q (F0 m 0 ls []) from key s.heap [] hP va_S.rf
  unfold f9_halve at h
  have L75 : ∀ (n : Nat) (x5 : Int32) (x6 : Int32) (x7 : Int32) (v_thrown : Int32) (H : Heap) (locs : List Loc) (ls : Array Slot), va_P E.1 vwCl ([gX9 E a v_now v_tried v_kept v_undos v_saved v_isSaved v_line v_lined v_text v_length v_at v_order v_told v_error v_reason v_detail v_answer v_thrown v_mixed v_conflicts v_firstConflict] : List va_W).flatten H → va_D A ([gX9 E a v_now v_tried v_kept v_undos v_saved v_isSaved v_line v_lined v_text v_length v_at v_order v_told v_error v_reason v_detail v_answer v_thrown v_mixed v_conflicts v_firstConflict] : List va_W).flatten → va_S A s.heap H locs → lv_has ls 9 [(0, .ref (a 0)), (1, .int x1), (2, .int x2), (3, .int x3), (4, .int x4), (5, .int x5), (6, .int x6), (7, .int x7)] → f9_halve_L75 x1 x2 x3 x4 v_now n x5 x6 x7 v_thrown = some (r, z_this_thrown) → W p l e R s m args below meth c H locs 0 0 Q (F0 m 75 ls []) := by
    intro n
    induction n with
    | zero =>
      intro x5 x6 x7 v_thrown H locs ls hP hD hS hl h
      unfold f9_halve_L75 at h; cases h
    | succ n ih =>
      intro x5 x6 x7 v_thrown H locs ls hP hD hS hl h
      unfold f9_halve_L75 at h
      refine lv_iload hx hb dX9_halve_75 (lv_at hl 6 rfl) ?_
      refine lv_iload hx hb dX9_halve_77 (lv_at hl 5 rfl) ?_
      refine lv_isub hx hb dX9_halve_79 ?_
      refine lv_iconst (v := (nI 1)) hx hb dX9_halve_80 (by decide) ?_
      refine lv_icmp_le (tgt := 126) hx hb dX9_halve_81 (by decide) (fun c29 => ?_) (fun c29 => ?_)
      · rw [if_pos c29] at h
        refine lv_iload hx hb dX9_halve_126 (lv_at hl 4 rfl) ?_
        refine lv_if_eq (tgt := 136) hx hb dX9_halve_128 (by decide) (fun c30 => ?_) (fun c30 => ?_)
        · rw [if_pos c30] at h
          refine lv_aload_n hx hb dX9_halve_136 rfl (lv_at hl 0 rfl) ?_
          refine lv_iload_n hx hb dX9_halve_137 rfl (lv_at hl 1 rfl) ?_
          refine lv_iload hx hb dX9_halve_138 (lv_at hl 5 rfl) ?_
          obtain ⟨r31, hr32, h⟩ := ob h
          refine px_Vp (As := [.int x1, .int x5]) (rest := []) (gs := ([gX9 E a v_now v_tried v_kept v_undos v_saved v_isSaved v_line v_lined v_text v_length v_at v_order v_told v_error v_reason v_detail v_answer v_thrown v_mixed v_conflicts v_firstConflict] : List va_W)) (gc := ([gX9 E a v_now v_tried v_kept v_undos v_saved v_isSaved v_line v_lined v_text v_length v_at v_order v_told v_error v_reason v_detail v_answer v_thrown v_mixed v_conflicts v_firstConflict] : List va_W)) ⟨hx, hb, hml, hown, hts⟩ (c9_onLineOf l E a  (x1) (x5) (v_now) (v_tried) (v_kept) (v_undos) (v_saved) (v_isSaved) (v_line) (v_lined) (v_text) (v_length) (v_at) (v_order) (v_told) (v_error) (v_reason) (v_detail) (v_answer) (v_thrown) (v_mixed) (v_conflicts) (v_firstConflict) r31 hr32) (cwV 2 hts (ws_v q1448 q1450 q45 q68 q1451) rfl rfl rfl hdV_X9_onLineOf (by rw [hR]; exact ⟨Nat.le_of_ble_eq_true rfl, Nat.le_of_ble_eq_true rfl⟩)) hK hN hP hD [0] rfl (by decide) 0 9 rfl rfl rfl rfl hl.1 rfl (Nat.le_of_ble_eq_true rfl) dX9_halve_140 (by rw [hR]; exact ⟨Nat.le_of_ble_eq_true rfl, Nat.le_of_ble_eq_true rfl⟩) ?_
          refine W.eq (g2 := F0 m 143 ls [.int r31]) rfl ?_
          cases h
          exact px_eWi hA0 hQ hP hD hS hx hb hr hlocks dX9_halve_143
        · rw [if_neg c30] at h
          refine lv_iload hx hb dX9_halve_131 (lv_at hl 7 rfl) ?_
          refine lv_goto (tgt := 143) hx hb dX9_halve_133 (by decide) ?_
          cases h
          exact px_eWi hA0 hQ hP hD hS hx hb hr hlocks dX9_halve_143
      · rw [if_neg c29] at h
        refine lv_iload hx hb dX9_halve_84 (lv_at hl 5 rfl) ?_
        refine lv_iload hx hb dX9_halve_86 (lv_at hl 6 rfl) ?_
        refine lv_iadd hx hb dX9_halve_88 ?_
        refine lv_iconst (v := (nI 2)) hx hb dX9_halve_89 (by decide) ?_
        refine lv_idiv hx hb dX9_halve_90 (by decide) ?_
        refine lv_istore (lv' := [(8, .int ((x5 + x6) / (nI 2))), (0, .ref (a 0)), (1, .int x1), (2, .int x2), (3, .int x3), (4, .int x4), (5, .int x5), (6, .int x6), (7, .int x7)]) hx hb dX9_halve_91 hl (by decide) rfl (fun ls hl => ?_)
        refine lv_iinc (v := (x7 + nI 1)) (lv' := [(7, .int (x7 + nI 1)), (8, .int ((x5 + x6) / (nI 2))), (0, .ref (a 0)), (1, .int x1), (2, .int x2), (3, .int x3), (4, .int x4), (5, .int x5), (6, .int x6)]) hx hb dX9_halve_93 hl (k := 8) rfl rfl (by decide) rfl (fun ls hl => ?_)
        refine lv_aload_n hx hb dX9_halve_96 rfl (lv_at hl 2 rfl) ?_
        refine lv_aload_n hx hb dX9_halve_97 rfl (lv_at hl 2 rfl) ?_
        refine lv_iload_n hx hb dX9_halve_98 rfl (lv_at hl 3 rfl) ?_
        refine lv_iload hx hb dX9_halve_99 (lv_at hl 1 rfl) ?_
        obtain ⟨r33, hr34, h⟩ := ob h
        refine px_Vp (As := [.int x1, .int ((x5 + x6) / (nI 2))]) (rest := [.ref (a 0)]) (gs := ([gX9 E a v_now v_tried v_kept v_undos v_saved v_isSaved v_line v_lined v_text v_length v_at v_order v_told v_error v_reason v_detail v_answer v_thrown v_mixed v_conflicts v_firstConflict] : List va_W)) (gc := ([gX9 E a v_now v_tried v_kept v_undos v_saved v_isSaved v_line v_lined v_text v_length v_at v_order v_told v_error v_reason v_detail v_answer v_thrown v_mixed v_conflicts v_firstConflict] : List va_W)) ⟨hx, hb, hml, hown, hts⟩ (c9_onLineOf l E a  (x1) (((x5 + x6) / (nI 2))) (v_now) (v_tried) (v_kept) (v_undos) (v_saved) (v_isSaved) (v_line) (v_lined) (v_text) (v_length) (v_at) (v_order) (v_told) (v_error) (v_reason) (v_detail) (v_answer) (v_thrown) (v_mixed) (v_conflicts) (v_firstConflict) r33 hr34) (cwV 2 hts (ws_v q1448 q1450 q45 q68 q1451) rfl rfl rfl hdV_X9_onLineOf (by rw [hR]; exact ⟨Nat.le_of_ble_eq_true rfl, Nat.le_of_ble_eq_true rfl⟩)) hK hN hP hD [0] rfl (by decide) 0 9 rfl rfl rfl rfl hl.1 rfl (Nat.le_of_ble_eq_true rfl) dX9_halve_101 (by rw [hR]; exact ⟨Nat.le_of_ble_eq_true rfl, Nat.le_of_ble_eq_true rfl⟩) ?_
        refine W.eq (g2 := F0 m 104 ls [.int r33, .ref (a 0)]) rfl ?_
        refine lv_iload_n hx hb dX9_halve_104 rfl (lv_at hl 4 rfl) ?_
        refine lv_iload_n hx hb dX9_halve_105 rfl (lv_at hl 5 rfl) ?_
        obtain ⟨r35, hr36, h⟩ := ob h
        refine px_Vp (As := [.int r33, .int x2, .int x3]) (rest := []) (gs := ([gX9 E a v_now v_tried v_kept v_undos v_saved v_isSaved v_line v_lined v_text v_length v_at v_order v_told v_error v_reason v_detail v_answer v_thrown v_mixed v_conflicts v_firstConflict] : List va_W)) (gc := ([gX9 E a v_now v_tried v_kept v_undos v_saved v_isSaved v_line v_lined v_text v_length v_at v_order v_told v_error v_reason v_detail v_answer v_thrown v_mixed v_conflicts v_firstConflict] : List va_W)) ⟨hx, hb, hml, hown, hts⟩ (c9_isBad l E a  (r33) (x2) (x3) (v_now) (v_tried) (v_kept) (v_undos) (v_saved) (v_isSaved) (v_line) (v_lined) (v_text) (v_length) (v_at) (v_order) (v_told) (v_error) (v_reason) (v_detail) (v_answer) (v_thrown) (v_mixed) (v_conflicts) (v_firstConflict) r35 hr36) (cwV 3 hts (ws_v q1456 q1458 q46 q68 q1459) rfl rfl rfl hdV_X9_isBad (by rw [hR]; exact ⟨Nat.le_of_ble_eq_true rfl, Nat.le_of_ble_eq_true rfl⟩)) hK hN hP hD [0] rfl (by decide) 0 9 rfl rfl rfl rfl hl.1 rfl (Nat.le_of_ble_eq_true rfl) dX9_halve_106 (by rw [hR]; exact ⟨Nat.le_of_ble_eq_true rfl, Nat.le_of_ble_eq_true rfl⟩) ?_
        refine W.eq (g2 := F0 m 109 ls [.int (b2i r35)]) rfl ?_
        refine lv_if_eq (tgt := 119) hx hb dX9_halve_109 (by decide) (fun c37 => ?_) (fun c37 => ?_)
        · rw [if_pos c37] at h
          refine lv_iload hx hb dX9_halve_119 (lv_at hl 1 rfl) ?_
          refine lv_istore (lv' := [(6, .int ((x5 + x6) / (nI 2))), (7, .int (x7 + nI 1)), (8, .int ((x5 + x6) / (nI 2))), (0, .ref (a 0)), (1, .int x1), (2, .int x2), (3, .int x3), (4, .int x4), (5, .int x5)]) hx hb dX9_halve_121 hl (by decide) rfl (fun ls hl => ?_)
          refine lv_goto (tgt := 75) hx hb dX9_halve_123 (by decide) ?_
          exact ih (x5) (((x5 + x6) / (nI 2))) ((x7 + nI 1)) (v_thrown) H locs ls hP hD hS (lv_sub hl [3, 4, 5, 6, 7, 8, 0, 1] rfl) h
        · rw [if_neg c37] at h
          refine lv_iload hx hb dX9_halve_112 (lv_at hl 1 rfl) ?_
          refine lv_istore (lv' := [(5, .int ((x5 + x6) / (nI 2))), (7, .int (x7 + nI 1)), (8, .int ((x5 + x6) / (nI 2))), (0, .ref (a 0)), (1, .int x1), (2, .int x2), (3, .int x3), (4, .int x4), (6, .int x6)]) hx hb dX9_halve_114 hl (by decide) rfl (fun ls hl => ?_)
          refine lv_goto (tgt := 123) hx hb dX9_halve_116 (by decide) ?_
          refine lv_goto (tgt := 75) hx hb dX9_halve_123 (by decide) ?_
          exact ih (((x5 + x6) / (nI 2))) (x6) ((x7 + nI 1)) (v_thrown) H locs ls hP hD hS (lv_sub hl [3, 4, 5, 6, 7, 0, 8, 1] rfl) h
  intro H locs hP hS
  refine lv_aload_n hx hb dX9_halve_0 rfl (lv_at hl 0 rfl) ?_
  refine lv_iconst (v := (nI 0)) hx hb dX9_halve_1 (by decide) ?_
  refine va_put (D := E.1) (ci := 9) (v := .int (nI 0)) (ty := .int) (C := RX9) (T := TX9) (N := 21) hx hb hts iX9 tyX9 tyX9_ok nmX9 hown hK hP hD hS 0 rfl rfl 17 (by decide) (hts _ q1215) (fun _ h9 => h9) rfl (tyX9_ok 17 (by decide)) rfl rfl (Nat.le_of_ble_eq_true rfl) dX9_halve_2 (fun H locs hP hD hS => ?_)
  have hP : va_P E.1 vwCl ([gX9 E a v_now v_tried v_kept v_undos v_saved v_isSaved v_line v_lined v_text v_length v_at v_order v_told v_error v_reason v_detail v_answer (nI 0) v_mixed v_conflicts v_firstConflict] : List va_W).flatten H := hP
  have hD : va_D A ([gX9 E a v_now v_tried v_kept v_undos v_saved v_isSaved v_line v_lined v_text v_length v_at v_order v_told v_error v_reason v_detail v_answer (nI 0) v_mixed v_conflicts v_firstConflict] : List va_W).flatten := hD
  refine lv_aload_n hx hb dX9_halve_5 rfl (lv_at hl 0 rfl) ?_
  refine lv_iload_n hx hb dX9_halve_6 rfl (lv_at hl 1 rfl) ?_
  obtain ⟨r1, hr2, h⟩ := ob h
  refine px_Vp (As := [.int x1]) (rest := []) (gs := ([gX9 E a v_now v_tried v_kept v_undos v_saved v_isSaved v_line v_lined v_text v_length v_at v_order v_told v_error v_reason v_detail v_answer (nI 0) v_mixed v_conflicts v_firstConflict] : List va_W)) (gc := ([gX9 E a v_now v_tried v_kept v_undos v_saved v_isSaved v_line v_lined v_text v_length v_at v_order v_told v_error v_reason v_detail v_answer (nI 0) v_mixed v_conflicts v_firstConflict] : List va_W)) ⟨hx, hb, hml, hown, hts⟩ (c9_isBranch l E a  (x1) (v_now) (v_tried) (v_kept) (v_undos) (v_saved) (v_isSaved) (v_line) (v_lined) (v_text) (v_length) (v_at) (v_order) (v_told) (v_error) (v_reason) (v_detail) (v_answer) ((nI 0)) (v_mixed) (v_conflicts) (v_firstConflict) r1 hr2) (cwV 1 hts (ws_v q1278 q1280 q19 q68 q1281) rfl rfl rfl hdV_X9_isBranch (by rw [hR]; exact ⟨Nat.le_of_ble_eq_true rfl, Nat.le_of_ble_eq_true rfl⟩)) hK hN hP hD [0] rfl (by decide) 0 9 rfl rfl rfl rfl hl.1 rfl (Nat.le_of_ble_eq_true rfl) dX9_halve_7 (by rw [hR]; exact ⟨Nat.le_of_ble_eq_true rfl, Nat.le_of_ble_eq_true rfl⟩) ?_
  refine W.eq (g2 := F0 m 10 ls [.int (b2i r1)]) rfl ?_
  refine lv_if_eq (tgt := 20) hx hb dX9_halve_10 (by decide) (fun c3 => ?_) (fun c3 => ?_)
  · rw [if_pos c3] at h
    refine lv_aload_n hx hb dX9_halve_20 rfl (lv_at hl 0 rfl) ?_
    refine lv_iconst (v := (nI 1)) hx hb dX9_halve_21 (by decide) ?_
    obtain ⟨⟨r4, w5⟩, hr6, h⟩ := ob h
    dsimp only at h
    refine px_V (As := [.int (nI 1)]) (rest := []) (gs := ([gX9 E a v_now v_tried v_kept v_undos v_saved v_isSaved v_line v_lined v_text v_length v_at v_order v_told v_error v_reason v_detail v_answer (nI 0) v_mixed v_conflicts v_firstConflict] : List va_W)) (gr := ([] : List va_W)) (gc := ([gX9 E a v_now v_tried v_kept v_undos v_saved v_isSaved v_line v_lined v_text v_length v_at v_order v_told v_error v_reason v_detail v_answer (nI 0) v_mixed v_conflicts v_firstConflict] : List va_W)) (g1 := ([gX9 E a v_now v_tried v_kept v_undos v_saved v_isSaved v_line v_lined v_text v_length v_at v_order v_told v_error v_reason v_detail v_answer w5 v_mixed v_conflicts v_firstConflict] : List va_W)) (g2 := ([gX9 E a v_now v_tried v_kept v_undos v_saved v_isSaved v_line v_lined v_text v_length v_at v_order v_told v_error v_reason v_detail v_answer w5 v_mixed v_conflicts v_firstConflict] : List va_W)) ⟨hx, hb, hml, hown, hts⟩ (c9_raises l E a  ((nI 1)) (v_now) (v_tried) (v_kept) (v_undos) (v_saved) (v_isSaved) (v_line) (v_lined) (v_text) (v_length) (v_at) (v_order) (v_told) (v_error) (v_reason) (v_detail) (v_answer) ((nI 0)) (v_mixed) (v_conflicts) (v_firstConflict) r4 w5 hr6) (cwV 1 hts (ws_v q1320 q1322 q28 q68 q1323) rfl rfl rfl hdV_X9_raises (by rw [hR]; exact ⟨Nat.le_of_ble_eq_true rfl, Nat.le_of_ble_eq_true rfl⟩)) hK hN hP hD hS hA [] [0] [0] rfl rfl (by decide) (by decide) rfl (by decide) 0 9 rfl rfl rfl rfl hl.1 rfl (Nat.le_of_ble_eq_true rfl) dX9_halve_22 (by rw [hR]; exact ⟨Nat.le_of_ble_eq_true rfl, Nat.le_of_ble_eq_true rfl⟩) (fun H locs hP hD hS => ?_)
    refine W.eq (g2 := F0 m 25 ls [.int r4]) rfl ?_
    cases h
    exact px_eWi hA0 hQ hP hD hS hx hb hr hlocks dX9_halve_25
  · rw [if_neg c3] at h
    refine lv_iload_n hx hb dX9_halve_13 rfl (lv_at hl 2 rfl) ?_
    obtain ⟨r7, hr8, h⟩ := ob h
    refine px_Sp (As := [.int x2]) (rest := []) (gs := ([gX9 E a v_now v_tried v_kept v_undos v_saved v_isSaved v_line v_lined v_text v_length v_at v_order v_told v_error v_reason v_detail v_answer (nI 0) v_mixed v_conflicts v_firstConflict] : List va_W)) (gc := ([] : List va_W)) ⟨hx, hb, hml, hown, hts⟩ (c9_isKind l E   (x2)  r7 hr8) (va_cwS 1 hts (ws_s q1285 q1286 q68 q1287) rfl rfl rfl hdS_X9_isKind (by rw [hR]; exact ⟨Nat.le_of_ble_eq_true rfl, Nat.le_of_ble_eq_true rfl⟩)) hK hN hP hD [] rfl (by decide) rfl hl.1 rfl (Nat.le_of_ble_eq_true rfl) dX9_halve_14 (by rw [hR]; exact ⟨Nat.le_of_ble_eq_true rfl, Nat.le_of_ble_eq_true rfl⟩) ?_
    refine W.eq (g2 := F0 m 17 ls [.int (b2i r7)]) rfl ?_
    refine lv_if_ne (tgt := 26) hx hb dX9_halve_17 (by decide) (fun c9 => ?_) (fun c9 => ?_)
    · rw [if_neg c9] at h
      refine lv_iload_n hx hb dX9_halve_26 rfl (lv_at hl 3 rfl) ?_
      refine lv_iconst (v := (nI 0)) hx hb dX9_halve_27 (by decide) ?_
      refine lv_bipush (v := (nI 99)) hx hb dX9_halve_28 (by decide) ?_
      obtain ⟨r10, hr11, h⟩ := ob h
      refine px_Sp (As := [.int x3, .int (nI 0), .int (nI 99)]) (rest := []) (gs := ([gX9 E a v_now v_tried v_kept v_undos v_saved v_isSaved v_line v_lined v_text v_length v_at v_order v_told v_error v_reason v_detail v_answer (nI 0) v_mixed v_conflicts v_firstConflict] : List va_W)) (gc := ([] : List va_W)) ⟨hx, hb, hml, hown, hts⟩ (c9_in l E   (x3) ((nI 0)) ((nI 99))  r10 hr11) (va_cwS 3 hts (ws_s q1282 q1283 q68 q1284) rfl rfl rfl hdS_X9_in (by rw [hR]; exact ⟨Nat.le_of_ble_eq_true rfl, Nat.le_of_ble_eq_true rfl⟩)) hK hN hP hD [] rfl (by decide) rfl hl.1 rfl (Nat.le_of_ble_eq_true rfl) dX9_halve_30 (by rw [hR]; exact ⟨Nat.le_of_ble_eq_true rfl, Nat.le_of_ble_eq_true rfl⟩) ?_
      refine W.eq (g2 := F0 m 33 ls [.int (b2i r10)]) rfl ?_
      refine lv_if_ne (tgt := 42) hx hb dX9_halve_33 (by decide) (fun c12 => ?_) (fun c12 => ?_)
      · rw [if_neg c12] at h
        refine lv_aload_n hx hb dX9_halve_42 rfl (lv_at hl 0 rfl) ?_
        refine lv_aload_n hx hb dX9_halve_43 rfl (lv_at hl 0 rfl) ?_
        refine lv_iload_n hx hb dX9_halve_44 rfl (lv_at hl 1 rfl) ?_
        obtain ⟨r13, hr14, h⟩ := ob h
        refine px_Vp (As := [.int x1]) (rest := [.ref (a 0)]) (gs := ([gX9 E a v_now v_tried v_kept v_undos v_saved v_isSaved v_line v_lined v_text v_length v_at v_order v_told v_error v_reason v_detail v_answer (nI 0) v_mixed v_conflicts v_firstConflict] : List va_W)) (gc := ([gX9 E a v_now v_tried v_kept v_undos v_saved v_isSaved v_line v_lined v_text v_length v_at v_order v_told v_error v_reason v_detail v_answer (nI 0) v_mixed v_conflicts v_firstConflict] : List va_W)) ⟨hx, hb, hml, hown, hts⟩ (c9_top l E a  (x1) (v_now) (v_tried) (v_kept) (v_undos) (v_saved) (v_isSaved) (v_line) (v_lined) (v_text) (v_length) (v_at) (v_order) (v_told) (v_error) (v_reason) (v_detail) (v_answer) ((nI 0)) (v_mixed) (v_conflicts) (v_firstConflict) r13 hr14) (cwV 1 hts (ws_v q1288 q1290 q20 q68 q1291) rfl rfl rfl hdV_X9_top (by rw [hR]; exact ⟨Nat.le_of_ble_eq_true rfl, Nat.le_of_ble_eq_true rfl⟩)) hK hN hP hD [0] rfl (by decide) 0 9 rfl rfl rfl rfl hl.1 rfl (Nat.le_of_ble_eq_true rfl) dX9_halve_45 (by rw [hR]; exact ⟨Nat.le_of_ble_eq_true rfl, Nat.le_of_ble_eq_true rfl⟩) ?_
        refine W.eq (g2 := F0 m 48 ls [.int r13, .ref (a 0)]) rfl ?_
        refine lv_iload_n hx hb dX9_halve_48 rfl (lv_at hl 2 rfl) ?_
        refine lv_iload_n hx hb dX9_halve_49 rfl (lv_at hl 3 rfl) ?_
        obtain ⟨r15, hr16, h⟩ := ob h
        refine px_Vp (As := [.int r13, .int x2, .int x3]) (rest := []) (gs := ([gX9 E a v_now v_tried v_kept v_undos v_saved v_isSaved v_line v_lined v_text v_length v_at v_order v_told v_error v_reason v_detail v_answer (nI 0) v_mixed v_conflicts v_firstConflict] : List va_W)) (gc := ([gX9 E a v_now v_tried v_kept v_undos v_saved v_isSaved v_line v_lined v_text v_length v_at v_order v_told v_error v_reason v_detail v_answer (nI 0) v_mixed v_conflicts v_firstConflict] : List va_W)) ⟨hx, hb, hml, hown, hts⟩ (c9_isBad l E a  (r13) (x2) (x3) (v_now) (v_tried) (v_kept) (v_undos) (v_saved) (v_isSaved) (v_line) (v_lined) (v_text) (v_length) (v_at) (v_order) (v_told) (v_error) (v_reason) (v_detail) (v_answer) ((nI 0)) (v_mixed) (v_conflicts) (v_firstConflict) r15 hr16) (cwV 3 hts (ws_v q1456 q1458 q46 q68 q1459) rfl rfl rfl hdV_X9_isBad (by rw [hR]; exact ⟨Nat.le_of_ble_eq_true rfl, Nat.le_of_ble_eq_true rfl⟩)) hK hN hP hD [0] rfl (by decide) 0 9 rfl rfl rfl rfl hl.1 rfl (Nat.le_of_ble_eq_true rfl) dX9_halve_50 (by rw [hR]; exact ⟨Nat.le_of_ble_eq_true rfl, Nat.le_of_ble_eq_true rfl⟩) ?_
        refine W.eq (g2 := F0 m 53 ls [.int (b2i r15)]) rfl ?_
        refine lv_if_ne (tgt := 62) hx hb dX9_halve_53 (by decide) (fun c17 => ?_) (fun c17 => ?_)
        · rw [if_neg c17] at h
          refine lv_iconst (v := (nI 0)) hx hb dX9_halve_62 (by decide) ?_
          refine lv_istore (lv' := [(5, .int (nI 0)), (0, .ref (a 0)), (1, .int x1), (2, .int x2), (3, .int x3), (4, .int x4)]) hx hb dX9_halve_63 hl (by decide) rfl (fun ls hl => ?_)
          refine lv_aload_n hx hb dX9_halve_65 rfl (lv_at hl 1 rfl) ?_
          refine lv_iload_n hx hb dX9_halve_66 rfl (lv_at hl 2 rfl) ?_
          obtain ⟨r18, hr19, h⟩ := ob h
          refine px_Vp (As := [.int x1]) (rest := []) (gs := ([gX9 E a v_now v_tried v_kept v_undos v_saved v_isSaved v_line v_lined v_text v_length v_at v_order v_told v_error v_reason v_detail v_answer (nI 0) v_mixed v_conflicts v_firstConflict] : List va_W)) (gc := ([gX9 E a v_now v_tried v_kept v_undos v_saved v_isSaved v_line v_lined v_text v_length v_at v_order v_told v_error v_reason v_detail v_answer (nI 0) v_mixed v_conflicts v_firstConflict] : List va_W)) ⟨hx, hb, hml, hown, hts⟩ (c9_far l E a  (x1) (v_now) (v_tried) (v_kept) (v_undos) (v_saved) (v_isSaved) (v_line) (v_lined) (v_text) (v_length) (v_at) (v_order) (v_told) (v_error) (v_reason) (v_detail) (v_answer) ((nI 0)) (v_mixed) (v_conflicts) (v_firstConflict) r18 hr19) (cwV 1 hts (ws_v q1444 q1446 q44 q68 q1447) rfl rfl rfl hdV_X9_far (by rw [hR]; exact ⟨Nat.le_of_ble_eq_true rfl, Nat.le_of_ble_eq_true rfl⟩)) hK hN hP hD [0] rfl (by decide) 0 9 rfl rfl rfl rfl hl.1 rfl (Nat.le_of_ble_eq_true rfl) dX9_halve_67 (by rw [hR]; exact ⟨Nat.le_of_ble_eq_true rfl, Nat.le_of_ble_eq_true rfl⟩) ?_
          refine W.eq (g2 := F0 m 70 ls [.int r18]) rfl ?_
          refine lv_istore (lv' := [(6, .int r18), (5, .int (nI 0)), (0, .ref (a 0)), (1, .int x1), (2, .int x2), (3, .int x3), (4, .int x4)]) hx hb dX9_halve_70 hl (by decide) rfl (fun ls hl => ?_)
          refine lv_iconst (v := (nI 0)) hx hb dX9_halve_72 (by decide) ?_
          refine lv_istore (lv' := [(7, .int (nI 0)), (6, .int r18), (5, .int (nI 0)), (0, .ref (a 0)), (1, .int x1), (2, .int x2), (3, .int x3), (4, .int x4)]) hx hb dX9_halve_73 hl (by decide) rfl (fun ls hl => ?_)
          exact L75 fuel ((nI 0)) (r18) ((nI 0)) ((nI 0)) H locs ls hP hD hS (lv_sub hl [3, 4, 5, 6, 7, 2, 1, 0] rfl) h
        · rw [if_pos c17] at h
          refine lv_aload_n hx hb dX9_halve_56 rfl (lv_at hl 0 rfl) ?_
          refine lv_iconst (v := (nI 3)) hx hb dX9_halve_57 (by decide) ?_
          obtain ⟨⟨r20, w21⟩, hr22, h⟩ := ob h
          dsimp only at h
          refine px_V (As := [.int (nI 3)]) (rest := []) (gs := ([gX9 E a v_now v_tried v_kept v_undos v_saved v_isSaved v_line v_lined v_text v_length v_at v_order v_told v_error v_reason v_detail v_answer (nI 0) v_mixed v_conflicts v_firstConflict] : List va_W)) (gr := ([] : List va_W)) (gc := ([gX9 E a v_now v_tried v_kept v_undos v_saved v_isSaved v_line v_lined v_text v_length v_at v_order v_told v_error v_reason v_detail v_answer (nI 0) v_mixed v_conflicts v_firstConflict] : List va_W)) (g1 := ([gX9 E a v_now v_tried v_kept v_undos v_saved v_isSaved v_line v_lined v_text v_length v_at v_order v_told v_error v_reason v_detail v_answer w21 v_mixed v_conflicts v_firstConflict] : List va_W)) (g2 := ([gX9 E a v_now v_tried v_kept v_undos v_saved v_isSaved v_line v_lined v_text v_length v_at v_order v_told v_error v_reason v_detail v_answer w21 v_mixed v_conflicts v_firstConflict] : List va_W)) ⟨hx, hb, hml, hown, hts⟩ (c9_raises l E a  ((nI 3)) (v_now) (v_tried) (v_kept) (v_undos) (v_saved) (v_isSaved) (v_line) (v_lined) (v_text) (v_length) (v_at) (v_order) (v_told) (v_error) (v_reason) (v_detail) (v_answer) ((nI 0)) (v_mixed) (v_conflicts) (v_firstConflict) r20 w21 hr22) (cwV 1 hts (ws_v q1320 q1322 q28 q68 q1323) rfl rfl rfl hdV_X9_raises (by rw [hR]; exact ⟨Nat.le_of_ble_eq_true rfl, Nat.le_of_ble_eq_true rfl⟩)) hK hN hP hD hS hA [] [0] [0] rfl rfl (by decide) (by decide) rfl (by decide) 0 9 rfl rfl rfl rfl hl.1 rfl (Nat.le_of_ble_eq_true rfl) dX9_halve_58 (by rw [hR]; exact ⟨Nat.le_of_ble_eq_true rfl, Nat.le_of_ble_eq_true rfl⟩) (fun H locs hP hD hS => ?_)
          refine W.eq (g2 := F0 m 61 ls [.int r20]) rfl ?_
          cases h
          exact px_eWi hA0 hQ hP hD hS hx hb hr hlocks dX9_halve_61
      · rw [if_pos c12] at h
        refine lv_aload_n hx hb dX9_halve_36 rfl (lv_at hl 0 rfl) ?_
        refine lv_iconst (v := (nI 2)) hx hb dX9_halve_37 (by decide) ?_
        obtain ⟨⟨r23, w24⟩, hr25, h⟩ := ob h
        dsimp only at h
        refine px_V (As := [.int (nI 2)]) (rest := []) (gs := ([gX9 E a v_now v_tried v_kept v_undos v_saved v_isSaved v_line v_lined v_text v_length v_at v_order v_told v_error v_reason v_detail v_answer (nI 0) v_mixed v_conflicts v_firstConflict] : List va_W)) (gr := ([] : List va_W)) (gc := ([gX9 E a v_now v_tried v_kept v_undos v_saved v_isSaved v_line v_lined v_text v_length v_at v_order v_told v_error v_reason v_detail v_answer (nI 0) v_mixed v_conflicts v_firstConflict] : List va_W)) (g1 := ([gX9 E a v_now v_tried v_kept v_undos v_saved v_isSaved v_line v_lined v_text v_length v_at v_order v_told v_error v_reason v_detail v_answer w24 v_mixed v_conflicts v_firstConflict] : List va_W)) (g2 := ([gX9 E a v_now v_tried v_kept v_undos v_saved v_isSaved v_line v_lined v_text v_length v_at v_order v_told v_error v_reason v_detail v_answer w24 v_mixed v_conflicts v_firstConflict] : List va_W)) ⟨hx, hb, hml, hown, hts⟩ (c9_raises l E a  ((nI 2)) (v_now) (v_tried) (v_kept) (v_undos) (v_saved) (v_isSaved) (v_line) (v_lined) (v_text) (v_length) (v_at) (v_order) (v_told) (v_error) (v_reason) (v_detail) (v_answer) ((nI 0)) (v_mixed) (v_conflicts) (v_firstConflict) r23 w24 hr25) (cwV 1 hts (ws_v q1320 q1322 q28 q68 q1323) rfl rfl rfl hdV_X9_raises (by rw [hR]; exact ⟨Nat.le_of_ble_eq_true rfl, Nat.le_of_ble_eq_true rfl⟩)) hK hN hP hD hS hA [] [0] [0] rfl rfl (by decide) (by decide) rfl (by decide) 0 9 rfl rfl rfl rfl hl.1 rfl (Nat.le_of_ble_eq_true rfl) dX9_halve_38 (by rw [hR]; exact ⟨Nat.le_of_ble_eq_true rfl, Nat.le_of_ble_eq_true rfl⟩) (fun H locs hP hD hS => ?_)
        refine W.eq (g2 := F0 m 41 ls [.int r23]) rfl ?_
        cases h
        exact px_eWi hA0 hQ hP hD hS hx hb hr hlocks dX9_halve_41
    · rw [if_pos c9] at h
      refine lv_aload_n hx hb dX9_halve_20 rfl (lv_at hl 0 rfl) ?_
      refine lv_iconst (v := (nI 1)) hx hb dX9_halve_21 (by decide) ?_
      obtain ⟨⟨r26, w27⟩, hr28, h⟩ := ob h
      dsimp only at h
      refine px_V (As := [.int (nI 1)]) (rest := []) (gs := ([gX9 E a v_now v_tried v_kept v_undos v_saved v_isSaved v_line v_lined v_text v_length v_at v_order v_told v_error v_reason v_detail v_answer (nI 0) v_mixed v_conflicts v_firstConflict] : List va_W)) (gr := ([] : List va_W)) (gc := ([gX9 E a v_now v_tried v_kept v_undos v_saved v_isSaved v_line v_lined v_text v_length v_at v_order v_told v_error v_reason v_detail v_answer (nI 0) v_mixed v_conflicts v_firstConflict] : List va_W)) (g1 := ([gX9 E a v_now v_tried v_kept v_undos v_saved v_isSaved v_line v_lined v_text v_length v_at v_order v_told v_error v_reason v_detail v_answer w27 v_mixed v_conflicts v_firstConflict] : List va_W)) (g2 := ([gX9 E a v_now v_tried v_kept v_undos v_saved v_isSaved v_line v_lined v_text v_length v_at v_order v_told v_error v_reason v_detail v_answer w27 v_mixed v_conflicts v_firstConflict] : List va_W)) ⟨hx, hb, hml, hown, hts⟩ (c9_raises l E a  ((nI 1)) (v_now) (v_tried) (v_kept) (v_undos) (v_saved) (v_isSaved) (v_line) (v_lined) (v_text) (v_length) (v_at) (v_order) (v_told) (v_error) (v_reason) (v_detail) (v_answer) ((nI 0)) (v_mixed) (v_conflicts) (v_firstConflict) r26 w27 hr28) (cwV 1 hts (ws_v q1320 q1322 q28 q68 q1323) rfl rfl rfl hdV_X9_raises (by rw [hR]; exact ⟨Nat.le_of_ble_eq_true rfl, Nat.le_of_ble_eq_true rfl⟩)) hK hN hP hD hS hA [] [0] [0] rfl rfl (by decide) (by decide) rfl (by decide) 0 9 rfl rfl rfl rfl hl.1 rfl (Nat.le_of_ble_eq_true rfl) dX9_halve_22 (by rw [hR]; exact ⟨Nat.le_of_ble_eq_true rfl, Nat.le_of_ble_eq_true rfl⟩) (fun H locs hP hD hS => ?_)
      refine W.eq (g2 := F0 m 25 ls [.int r26]) rfl ?_
      cases h
      exact px_eWi hA0 hQ hP hD hS hx hb hr hlocks dX9_halve_25
def f9_firstBad_L49 (x1 : Int32) (x2 : Int32) (x3 : Int32) (v_now : AI) : Nat → Int32 → Int32 → Option (Int32 × Int32)
  | 0, _, _ => none
  | n + 1, x4, v_thrown => (if x4 < 0 then ((f9_raises ((nI 3)) (v_thrown)).bind fun (r22, w23) => (some (r22, w23))) else ((f9_onLineOf (x1) (x4) (v_now)).bind fun r25 => ((f9_isBad (r25) (x2) (x3) (v_now)).bind fun r27 => (if (b2i r27) = 0 then (f9_firstBad_L49 x1 x2 x3 v_now n ((x4 + (-1))) (v_thrown)) else ((f9_onLineOf (x1) (x4) (v_now)).bind fun r30 => (some (r30, v_thrown)))))))
def f9_firstBad (x1 : Int32) (x2 : Int32) (x3 : Int32) (v_now : AI) (v_thrown : Int32) : Option (Int32 × Int32) := ((f9_isBranch (x1) (v_now)).bind fun r1 => (if (b2i r1) = 0 then ((f9_raises ((nI 1)) ((nI 0))).bind fun (r4, w5) => (some (r4, w5))) else ((f9_isKind (x2)).bind fun r7 => (if (b2i r7) = 0 then ((f9_raises ((nI 1)) ((nI 0))).bind fun (r18, w19) => (some (r18, w19))) else ((f9_in (x3) ((nI 0)) ((nI 99))).bind fun r10 => (if (b2i r10) = 0 then ((f9_raises ((nI 2)) ((nI 0))).bind fun (r15, w16) => (some (r15, w16))) else ((f9_far (x1) (v_now)).bind fun r13 => (f9_firstBad_L49 x1 x2 x3 v_now fuel (r13) ((nI 0))))))))))
set_option maxHeartbeats 4000000 in
set_option maxRecDepth 100000 in
theorem c9_firstBad (l : Launch) (E : PE) (a : Nat → Nat)  (x1 : Int32) (x2 : Int32) (x3 : Int32) (v_now : AI) (v_tried : AI) (v_kept : AI) (v_undos : Int32) (v_saved : AI) (v_isSaved : Int32) (v_line : AI) (v_lined : Int32) (v_text : AI) (v_length : Int32) (v_at : Int32) (v_order : Int32) (v_told : AI) (v_error : Int32) (v_reason : Int32) (v_detail : Int32) (v_answer : Int32) (v_thrown : Int32) (v_mixed : AI) (v_conflicts : Int32) (v_firstConflict : Int32) (r : Int32) (z_this_thrown : Int32) (h : f9_firstBad x1 x2 x3 v_now v_thrown = some (r, z_this_thrown)) : MW l yX9_firstBad cX9_firstBad 5 (some .int) { frames := 3, cells := 0, slots := 0, locals := 67 } E [.ref (a 0), .int x1, .int x2, .int x3] ([gX9 E a v_now v_tried v_kept v_undos v_saved v_isSaved v_line v_lined v_text v_length v_at v_order v_told v_error v_reason v_detail v_answer v_thrown v_mixed v_conflicts v_firstConflict] : List va_W).flatten 0 0 (some (.int r)) ([gX9 E a v_now v_tried v_kept v_undos v_saved v_isSaved v_line v_lined v_text v_length v_at v_order v_told v_error v_reason v_detail v_answer z_this_thrown v_mixed v_conflicts v_firstConflict] : List va_W).flatten := by
  refine px_startW (by decide +kernel) (Nat.le_of_ble_eq_true rfl) ?_
  intro p e s m args below meth c R Q A ls hC hA0 hQ
  obtain ⟨hx, hb, hr, hml, hts, hown, hlocks, hR, hK, hN, hP, hD, hA, hl, hin⟩ := hC
  have hl : lv_has ls 5 [(0, .ref (a 0)), (1, .int x1), (2, .int x2), (3, .int x3)] := hl
  suffices key : ∀ (H : Heap) (locs : List Loc), va_P E.1 vwCl ([gX9 E a v_now v_tried v_kept v_undos v_saved v_isSaved v_line v_lined v_text v_length v_at v_order v_told v_error v_reason v_detail v_answer v_thrown v_mixed v_conflicts v_firstConflict] : List va_W).flatten H → va_S A s.heap H locs → W p l e R s m args below meth c H locs 0 0 Q (F0 m 0 ls []) from key s.heap [] hP va_S.rf
  unfold f9_firstBad at h
  have L49 : ∀ (n : Nat) (x4 : Int32) (v_thrown : Int32) (H : Heap) (locs : List Loc) (ls : Array Slot), va_P E.1 vwCl ([gX9 E a v_now v_tried v_kept v_undos v_saved v_isSaved v_line v_lined v_text v_length v_at v_order v_told v_error v_reason v_detail v_answer v_thrown v_mixed v_conflicts v_firstConflict] : List va_W).flatten H → va_D A ([gX9 E a v_now v_tried v_kept v_undos v_saved v_isSaved v_line v_lined v_text v_length v_at v_order v_told v_error v_reason v_detail v_answer v_thrown v_mixed v_conflicts v_firstConflict] : List va_W).flatten → va_S A s.heap H locs → lv_has ls 5 [(0, .ref (a 0)), (1, .int x1), (2, .int x2), (3, .int x3), (4, .int x4)] → f9_firstBad_L49 x1 x2 x3 v_now n x4 v_thrown = some (r, z_this_thrown) → W p l e R s m args below meth c H locs 0 0 Q (F0 m 49 ls []) := by
    intro n
    induction n with
    | zero =>
      intro x4 v_thrown H locs ls hP hD hS hl h
      unfold f9_firstBad_L49 at h; cases h
    | succ n ih =>
      intro x4 v_thrown H locs ls hP hD hS hl h
      unfold f9_firstBad_L49 at h
      refine lv_iload hx hb dX9_firstBad_49 (lv_at hl 4 rfl) ?_
      refine lv_if_lt (tgt := 84) hx hb dX9_firstBad_51 (by decide) (fun c21 => ?_) (fun c21 => ?_)
      · rw [if_pos c21] at h
        refine lv_aload_n hx hb dX9_firstBad_84 rfl (lv_at hl 0 rfl) ?_
        refine lv_iconst (v := (nI 3)) hx hb dX9_firstBad_85 (by decide) ?_
        obtain ⟨⟨r22, w23⟩, hr24, h⟩ := ob h
        dsimp only at h
        refine px_V (As := [.int (nI 3)]) (rest := []) (gs := ([gX9 E a v_now v_tried v_kept v_undos v_saved v_isSaved v_line v_lined v_text v_length v_at v_order v_told v_error v_reason v_detail v_answer v_thrown v_mixed v_conflicts v_firstConflict] : List va_W)) (gr := ([] : List va_W)) (gc := ([gX9 E a v_now v_tried v_kept v_undos v_saved v_isSaved v_line v_lined v_text v_length v_at v_order v_told v_error v_reason v_detail v_answer v_thrown v_mixed v_conflicts v_firstConflict] : List va_W)) (g1 := ([gX9 E a v_now v_tried v_kept v_undos v_saved v_isSaved v_line v_lined v_text v_length v_at v_order v_told v_error v_reason v_detail v_answer w23 v_mixed v_conflicts v_firstConflict] : List va_W)) (g2 := ([gX9 E a v_now v_tried v_kept v_undos v_saved v_isSaved v_line v_lined v_text v_length v_at v_order v_told v_error v_reason v_detail v_answer w23 v_mixed v_conflicts v_firstConflict] : List va_W)) ⟨hx, hb, hml, hown, hts⟩ (c9_raises l E a  ((nI 3)) (v_now) (v_tried) (v_kept) (v_undos) (v_saved) (v_isSaved) (v_line) (v_lined) (v_text) (v_length) (v_at) (v_order) (v_told) (v_error) (v_reason) (v_detail) (v_answer) (v_thrown) (v_mixed) (v_conflicts) (v_firstConflict) r22 w23 hr24) (cwV 1 hts (ws_v q1320 q1322 q28 q68 q1323) rfl rfl rfl hdV_X9_raises (by rw [hR]; exact ⟨Nat.le_of_ble_eq_true rfl, Nat.le_of_ble_eq_true rfl⟩)) hK hN hP hD hS hA [] [0] [0] rfl rfl (by decide) (by decide) rfl (by decide) 0 9 rfl rfl rfl rfl hl.1 rfl (Nat.le_of_ble_eq_true rfl) dX9_firstBad_86 (by rw [hR]; exact ⟨Nat.le_of_ble_eq_true rfl, Nat.le_of_ble_eq_true rfl⟩) (fun H locs hP hD hS => ?_)
        refine W.eq (g2 := F0 m 89 ls [.int r22]) rfl ?_
        cases h
        exact px_eWi hA0 hQ hP hD hS hx hb hr hlocks dX9_firstBad_89
      · rw [if_neg c21] at h
        refine lv_aload_n hx hb dX9_firstBad_54 rfl (lv_at hl 0 rfl) ?_
        refine lv_aload_n hx hb dX9_firstBad_55 rfl (lv_at hl 0 rfl) ?_
        refine lv_iload_n hx hb dX9_firstBad_56 rfl (lv_at hl 1 rfl) ?_
        refine lv_iload hx hb dX9_firstBad_57 (lv_at hl 4 rfl) ?_
        obtain ⟨r25, hr26, h⟩ := ob h
        refine px_Vp (As := [.int x1, .int x4]) (rest := [.ref (a 0)]) (gs := ([gX9 E a v_now v_tried v_kept v_undos v_saved v_isSaved v_line v_lined v_text v_length v_at v_order v_told v_error v_reason v_detail v_answer v_thrown v_mixed v_conflicts v_firstConflict] : List va_W)) (gc := ([gX9 E a v_now v_tried v_kept v_undos v_saved v_isSaved v_line v_lined v_text v_length v_at v_order v_told v_error v_reason v_detail v_answer v_thrown v_mixed v_conflicts v_firstConflict] : List va_W)) ⟨hx, hb, hml, hown, hts⟩ (c9_onLineOf l E a  (x1) (x4) (v_now) (v_tried) (v_kept) (v_undos) (v_saved) (v_isSaved) (v_line) (v_lined) (v_text) (v_length) (v_at) (v_order) (v_told) (v_error) (v_reason) (v_detail) (v_answer) (v_thrown) (v_mixed) (v_conflicts) (v_firstConflict) r25 hr26) (cwV 2 hts (ws_v q1448 q1450 q45 q68 q1451) rfl rfl rfl hdV_X9_onLineOf (by rw [hR]; exact ⟨Nat.le_of_ble_eq_true rfl, Nat.le_of_ble_eq_true rfl⟩)) hK hN hP hD [0] rfl (by decide) 0 9 rfl rfl rfl rfl hl.1 rfl (Nat.le_of_ble_eq_true rfl) dX9_firstBad_59 (by rw [hR]; exact ⟨Nat.le_of_ble_eq_true rfl, Nat.le_of_ble_eq_true rfl⟩) ?_
        refine W.eq (g2 := F0 m 62 ls [.int r25, .ref (a 0)]) rfl ?_
        refine lv_iload_n hx hb dX9_firstBad_62 rfl (lv_at hl 2 rfl) ?_
        refine lv_iload_n hx hb dX9_firstBad_63 rfl (lv_at hl 3 rfl) ?_
        obtain ⟨r27, hr28, h⟩ := ob h
        refine px_Vp (As := [.int r25, .int x2, .int x3]) (rest := []) (gs := ([gX9 E a v_now v_tried v_kept v_undos v_saved v_isSaved v_line v_lined v_text v_length v_at v_order v_told v_error v_reason v_detail v_answer v_thrown v_mixed v_conflicts v_firstConflict] : List va_W)) (gc := ([gX9 E a v_now v_tried v_kept v_undos v_saved v_isSaved v_line v_lined v_text v_length v_at v_order v_told v_error v_reason v_detail v_answer v_thrown v_mixed v_conflicts v_firstConflict] : List va_W)) ⟨hx, hb, hml, hown, hts⟩ (c9_isBad l E a  (r25) (x2) (x3) (v_now) (v_tried) (v_kept) (v_undos) (v_saved) (v_isSaved) (v_line) (v_lined) (v_text) (v_length) (v_at) (v_order) (v_told) (v_error) (v_reason) (v_detail) (v_answer) (v_thrown) (v_mixed) (v_conflicts) (v_firstConflict) r27 hr28) (cwV 3 hts (ws_v q1456 q1458 q46 q68 q1459) rfl rfl rfl hdV_X9_isBad (by rw [hR]; exact ⟨Nat.le_of_ble_eq_true rfl, Nat.le_of_ble_eq_true rfl⟩)) hK hN hP hD [0] rfl (by decide) 0 9 rfl rfl rfl rfl hl.1 rfl (Nat.le_of_ble_eq_true rfl) dX9_firstBad_64 (by rw [hR]; exact ⟨Nat.le_of_ble_eq_true rfl, Nat.le_of_ble_eq_true rfl⟩) ?_
        refine W.eq (g2 := F0 m 67 ls [.int (b2i r27)]) rfl ?_
        refine lv_if_eq (tgt := 78) hx hb dX9_firstBad_67 (by decide) (fun c29 => ?_) (fun c29 => ?_)
        · rw [if_pos c29] at h
          refine lv_iinc (v := (x4 + (-1))) (lv' := [(4, .int (x4 + (-1))), (0, .ref (a 0)), (1, .int x1), (2, .int x2), (3, .int x3)]) hx hb dX9_firstBad_78 hl (k := 4) rfl rfl (by decide) rfl (fun ls hl => ?_)
          refine lv_goto (tgt := 49) hx hb dX9_firstBad_81 (by decide) ?_
          exact ih ((x4 + (-1))) (v_thrown) H locs ls hP hD hS (lv_sub hl [1, 2, 3, 4, 0] rfl) h
        · rw [if_neg c29] at h
          refine lv_aload_n hx hb dX9_firstBad_70 rfl (lv_at hl 0 rfl) ?_
          refine lv_iload_n hx hb dX9_firstBad_71 rfl (lv_at hl 1 rfl) ?_
          refine lv_iload hx hb dX9_firstBad_72 (lv_at hl 4 rfl) ?_
          obtain ⟨r30, hr31, h⟩ := ob h
          refine px_Vp (As := [.int x1, .int x4]) (rest := []) (gs := ([gX9 E a v_now v_tried v_kept v_undos v_saved v_isSaved v_line v_lined v_text v_length v_at v_order v_told v_error v_reason v_detail v_answer v_thrown v_mixed v_conflicts v_firstConflict] : List va_W)) (gc := ([gX9 E a v_now v_tried v_kept v_undos v_saved v_isSaved v_line v_lined v_text v_length v_at v_order v_told v_error v_reason v_detail v_answer v_thrown v_mixed v_conflicts v_firstConflict] : List va_W)) ⟨hx, hb, hml, hown, hts⟩ (c9_onLineOf l E a  (x1) (x4) (v_now) (v_tried) (v_kept) (v_undos) (v_saved) (v_isSaved) (v_line) (v_lined) (v_text) (v_length) (v_at) (v_order) (v_told) (v_error) (v_reason) (v_detail) (v_answer) (v_thrown) (v_mixed) (v_conflicts) (v_firstConflict) r30 hr31) (cwV 2 hts (ws_v q1448 q1450 q45 q68 q1451) rfl rfl rfl hdV_X9_onLineOf (by rw [hR]; exact ⟨Nat.le_of_ble_eq_true rfl, Nat.le_of_ble_eq_true rfl⟩)) hK hN hP hD [0] rfl (by decide) 0 9 rfl rfl rfl rfl hl.1 rfl (Nat.le_of_ble_eq_true rfl) dX9_firstBad_74 (by rw [hR]; exact ⟨Nat.le_of_ble_eq_true rfl, Nat.le_of_ble_eq_true rfl⟩) ?_
          refine W.eq (g2 := F0 m 77 ls [.int r30]) rfl ?_
          cases h
          exact px_eWi hA0 hQ hP hD hS hx hb hr hlocks dX9_firstBad_77
  intro H locs hP hS
  refine lv_aload_n hx hb dX9_firstBad_0 rfl (lv_at hl 0 rfl) ?_
  refine lv_iconst (v := (nI 0)) hx hb dX9_firstBad_1 (by decide) ?_
  refine va_put (D := E.1) (ci := 9) (v := .int (nI 0)) (ty := .int) (C := RX9) (T := TX9) (N := 21) hx hb hts iX9 tyX9 tyX9_ok nmX9 hown hK hP hD hS 0 rfl rfl 17 (by decide) (hts _ q1215) (fun _ h9 => h9) rfl (tyX9_ok 17 (by decide)) rfl rfl (Nat.le_of_ble_eq_true rfl) dX9_firstBad_2 (fun H locs hP hD hS => ?_)
  have hP : va_P E.1 vwCl ([gX9 E a v_now v_tried v_kept v_undos v_saved v_isSaved v_line v_lined v_text v_length v_at v_order v_told v_error v_reason v_detail v_answer (nI 0) v_mixed v_conflicts v_firstConflict] : List va_W).flatten H := hP
  have hD : va_D A ([gX9 E a v_now v_tried v_kept v_undos v_saved v_isSaved v_line v_lined v_text v_length v_at v_order v_told v_error v_reason v_detail v_answer (nI 0) v_mixed v_conflicts v_firstConflict] : List va_W).flatten := hD
  refine lv_aload_n hx hb dX9_firstBad_5 rfl (lv_at hl 0 rfl) ?_
  refine lv_iload_n hx hb dX9_firstBad_6 rfl (lv_at hl 1 rfl) ?_
  obtain ⟨r1, hr2, h⟩ := ob h
  refine px_Vp (As := [.int x1]) (rest := []) (gs := ([gX9 E a v_now v_tried v_kept v_undos v_saved v_isSaved v_line v_lined v_text v_length v_at v_order v_told v_error v_reason v_detail v_answer (nI 0) v_mixed v_conflicts v_firstConflict] : List va_W)) (gc := ([gX9 E a v_now v_tried v_kept v_undos v_saved v_isSaved v_line v_lined v_text v_length v_at v_order v_told v_error v_reason v_detail v_answer (nI 0) v_mixed v_conflicts v_firstConflict] : List va_W)) ⟨hx, hb, hml, hown, hts⟩ (c9_isBranch l E a  (x1) (v_now) (v_tried) (v_kept) (v_undos) (v_saved) (v_isSaved) (v_line) (v_lined) (v_text) (v_length) (v_at) (v_order) (v_told) (v_error) (v_reason) (v_detail) (v_answer) ((nI 0)) (v_mixed) (v_conflicts) (v_firstConflict) r1 hr2) (cwV 1 hts (ws_v q1278 q1280 q19 q68 q1281) rfl rfl rfl hdV_X9_isBranch (by rw [hR]; exact ⟨Nat.le_of_ble_eq_true rfl, Nat.le_of_ble_eq_true rfl⟩)) hK hN hP hD [0] rfl (by decide) 0 9 rfl rfl rfl rfl hl.1 rfl (Nat.le_of_ble_eq_true rfl) dX9_firstBad_7 (by rw [hR]; exact ⟨Nat.le_of_ble_eq_true rfl, Nat.le_of_ble_eq_true rfl⟩) ?_
  refine W.eq (g2 := F0 m 10 ls [.int (b2i r1)]) rfl ?_
  refine lv_if_eq (tgt := 20) hx hb dX9_firstBad_10 (by decide) (fun c3 => ?_) (fun c3 => ?_)
  · rw [if_pos c3] at h
    refine lv_aload_n hx hb dX9_firstBad_20 rfl (lv_at hl 0 rfl) ?_
    refine lv_iconst (v := (nI 1)) hx hb dX9_firstBad_21 (by decide) ?_
    obtain ⟨⟨r4, w5⟩, hr6, h⟩ := ob h
    dsimp only at h
    refine px_V (As := [.int (nI 1)]) (rest := []) (gs := ([gX9 E a v_now v_tried v_kept v_undos v_saved v_isSaved v_line v_lined v_text v_length v_at v_order v_told v_error v_reason v_detail v_answer (nI 0) v_mixed v_conflicts v_firstConflict] : List va_W)) (gr := ([] : List va_W)) (gc := ([gX9 E a v_now v_tried v_kept v_undos v_saved v_isSaved v_line v_lined v_text v_length v_at v_order v_told v_error v_reason v_detail v_answer (nI 0) v_mixed v_conflicts v_firstConflict] : List va_W)) (g1 := ([gX9 E a v_now v_tried v_kept v_undos v_saved v_isSaved v_line v_lined v_text v_length v_at v_order v_told v_error v_reason v_detail v_answer w5 v_mixed v_conflicts v_firstConflict] : List va_W)) (g2 := ([gX9 E a v_now v_tried v_kept v_undos v_saved v_isSaved v_line v_lined v_text v_length v_at v_order v_told v_error v_reason v_detail v_answer w5 v_mixed v_conflicts v_firstConflict] : List va_W)) ⟨hx, hb, hml, hown, hts⟩ (c9_raises l E a  ((nI 1)) (v_now) (v_tried) (v_kept) (v_undos) (v_saved) (v_isSaved) (v_line) (v_lined) (v_text) (v_length) (v_at) (v_order) (v_told) (v_error) (v_reason) (v_detail) (v_answer) ((nI 0)) (v_mixed) (v_conflicts) (v_firstConflict) r4 w5 hr6) (cwV 1 hts (ws_v q1320 q1322 q28 q68 q1323) rfl rfl rfl hdV_X9_raises (by rw [hR]; exact ⟨Nat.le_of_ble_eq_true rfl, Nat.le_of_ble_eq_true rfl⟩)) hK hN hP hD hS hA [] [0] [0] rfl rfl (by decide) (by decide) rfl (by decide) 0 9 rfl rfl rfl rfl hl.1 rfl (Nat.le_of_ble_eq_true rfl) dX9_firstBad_22 (by rw [hR]; exact ⟨Nat.le_of_ble_eq_true rfl, Nat.le_of_ble_eq_true rfl⟩) (fun H locs hP hD hS => ?_)
    refine W.eq (g2 := F0 m 25 ls [.int r4]) rfl ?_
    cases h
    exact px_eWi hA0 hQ hP hD hS hx hb hr hlocks dX9_firstBad_25
  · rw [if_neg c3] at h
    refine lv_iload_n hx hb dX9_firstBad_13 rfl (lv_at hl 2 rfl) ?_
    obtain ⟨r7, hr8, h⟩ := ob h
    refine px_Sp (As := [.int x2]) (rest := []) (gs := ([gX9 E a v_now v_tried v_kept v_undos v_saved v_isSaved v_line v_lined v_text v_length v_at v_order v_told v_error v_reason v_detail v_answer (nI 0) v_mixed v_conflicts v_firstConflict] : List va_W)) (gc := ([] : List va_W)) ⟨hx, hb, hml, hown, hts⟩ (c9_isKind l E   (x2)  r7 hr8) (va_cwS 1 hts (ws_s q1285 q1286 q68 q1287) rfl rfl rfl hdS_X9_isKind (by rw [hR]; exact ⟨Nat.le_of_ble_eq_true rfl, Nat.le_of_ble_eq_true rfl⟩)) hK hN hP hD [] rfl (by decide) rfl hl.1 rfl (Nat.le_of_ble_eq_true rfl) dX9_firstBad_14 (by rw [hR]; exact ⟨Nat.le_of_ble_eq_true rfl, Nat.le_of_ble_eq_true rfl⟩) ?_
    refine W.eq (g2 := F0 m 17 ls [.int (b2i r7)]) rfl ?_
    refine lv_if_ne (tgt := 26) hx hb dX9_firstBad_17 (by decide) (fun c9 => ?_) (fun c9 => ?_)
    · rw [if_neg c9] at h
      refine lv_iload_n hx hb dX9_firstBad_26 rfl (lv_at hl 3 rfl) ?_
      refine lv_iconst (v := (nI 0)) hx hb dX9_firstBad_27 (by decide) ?_
      refine lv_bipush (v := (nI 99)) hx hb dX9_firstBad_28 (by decide) ?_
      obtain ⟨r10, hr11, h⟩ := ob h
      refine px_Sp (As := [.int x3, .int (nI 0), .int (nI 99)]) (rest := []) (gs := ([gX9 E a v_now v_tried v_kept v_undos v_saved v_isSaved v_line v_lined v_text v_length v_at v_order v_told v_error v_reason v_detail v_answer (nI 0) v_mixed v_conflicts v_firstConflict] : List va_W)) (gc := ([] : List va_W)) ⟨hx, hb, hml, hown, hts⟩ (c9_in l E   (x3) ((nI 0)) ((nI 99))  r10 hr11) (va_cwS 3 hts (ws_s q1282 q1283 q68 q1284) rfl rfl rfl hdS_X9_in (by rw [hR]; exact ⟨Nat.le_of_ble_eq_true rfl, Nat.le_of_ble_eq_true rfl⟩)) hK hN hP hD [] rfl (by decide) rfl hl.1 rfl (Nat.le_of_ble_eq_true rfl) dX9_firstBad_30 (by rw [hR]; exact ⟨Nat.le_of_ble_eq_true rfl, Nat.le_of_ble_eq_true rfl⟩) ?_
      refine W.eq (g2 := F0 m 33 ls [.int (b2i r10)]) rfl ?_
      refine lv_if_ne (tgt := 42) hx hb dX9_firstBad_33 (by decide) (fun c12 => ?_) (fun c12 => ?_)
      · rw [if_neg c12] at h
        refine lv_aload_n hx hb dX9_firstBad_42 rfl (lv_at hl 0 rfl) ?_
        refine lv_iload_n hx hb dX9_firstBad_43 rfl (lv_at hl 1 rfl) ?_
        obtain ⟨r13, hr14, h⟩ := ob h
        refine px_Vp (As := [.int x1]) (rest := []) (gs := ([gX9 E a v_now v_tried v_kept v_undos v_saved v_isSaved v_line v_lined v_text v_length v_at v_order v_told v_error v_reason v_detail v_answer (nI 0) v_mixed v_conflicts v_firstConflict] : List va_W)) (gc := ([gX9 E a v_now v_tried v_kept v_undos v_saved v_isSaved v_line v_lined v_text v_length v_at v_order v_told v_error v_reason v_detail v_answer (nI 0) v_mixed v_conflicts v_firstConflict] : List va_W)) ⟨hx, hb, hml, hown, hts⟩ (c9_far l E a  (x1) (v_now) (v_tried) (v_kept) (v_undos) (v_saved) (v_isSaved) (v_line) (v_lined) (v_text) (v_length) (v_at) (v_order) (v_told) (v_error) (v_reason) (v_detail) (v_answer) ((nI 0)) (v_mixed) (v_conflicts) (v_firstConflict) r13 hr14) (cwV 1 hts (ws_v q1444 q1446 q44 q68 q1447) rfl rfl rfl hdV_X9_far (by rw [hR]; exact ⟨Nat.le_of_ble_eq_true rfl, Nat.le_of_ble_eq_true rfl⟩)) hK hN hP hD [0] rfl (by decide) 0 9 rfl rfl rfl rfl hl.1 rfl (Nat.le_of_ble_eq_true rfl) dX9_firstBad_44 (by rw [hR]; exact ⟨Nat.le_of_ble_eq_true rfl, Nat.le_of_ble_eq_true rfl⟩) ?_
        refine W.eq (g2 := F0 m 47 ls [.int r13]) rfl ?_
        refine lv_istore (lv' := [(4, .int r13), (0, .ref (a 0)), (1, .int x1), (2, .int x2), (3, .int x3)]) hx hb dX9_firstBad_47 hl (by decide) rfl (fun ls hl => ?_)
        exact L49 fuel (r13) ((nI 0)) H locs ls hP hD hS (lv_sub hl [1, 2, 3, 4, 0] rfl) h
      · rw [if_pos c12] at h
        refine lv_aload_n hx hb dX9_firstBad_36 rfl (lv_at hl 0 rfl) ?_
        refine lv_iconst (v := (nI 2)) hx hb dX9_firstBad_37 (by decide) ?_
        obtain ⟨⟨r15, w16⟩, hr17, h⟩ := ob h
        dsimp only at h
        refine px_V (As := [.int (nI 2)]) (rest := []) (gs := ([gX9 E a v_now v_tried v_kept v_undos v_saved v_isSaved v_line v_lined v_text v_length v_at v_order v_told v_error v_reason v_detail v_answer (nI 0) v_mixed v_conflicts v_firstConflict] : List va_W)) (gr := ([] : List va_W)) (gc := ([gX9 E a v_now v_tried v_kept v_undos v_saved v_isSaved v_line v_lined v_text v_length v_at v_order v_told v_error v_reason v_detail v_answer (nI 0) v_mixed v_conflicts v_firstConflict] : List va_W)) (g1 := ([gX9 E a v_now v_tried v_kept v_undos v_saved v_isSaved v_line v_lined v_text v_length v_at v_order v_told v_error v_reason v_detail v_answer w16 v_mixed v_conflicts v_firstConflict] : List va_W)) (g2 := ([gX9 E a v_now v_tried v_kept v_undos v_saved v_isSaved v_line v_lined v_text v_length v_at v_order v_told v_error v_reason v_detail v_answer w16 v_mixed v_conflicts v_firstConflict] : List va_W)) ⟨hx, hb, hml, hown, hts⟩ (c9_raises l E a  ((nI 2)) (v_now) (v_tried) (v_kept) (v_undos) (v_saved) (v_isSaved) (v_line) (v_lined) (v_text) (v_length) (v_at) (v_order) (v_told) (v_error) (v_reason) (v_detail) (v_answer) ((nI 0)) (v_mixed) (v_conflicts) (v_firstConflict) r15 w16 hr17) (cwV 1 hts (ws_v q1320 q1322 q28 q68 q1323) rfl rfl rfl hdV_X9_raises (by rw [hR]; exact ⟨Nat.le_of_ble_eq_true rfl, Nat.le_of_ble_eq_true rfl⟩)) hK hN hP hD hS hA [] [0] [0] rfl rfl (by decide) (by decide) rfl (by decide) 0 9 rfl rfl rfl rfl hl.1 rfl (Nat.le_of_ble_eq_true rfl) dX9_firstBad_38 (by rw [hR]; exact ⟨Nat.le_of_ble_eq_true rfl, Nat.le_of_ble_eq_true rfl⟩) (fun H locs hP hD hS => ?_)
        refine W.eq (g2 := F0 m 41 ls [.int r15]) rfl ?_
        cases h
        exact px_eWi hA0 hQ hP hD hS hx hb hr hlocks dX9_firstBad_41
    · rw [if_pos c9] at h
      refine lv_aload_n hx hb dX9_firstBad_20 rfl (lv_at hl 0 rfl) ?_
      refine lv_iconst (v := (nI 1)) hx hb dX9_firstBad_21 (by decide) ?_
      obtain ⟨⟨r18, w19⟩, hr20, h⟩ := ob h
      dsimp only at h
      refine px_V (As := [.int (nI 1)]) (rest := []) (gs := ([gX9 E a v_now v_tried v_kept v_undos v_saved v_isSaved v_line v_lined v_text v_length v_at v_order v_told v_error v_reason v_detail v_answer (nI 0) v_mixed v_conflicts v_firstConflict] : List va_W)) (gr := ([] : List va_W)) (gc := ([gX9 E a v_now v_tried v_kept v_undos v_saved v_isSaved v_line v_lined v_text v_length v_at v_order v_told v_error v_reason v_detail v_answer (nI 0) v_mixed v_conflicts v_firstConflict] : List va_W)) (g1 := ([gX9 E a v_now v_tried v_kept v_undos v_saved v_isSaved v_line v_lined v_text v_length v_at v_order v_told v_error v_reason v_detail v_answer w19 v_mixed v_conflicts v_firstConflict] : List va_W)) (g2 := ([gX9 E a v_now v_tried v_kept v_undos v_saved v_isSaved v_line v_lined v_text v_length v_at v_order v_told v_error v_reason v_detail v_answer w19 v_mixed v_conflicts v_firstConflict] : List va_W)) ⟨hx, hb, hml, hown, hts⟩ (c9_raises l E a  ((nI 1)) (v_now) (v_tried) (v_kept) (v_undos) (v_saved) (v_isSaved) (v_line) (v_lined) (v_text) (v_length) (v_at) (v_order) (v_told) (v_error) (v_reason) (v_detail) (v_answer) ((nI 0)) (v_mixed) (v_conflicts) (v_firstConflict) r18 w19 hr20) (cwV 1 hts (ws_v q1320 q1322 q28 q68 q1323) rfl rfl rfl hdV_X9_raises (by rw [hR]; exact ⟨Nat.le_of_ble_eq_true rfl, Nat.le_of_ble_eq_true rfl⟩)) hK hN hP hD hS hA [] [0] [0] rfl rfl (by decide) (by decide) rfl (by decide) 0 9 rfl rfl rfl rfl hl.1 rfl (Nat.le_of_ble_eq_true rfl) dX9_firstBad_22 (by rw [hR]; exact ⟨Nat.le_of_ble_eq_true rfl, Nat.le_of_ble_eq_true rfl⟩) (fun H locs hP hD hS => ?_)
      refine W.eq (g2 := F0 m 25 ls [.int r18]) rfl ?_
      cases h
      exact px_eWi hA0 hQ hP hD hS hx hb hr hlocks dX9_firstBad_25
def f9_blame_L32 (x1 : Int32) (x2 : Int32) (v_now : AI) : Nat → Int32 → Int32 → Option (Int32 × Int32)
  | 0, _, _ => none
  | n + 1, x3, v_thrown => (if x3 ≤ 0 then (some (x3, v_thrown)) else ((f9_has (x3) (x2) (v_now)).bind fun r16 => ((f9_of (x3) ((nI 1)) (v_now)).bind fun r18 => ((f9_has (r18) (x2) (v_now)).bind fun r20 => (if r16 = r20 then ((f9_of (x3) ((nI 1)) (v_now)).bind fun r23 => (f9_blame_L32 x1 x2 v_now n (r23) (v_thrown))) else (some (x3, v_thrown)))))))
def f9_blame (x1 : Int32) (x2 : Int32) (v_now : AI) (v_thrown : Int32) : Option (Int32 × Int32) := ((f9_isBranch (x1) (v_now)).bind fun r1 => (if (b2i r1) = 0 then ((f9_raises ((nI 1)) ((nI 0))).bind fun (r4, w5) => (some (r4, w5))) else ((f9_isKind (x2)).bind fun r7 => (if (b2i r7) = 0 then ((f9_raises ((nI 1)) ((nI 0))).bind fun (r12, w13) => (some (r12, w13))) else ((f9_top (x1) (v_now)).bind fun r10 => (f9_blame_L32 x1 x2 v_now fuel (r10) ((nI 0))))))))
set_option maxHeartbeats 4000000 in
set_option maxRecDepth 100000 in
theorem c9_blame (l : Launch) (E : PE) (a : Nat → Nat)  (x1 : Int32) (x2 : Int32) (v_now : AI) (v_tried : AI) (v_kept : AI) (v_undos : Int32) (v_saved : AI) (v_isSaved : Int32) (v_line : AI) (v_lined : Int32) (v_text : AI) (v_length : Int32) (v_at : Int32) (v_order : Int32) (v_told : AI) (v_error : Int32) (v_reason : Int32) (v_detail : Int32) (v_answer : Int32) (v_thrown : Int32) (v_mixed : AI) (v_conflicts : Int32) (v_firstConflict : Int32) (r : Int32) (z_this_thrown : Int32) (h : f9_blame x1 x2 v_now v_thrown = some (r, z_this_thrown)) : MW l yX9_blame cX9_blame 4 (some .int) { frames := 2, cells := 0, slots := 0, locals := 44 } E [.ref (a 0), .int x1, .int x2] ([gX9 E a v_now v_tried v_kept v_undos v_saved v_isSaved v_line v_lined v_text v_length v_at v_order v_told v_error v_reason v_detail v_answer v_thrown v_mixed v_conflicts v_firstConflict] : List va_W).flatten 0 0 (some (.int r)) ([gX9 E a v_now v_tried v_kept v_undos v_saved v_isSaved v_line v_lined v_text v_length v_at v_order v_told v_error v_reason v_detail v_answer z_this_thrown v_mixed v_conflicts v_firstConflict] : List va_W).flatten := by
  refine px_startW (by decide +kernel) (Nat.le_of_ble_eq_true rfl) ?_
  intro p e s m args below meth c R Q A ls hC hA0 hQ
  obtain ⟨hx, hb, hr, hml, hts, hown, hlocks, hR, hK, hN, hP, hD, hA, hl, hin⟩ := hC
  have hl : lv_has ls 4 [(0, .ref (a 0)), (1, .int x1), (2, .int x2)] := hl
  suffices key : ∀ (H : Heap) (locs : List Loc), va_P E.1 vwCl ([gX9 E a v_now v_tried v_kept v_undos v_saved v_isSaved v_line v_lined v_text v_length v_at v_order v_told v_error v_reason v_detail v_answer v_thrown v_mixed v_conflicts v_firstConflict] : List va_W).flatten H → va_S A s.heap H locs → W p l e R s m args below meth c H locs 0 0 Q (F0 m 0 ls []) from key s.heap [] hP va_S.rf
  unfold f9_blame at h
  have L32 : ∀ (n : Nat) (x3 : Int32) (v_thrown : Int32) (H : Heap) (locs : List Loc) (ls : Array Slot), va_P E.1 vwCl ([gX9 E a v_now v_tried v_kept v_undos v_saved v_isSaved v_line v_lined v_text v_length v_at v_order v_told v_error v_reason v_detail v_answer v_thrown v_mixed v_conflicts v_firstConflict] : List va_W).flatten H → va_D A ([gX9 E a v_now v_tried v_kept v_undos v_saved v_isSaved v_line v_lined v_text v_length v_at v_order v_told v_error v_reason v_detail v_answer v_thrown v_mixed v_conflicts v_firstConflict] : List va_W).flatten → va_S A s.heap H locs → lv_has ls 4 [(0, .ref (a 0)), (2, .int x2), (3, .int x3)] → f9_blame_L32 x1 x2 v_now n x3 v_thrown = some (r, z_this_thrown) → W p l e R s m args below meth c H locs 0 0 Q (F0 m 32 ls []) := by
    intro n
    induction n with
    | zero =>
      intro x3 v_thrown H locs ls hP hD hS hl h
      unfold f9_blame_L32 at h; cases h
    | succ n ih =>
      intro x3 v_thrown H locs ls hP hD hS hl h
      unfold f9_blame_L32 at h
      refine lv_iload_n hx hb dX9_blame_32 rfl (lv_at hl 2 rfl) ?_
      refine lv_if_le (tgt := 66) hx hb dX9_blame_33 (by decide) (fun c15 => ?_) (fun c15 => ?_)
      · rw [if_pos c15] at h
        refine lv_iload_n hx hb dX9_blame_66 rfl (lv_at hl 2 rfl) ?_
        cases h
        exact px_eWi hA0 hQ hP hD hS hx hb hr hlocks dX9_blame_67
      · rw [if_neg c15] at h
        refine lv_aload_n hx hb dX9_blame_36 rfl (lv_at hl 0 rfl) ?_
        refine lv_iload_n hx hb dX9_blame_37 rfl (lv_at hl 2 rfl) ?_
        refine lv_iload_n hx hb dX9_blame_38 rfl (lv_at hl 1 rfl) ?_
        obtain ⟨r16, hr17, h⟩ := ob h
        refine px_Vp (As := [.int x3, .int x2]) (rest := []) (gs := ([gX9 E a v_now v_tried v_kept v_undos v_saved v_isSaved v_line v_lined v_text v_length v_at v_order v_told v_error v_reason v_detail v_answer v_thrown v_mixed v_conflicts v_firstConflict] : List va_W)) (gc := ([gX9 E a v_now v_tried v_kept v_undos v_saved v_isSaved v_line v_lined v_text v_length v_at v_order v_told v_error v_reason v_detail v_answer v_thrown v_mixed v_conflicts v_firstConflict] : List va_W)) ⟨hx, hb, hml, hown, hts⟩ (c9_has l E a  (x3) (x2) (v_now) (v_tried) (v_kept) (v_undos) (v_saved) (v_isSaved) (v_line) (v_lined) (v_text) (v_length) (v_at) (v_order) (v_told) (v_error) (v_reason) (v_detail) (v_answer) (v_thrown) (v_mixed) (v_conflicts) (v_firstConflict) r16 hr17) (cwV 2 hts (ws_v q1292 q1294 q21 q68 q1295) rfl rfl rfl hdV_X9_has (by rw [hR]; exact ⟨Nat.le_of_ble_eq_true rfl, Nat.le_of_ble_eq_true rfl⟩)) hK hN hP hD [0] rfl (by decide) 0 9 rfl rfl rfl rfl hl.1 rfl (Nat.le_of_ble_eq_true rfl) dX9_blame_39 (by rw [hR]; exact ⟨Nat.le_of_ble_eq_true rfl, Nat.le_of_ble_eq_true rfl⟩) ?_
        refine W.eq (g2 := F0 m 42 ls [.int r16]) rfl ?_
        refine lv_aload_n hx hb dX9_blame_42 rfl (lv_at hl 0 rfl) ?_
        refine lv_aload_n hx hb dX9_blame_43 rfl (lv_at hl 0 rfl) ?_
        refine lv_iload_n hx hb dX9_blame_44 rfl (lv_at hl 2 rfl) ?_
        refine lv_iconst (v := (nI 1)) hx hb dX9_blame_45 (by decide) ?_
        obtain ⟨r18, hr19, h⟩ := ob h
        refine px_Vp (As := [.int x3, .int (nI 1)]) (rest := [.ref (a 0), .int r16]) (gs := ([gX9 E a v_now v_tried v_kept v_undos v_saved v_isSaved v_line v_lined v_text v_length v_at v_order v_told v_error v_reason v_detail v_answer v_thrown v_mixed v_conflicts v_firstConflict] : List va_W)) (gc := ([gX9 E a v_now v_tried v_kept v_undos v_saved v_isSaved v_line v_lined v_text v_length v_at v_order v_told v_error v_reason v_detail v_answer v_thrown v_mixed v_conflicts v_firstConflict] : List va_W)) ⟨hx, hb, hml, hown, hts⟩ (c9_of l E a  (x3) ((nI 1)) (v_now) (v_tried) (v_kept) (v_undos) (v_saved) (v_isSaved) (v_line) (v_lined) (v_text) (v_length) (v_at) (v_order) (v_told) (v_error) (v_reason) (v_detail) (v_answer) (v_thrown) (v_mixed) (v_conflicts) (v_firstConflict) r18 hr19) (cwV 2 hts (ws_v q1296 q1298 q22 q68 q1299) rfl rfl rfl hdV_X9_of (by rw [hR]; exact ⟨Nat.le_of_ble_eq_true rfl, Nat.le_of_ble_eq_true rfl⟩)) hK hN hP hD [0] rfl (by decide) 0 9 rfl rfl rfl rfl hl.1 rfl (Nat.le_of_ble_eq_true rfl) dX9_blame_46 (by rw [hR]; exact ⟨Nat.le_of_ble_eq_true rfl, Nat.le_of_ble_eq_true rfl⟩) ?_
        refine W.eq (g2 := F0 m 49 ls [.int r18, .ref (a 0), .int r16]) rfl ?_
        refine lv_iload_n hx hb dX9_blame_49 rfl (lv_at hl 1 rfl) ?_
        obtain ⟨r20, hr21, h⟩ := ob h
        refine px_Vp (As := [.int r18, .int x2]) (rest := [.int r16]) (gs := ([gX9 E a v_now v_tried v_kept v_undos v_saved v_isSaved v_line v_lined v_text v_length v_at v_order v_told v_error v_reason v_detail v_answer v_thrown v_mixed v_conflicts v_firstConflict] : List va_W)) (gc := ([gX9 E a v_now v_tried v_kept v_undos v_saved v_isSaved v_line v_lined v_text v_length v_at v_order v_told v_error v_reason v_detail v_answer v_thrown v_mixed v_conflicts v_firstConflict] : List va_W)) ⟨hx, hb, hml, hown, hts⟩ (c9_has l E a  (r18) (x2) (v_now) (v_tried) (v_kept) (v_undos) (v_saved) (v_isSaved) (v_line) (v_lined) (v_text) (v_length) (v_at) (v_order) (v_told) (v_error) (v_reason) (v_detail) (v_answer) (v_thrown) (v_mixed) (v_conflicts) (v_firstConflict) r20 hr21) (cwV 2 hts (ws_v q1292 q1294 q21 q68 q1295) rfl rfl rfl hdV_X9_has (by rw [hR]; exact ⟨Nat.le_of_ble_eq_true rfl, Nat.le_of_ble_eq_true rfl⟩)) hK hN hP hD [0] rfl (by decide) 0 9 rfl rfl rfl rfl hl.1 rfl (Nat.le_of_ble_eq_true rfl) dX9_blame_50 (by rw [hR]; exact ⟨Nat.le_of_ble_eq_true rfl, Nat.le_of_ble_eq_true rfl⟩) ?_
        refine W.eq (g2 := F0 m 53 ls [.int r20, .int r16]) rfl ?_
        refine lv_icmp_ne (tgt := 66) hx hb dX9_blame_53 (by decide) (fun c22 => ?_) (fun c22 => ?_)
        · rw [if_neg c22] at h
          refine lv_iload_n hx hb dX9_blame_66 rfl (lv_at hl 2 rfl) ?_
          cases h
          exact px_eWi hA0 hQ hP hD hS hx hb hr hlocks dX9_blame_67
        · rw [if_pos c22] at h
          refine lv_aload_n hx hb dX9_blame_56 rfl (lv_at hl 0 rfl) ?_
          refine lv_iload_n hx hb dX9_blame_57 rfl (lv_at hl 2 rfl) ?_
          refine lv_iconst (v := (nI 1)) hx hb dX9_blame_58 (by decide) ?_
          obtain ⟨r23, hr24, h⟩ := ob h
          refine px_Vp (As := [.int x3, .int (nI 1)]) (rest := []) (gs := ([gX9 E a v_now v_tried v_kept v_undos v_saved v_isSaved v_line v_lined v_text v_length v_at v_order v_told v_error v_reason v_detail v_answer v_thrown v_mixed v_conflicts v_firstConflict] : List va_W)) (gc := ([gX9 E a v_now v_tried v_kept v_undos v_saved v_isSaved v_line v_lined v_text v_length v_at v_order v_told v_error v_reason v_detail v_answer v_thrown v_mixed v_conflicts v_firstConflict] : List va_W)) ⟨hx, hb, hml, hown, hts⟩ (c9_of l E a  (x3) ((nI 1)) (v_now) (v_tried) (v_kept) (v_undos) (v_saved) (v_isSaved) (v_line) (v_lined) (v_text) (v_length) (v_at) (v_order) (v_told) (v_error) (v_reason) (v_detail) (v_answer) (v_thrown) (v_mixed) (v_conflicts) (v_firstConflict) r23 hr24) (cwV 2 hts (ws_v q1296 q1298 q22 q68 q1299) rfl rfl rfl hdV_X9_of (by rw [hR]; exact ⟨Nat.le_of_ble_eq_true rfl, Nat.le_of_ble_eq_true rfl⟩)) hK hN hP hD [0] rfl (by decide) 0 9 rfl rfl rfl rfl hl.1 rfl (Nat.le_of_ble_eq_true rfl) dX9_blame_59 (by rw [hR]; exact ⟨Nat.le_of_ble_eq_true rfl, Nat.le_of_ble_eq_true rfl⟩) ?_
          refine W.eq (g2 := F0 m 62 ls [.int r23]) rfl ?_
          refine lv_istore_n (lv' := [(3, .int r23), (0, .ref (a 0)), (2, .int x2)]) hx hb dX9_blame_62 rfl hl (by decide) rfl (fun ls hl => ?_)
          refine lv_goto (tgt := 32) hx hb dX9_blame_63 (by decide) ?_
          exact ih (r23) (v_thrown) H locs ls hP hD hS (lv_sub hl [1, 2, 0] rfl) h
  intro H locs hP hS
  refine lv_aload_n hx hb dX9_blame_0 rfl (lv_at hl 0 rfl) ?_
  refine lv_iconst (v := (nI 0)) hx hb dX9_blame_1 (by decide) ?_
  refine va_put (D := E.1) (ci := 9) (v := .int (nI 0)) (ty := .int) (C := RX9) (T := TX9) (N := 21) hx hb hts iX9 tyX9 tyX9_ok nmX9 hown hK hP hD hS 0 rfl rfl 17 (by decide) (hts _ q1215) (fun _ h9 => h9) rfl (tyX9_ok 17 (by decide)) rfl rfl (Nat.le_of_ble_eq_true rfl) dX9_blame_2 (fun H locs hP hD hS => ?_)
  have hP : va_P E.1 vwCl ([gX9 E a v_now v_tried v_kept v_undos v_saved v_isSaved v_line v_lined v_text v_length v_at v_order v_told v_error v_reason v_detail v_answer (nI 0) v_mixed v_conflicts v_firstConflict] : List va_W).flatten H := hP
  have hD : va_D A ([gX9 E a v_now v_tried v_kept v_undos v_saved v_isSaved v_line v_lined v_text v_length v_at v_order v_told v_error v_reason v_detail v_answer (nI 0) v_mixed v_conflicts v_firstConflict] : List va_W).flatten := hD
  refine lv_aload_n hx hb dX9_blame_5 rfl (lv_at hl 0 rfl) ?_
  refine lv_iload_n hx hb dX9_blame_6 rfl (lv_at hl 1 rfl) ?_
  obtain ⟨r1, hr2, h⟩ := ob h
  refine px_Vp (As := [.int x1]) (rest := []) (gs := ([gX9 E a v_now v_tried v_kept v_undos v_saved v_isSaved v_line v_lined v_text v_length v_at v_order v_told v_error v_reason v_detail v_answer (nI 0) v_mixed v_conflicts v_firstConflict] : List va_W)) (gc := ([gX9 E a v_now v_tried v_kept v_undos v_saved v_isSaved v_line v_lined v_text v_length v_at v_order v_told v_error v_reason v_detail v_answer (nI 0) v_mixed v_conflicts v_firstConflict] : List va_W)) ⟨hx, hb, hml, hown, hts⟩ (c9_isBranch l E a  (x1) (v_now) (v_tried) (v_kept) (v_undos) (v_saved) (v_isSaved) (v_line) (v_lined) (v_text) (v_length) (v_at) (v_order) (v_told) (v_error) (v_reason) (v_detail) (v_answer) ((nI 0)) (v_mixed) (v_conflicts) (v_firstConflict) r1 hr2) (cwV 1 hts (ws_v q1278 q1280 q19 q68 q1281) rfl rfl rfl hdV_X9_isBranch (by rw [hR]; exact ⟨Nat.le_of_ble_eq_true rfl, Nat.le_of_ble_eq_true rfl⟩)) hK hN hP hD [0] rfl (by decide) 0 9 rfl rfl rfl rfl hl.1 rfl (Nat.le_of_ble_eq_true rfl) dX9_blame_7 (by rw [hR]; exact ⟨Nat.le_of_ble_eq_true rfl, Nat.le_of_ble_eq_true rfl⟩) ?_
  refine W.eq (g2 := F0 m 10 ls [.int (b2i r1)]) rfl ?_
  refine lv_if_eq (tgt := 20) hx hb dX9_blame_10 (by decide) (fun c3 => ?_) (fun c3 => ?_)
  · rw [if_pos c3] at h
    refine lv_aload_n hx hb dX9_blame_20 rfl (lv_at hl 0 rfl) ?_
    refine lv_iconst (v := (nI 1)) hx hb dX9_blame_21 (by decide) ?_
    obtain ⟨⟨r4, w5⟩, hr6, h⟩ := ob h
    dsimp only at h
    refine px_V (As := [.int (nI 1)]) (rest := []) (gs := ([gX9 E a v_now v_tried v_kept v_undos v_saved v_isSaved v_line v_lined v_text v_length v_at v_order v_told v_error v_reason v_detail v_answer (nI 0) v_mixed v_conflicts v_firstConflict] : List va_W)) (gr := ([] : List va_W)) (gc := ([gX9 E a v_now v_tried v_kept v_undos v_saved v_isSaved v_line v_lined v_text v_length v_at v_order v_told v_error v_reason v_detail v_answer (nI 0) v_mixed v_conflicts v_firstConflict] : List va_W)) (g1 := ([gX9 E a v_now v_tried v_kept v_undos v_saved v_isSaved v_line v_lined v_text v_length v_at v_order v_told v_error v_reason v_detail v_answer w5 v_mixed v_conflicts v_firstConflict] : List va_W)) (g2 := ([gX9 E a v_now v_tried v_kept v_undos v_saved v_isSaved v_line v_lined v_text v_length v_at v_order v_told v_error v_reason v_detail v_answer w5 v_mixed v_conflicts v_firstConflict] : List va_W)) ⟨hx, hb, hml, hown, hts⟩ (c9_raises l E a  ((nI 1)) (v_now) (v_tried) (v_kept) (v_undos) (v_saved) (v_isSaved) (v_line) (v_lined) (v_text) (v_length) (v_at) (v_order) (v_told) (v_error) (v_reason) (v_detail) (v_answer) ((nI 0)) (v_mixed) (v_conflicts) (v_firstConflict) r4 w5 hr6) (cwV 1 hts (ws_v q1320 q1322 q28 q68 q1323) rfl rfl rfl hdV_X9_raises (by rw [hR]; exact ⟨Nat.le_of_ble_eq_true rfl, Nat.le_of_ble_eq_true rfl⟩)) hK hN hP hD hS hA [] [0] [0] rfl rfl (by decide) (by decide) rfl (by decide) 0 9 rfl rfl rfl rfl hl.1 rfl (Nat.le_of_ble_eq_true rfl) dX9_blame_22 (by rw [hR]; exact ⟨Nat.le_of_ble_eq_true rfl, Nat.le_of_ble_eq_true rfl⟩) (fun H locs hP hD hS => ?_)
    refine W.eq (g2 := F0 m 25 ls [.int r4]) rfl ?_
    cases h
    exact px_eWi hA0 hQ hP hD hS hx hb hr hlocks dX9_blame_25
  · rw [if_neg c3] at h
    refine lv_iload_n hx hb dX9_blame_13 rfl (lv_at hl 2 rfl) ?_
    obtain ⟨r7, hr8, h⟩ := ob h
    refine px_Sp (As := [.int x2]) (rest := []) (gs := ([gX9 E a v_now v_tried v_kept v_undos v_saved v_isSaved v_line v_lined v_text v_length v_at v_order v_told v_error v_reason v_detail v_answer (nI 0) v_mixed v_conflicts v_firstConflict] : List va_W)) (gc := ([] : List va_W)) ⟨hx, hb, hml, hown, hts⟩ (c9_isKind l E   (x2)  r7 hr8) (va_cwS 1 hts (ws_s q1285 q1286 q68 q1287) rfl rfl rfl hdS_X9_isKind (by rw [hR]; exact ⟨Nat.le_of_ble_eq_true rfl, Nat.le_of_ble_eq_true rfl⟩)) hK hN hP hD [] rfl (by decide) rfl hl.1 rfl (Nat.le_of_ble_eq_true rfl) dX9_blame_14 (by rw [hR]; exact ⟨Nat.le_of_ble_eq_true rfl, Nat.le_of_ble_eq_true rfl⟩) ?_
    refine W.eq (g2 := F0 m 17 ls [.int (b2i r7)]) rfl ?_
    refine lv_if_ne (tgt := 26) hx hb dX9_blame_17 (by decide) (fun c9 => ?_) (fun c9 => ?_)
    · rw [if_neg c9] at h
      refine lv_aload_n hx hb dX9_blame_26 rfl (lv_at hl 0 rfl) ?_
      refine lv_iload_n hx hb dX9_blame_27 rfl (lv_at hl 1 rfl) ?_
      obtain ⟨r10, hr11, h⟩ := ob h
      refine px_Vp (As := [.int x1]) (rest := []) (gs := ([gX9 E a v_now v_tried v_kept v_undos v_saved v_isSaved v_line v_lined v_text v_length v_at v_order v_told v_error v_reason v_detail v_answer (nI 0) v_mixed v_conflicts v_firstConflict] : List va_W)) (gc := ([gX9 E a v_now v_tried v_kept v_undos v_saved v_isSaved v_line v_lined v_text v_length v_at v_order v_told v_error v_reason v_detail v_answer (nI 0) v_mixed v_conflicts v_firstConflict] : List va_W)) ⟨hx, hb, hml, hown, hts⟩ (c9_top l E a  (x1) (v_now) (v_tried) (v_kept) (v_undos) (v_saved) (v_isSaved) (v_line) (v_lined) (v_text) (v_length) (v_at) (v_order) (v_told) (v_error) (v_reason) (v_detail) (v_answer) ((nI 0)) (v_mixed) (v_conflicts) (v_firstConflict) r10 hr11) (cwV 1 hts (ws_v q1288 q1290 q20 q68 q1291) rfl rfl rfl hdV_X9_top (by rw [hR]; exact ⟨Nat.le_of_ble_eq_true rfl, Nat.le_of_ble_eq_true rfl⟩)) hK hN hP hD [0] rfl (by decide) 0 9 rfl rfl rfl rfl hl.1 rfl (Nat.le_of_ble_eq_true rfl) dX9_blame_28 (by rw [hR]; exact ⟨Nat.le_of_ble_eq_true rfl, Nat.le_of_ble_eq_true rfl⟩) ?_
      refine W.eq (g2 := F0 m 31 ls [.int r10]) rfl ?_
      refine lv_istore_n (lv' := [(3, .int r10), (0, .ref (a 0)), (1, .int x1), (2, .int x2)]) hx hb dX9_blame_31 rfl hl (by decide) rfl (fun ls hl => ?_)
      exact L32 fuel (r10) ((nI 0)) H locs ls hP hD hS (lv_sub hl [1, 3, 0] rfl) h
    · rw [if_pos c9] at h
      refine lv_aload_n hx hb dX9_blame_20 rfl (lv_at hl 0 rfl) ?_
      refine lv_iconst (v := (nI 1)) hx hb dX9_blame_21 (by decide) ?_
      obtain ⟨⟨r12, w13⟩, hr14, h⟩ := ob h
      dsimp only at h
      refine px_V (As := [.int (nI 1)]) (rest := []) (gs := ([gX9 E a v_now v_tried v_kept v_undos v_saved v_isSaved v_line v_lined v_text v_length v_at v_order v_told v_error v_reason v_detail v_answer (nI 0) v_mixed v_conflicts v_firstConflict] : List va_W)) (gr := ([] : List va_W)) (gc := ([gX9 E a v_now v_tried v_kept v_undos v_saved v_isSaved v_line v_lined v_text v_length v_at v_order v_told v_error v_reason v_detail v_answer (nI 0) v_mixed v_conflicts v_firstConflict] : List va_W)) (g1 := ([gX9 E a v_now v_tried v_kept v_undos v_saved v_isSaved v_line v_lined v_text v_length v_at v_order v_told v_error v_reason v_detail v_answer w13 v_mixed v_conflicts v_firstConflict] : List va_W)) (g2 := ([gX9 E a v_now v_tried v_kept v_undos v_saved v_isSaved v_line v_lined v_text v_length v_at v_order v_told v_error v_reason v_detail v_answer w13 v_mixed v_conflicts v_firstConflict] : List va_W)) ⟨hx, hb, hml, hown, hts⟩ (c9_raises l E a  ((nI 1)) (v_now) (v_tried) (v_kept) (v_undos) (v_saved) (v_isSaved) (v_line) (v_lined) (v_text) (v_length) (v_at) (v_order) (v_told) (v_error) (v_reason) (v_detail) (v_answer) ((nI 0)) (v_mixed) (v_conflicts) (v_firstConflict) r12 w13 hr14) (cwV 1 hts (ws_v q1320 q1322 q28 q68 q1323) rfl rfl rfl hdV_X9_raises (by rw [hR]; exact ⟨Nat.le_of_ble_eq_true rfl, Nat.le_of_ble_eq_true rfl⟩)) hK hN hP hD hS hA [] [0] [0] rfl rfl (by decide) (by decide) rfl (by decide) 0 9 rfl rfl rfl rfl hl.1 rfl (Nat.le_of_ble_eq_true rfl) dX9_blame_22 (by rw [hR]; exact ⟨Nat.le_of_ble_eq_true rfl, Nat.le_of_ble_eq_true rfl⟩) (fun H locs hP hD hS => ?_)
      refine W.eq (g2 := F0 m 25 ls [.int r12]) rfl ?_
      cases h
      exact px_eWi hA0 hQ hP hD hS hx hb hr hlocks dX9_blame_25
def f9_tasteOf_L7 (x1 : Int32) (v_now : AI) : Nat → UInt32 → Int32 → Int32 → Option (UInt32)
  | 0, _, _, _ => none
  | n + 1, x2, x3, x4 => (if (nI 6) ≤ x4 then (if nn32 (FP.fdiv x2 (FP.i2f ((nI 1) + x3))) = true then (some (FP.fdiv x2 (FP.i2f ((nI 1) + x3)))) else none) else ((f9_has (x1) (x4) (v_now)).bind fun r3 => (if nn32 (FP.fdiv (FP.i2f (r3 * (x4 + (nI 1)))) (1090519040 : UInt32)) = true then (if nn32 (FP.fadd x2 (FP.fdiv (FP.i2f (r3 * (x4 + (nI 1)))) (1090519040 : UInt32))) = true then ((f9_has (x1) (x4) (v_now)).bind fun r7 => (f9_tasteOf_L7 x1 v_now n ((FP.fadd x2 (FP.fdiv (FP.i2f (r3 * (x4 + (nI 1)))) (1090519040 : UInt32)))) ((x3 + r7)) ((x4 + nI 1)))) else none) else none)))
def f9_tasteOf (x1 : Int32) (v_now : AI) : Option (UInt32) := (f9_tasteOf_L7 x1 v_now fuel (FP.fconst0) ((nI 0)) ((nI 0)))
set_option maxHeartbeats 4000000 in
set_option maxRecDepth 100000 in
theorem c9_tasteOf (l : Launch) (E : PE) (a : Nat → Nat)  (x1 : Int32) (v_now : AI) (v_tried : AI) (v_kept : AI) (v_undos : Int32) (v_saved : AI) (v_isSaved : Int32) (v_line : AI) (v_lined : Int32) (v_text : AI) (v_length : Int32) (v_at : Int32) (v_order : Int32) (v_told : AI) (v_error : Int32) (v_reason : Int32) (v_detail : Int32) (v_answer : Int32) (v_thrown : Int32) (v_mixed : AI) (v_conflicts : Int32) (v_firstConflict : Int32) (r : UInt32) (h : f9_tasteOf x1 v_now = some r) : MP l yX9_tasteOf cX9_tasteOf 5 (some .float) { frames := 2, cells := 0, slots := 0, locals := 44 } E [.ref (a 0), .int x1] ([gX9 E a v_now v_tried v_kept v_undos v_saved v_isSaved v_line v_lined v_text v_length v_at v_order v_told v_error v_reason v_detail v_answer v_thrown v_mixed v_conflicts v_firstConflict] : List va_W).flatten (some (.float r)) := by
  refine px_startP (by decide +kernel) (Nat.le_of_ble_eq_true rfl) ?_
  intro p e s m args below meth c R Q A ls hC hQ
  obtain ⟨hx, hb, hr, hml, hts, hown, hlocks, hR, hK, hN, hP, hD, hA, hl, hin⟩ := hC
  have hl : lv_has ls 5 [(0, .ref (a 0)), (1, .int x1)] := hl
  unfold f9_tasteOf at h
  have L7 : ∀ (n : Nat) (x2 : UInt32) (x3 : Int32) (x4 : Int32) (ls : Array Slot), lv_has ls 5 [(0, .ref (a 0)), (1, .int x1), (2, .float x2), (3, .int x3), (4, .int x4)] → f9_tasteOf_L7 x1 v_now n x2 x3 x4 = some r → W p l e R s m args below meth c s.heap [] 0 0 Q (F0 m 7 ls []) := by
    intro n
    induction n with
    | zero =>
      intro x2 x3 x4 ls hl h
      unfold f9_tasteOf_L7 at h; cases h
    | succ n ih =>
      intro x2 x3 x4 ls hl h
      unfold f9_tasteOf_L7 at h
      refine lv_iload hx hb dX9_tasteOf_7 (lv_at hl 4 rfl) ?_
      refine lv_bipush (v := (nI 6)) hx hb dX9_tasteOf_9 (by decide) ?_
      refine lv_icmp_ge (tgt := 49) hx hb dX9_tasteOf_11 (by decide) (fun c1 => ?_) (fun c1 => ?_)
      · rw [if_pos c1] at h
        refine lv_fload_n hx hb dX9_tasteOf_49 rfl (lv_at hl 2 rfl) ?_
        refine lv_iconst (v := (nI 1)) hx hb dX9_tasteOf_50 (by decide) ?_
        refine lv_iload_n hx hb dX9_tasteOf_51 rfl (lv_at hl 3 rfl) ?_
        refine lv_iadd hx hb dX9_tasteOf_52 ?_
        refine lv_i2f hx hb dX9_tasteOf_53 ?_
        obtain ⟨i2, h⟩ := o_t h
        refine lv_fdiv hx hb dX9_tasteOf_54 (nn32_ok i2) ?_
        cases h
        exact px_ePf hQ hx hb hr hlocks dX9_tasteOf_55
      · rw [if_neg c1] at h
        refine lv_fload_n hx hb dX9_tasteOf_14 rfl (lv_at hl 2 rfl) ?_
        refine lv_aload_n hx hb dX9_tasteOf_15 rfl (lv_at hl 0 rfl) ?_
        refine lv_iload_n hx hb dX9_tasteOf_16 rfl (lv_at hl 1 rfl) ?_
        refine lv_iload hx hb dX9_tasteOf_17 (lv_at hl 4 rfl) ?_
        obtain ⟨r3, hr4, h⟩ := ob h
        refine px_Vp (As := [.int x1, .int x4]) (rest := [.float x2]) (gs := ([gX9 E a v_now v_tried v_kept v_undos v_saved v_isSaved v_line v_lined v_text v_length v_at v_order v_told v_error v_reason v_detail v_answer v_thrown v_mixed v_conflicts v_firstConflict] : List va_W)) (gc := ([gX9 E a v_now v_tried v_kept v_undos v_saved v_isSaved v_line v_lined v_text v_length v_at v_order v_told v_error v_reason v_detail v_answer v_thrown v_mixed v_conflicts v_firstConflict] : List va_W)) ⟨hx, hb, hml, hown, hts⟩ (c9_has l E a  (x1) (x4) (v_now) (v_tried) (v_kept) (v_undos) (v_saved) (v_isSaved) (v_line) (v_lined) (v_text) (v_length) (v_at) (v_order) (v_told) (v_error) (v_reason) (v_detail) (v_answer) (v_thrown) (v_mixed) (v_conflicts) (v_firstConflict) r3 hr4) (cwV 2 hts (ws_v q1292 q1294 q21 q68 q1295) rfl rfl rfl hdV_X9_has (by rw [hR]; exact ⟨Nat.le_of_ble_eq_true rfl, Nat.le_of_ble_eq_true rfl⟩)) hK hN hP hD [0] rfl (by decide) 0 9 rfl rfl rfl rfl hl.1 rfl (Nat.le_of_ble_eq_true rfl) dX9_tasteOf_19 (by rw [hR]; exact ⟨Nat.le_of_ble_eq_true rfl, Nat.le_of_ble_eq_true rfl⟩) ?_
        refine W.eq (g2 := F0 m 22 ls [.int r3, .float x2]) rfl ?_
        refine lv_iload hx hb dX9_tasteOf_22 (lv_at hl 4 rfl) ?_
        refine lv_iconst (v := (nI 1)) hx hb dX9_tasteOf_24 (by decide) ?_
        refine lv_iadd hx hb dX9_tasteOf_25 ?_
        refine lv_imul hx hb dX9_tasteOf_26 ?_
        refine lv_i2f hx hb dX9_tasteOf_27 ?_
        refine lv_ldcf (v := 1090519040) hx hb hown (hts _ q1476) dX9_tasteOf_28 ?_
        obtain ⟨i5, h⟩ := o_t h
        refine lv_fdiv hx hb dX9_tasteOf_30 (nn32_ok i5) ?_
        obtain ⟨i6, h⟩ := o_t h
        refine lv_fadd hx hb dX9_tasteOf_31 (nn32_ok i6) ?_
        refine lv_fstore_n (lv' := [(2, .float (FP.fadd x2 (FP.fdiv (FP.i2f (r3 * (x4 + (nI 1)))) (1090519040 : UInt32)))), (0, .ref (a 0)), (1, .int x1), (3, .int x3), (4, .int x4)]) hx hb dX9_tasteOf_32 rfl hl (by decide) rfl (fun ls hl => ?_)
        refine lv_iload_n hx hb dX9_tasteOf_33 rfl (lv_at hl 3 rfl) ?_
        refine lv_aload_n hx hb dX9_tasteOf_34 rfl (lv_at hl 1 rfl) ?_
        refine lv_iload_n hx hb dX9_tasteOf_35 rfl (lv_at hl 2 rfl) ?_
        refine lv_iload hx hb dX9_tasteOf_36 (lv_at hl 4 rfl) ?_
        obtain ⟨r7, hr8, h⟩ := ob h
        refine px_Vp (As := [.int x1, .int x4]) (rest := [.int x3]) (gs := ([gX9 E a v_now v_tried v_kept v_undos v_saved v_isSaved v_line v_lined v_text v_length v_at v_order v_told v_error v_reason v_detail v_answer v_thrown v_mixed v_conflicts v_firstConflict] : List va_W)) (gc := ([gX9 E a v_now v_tried v_kept v_undos v_saved v_isSaved v_line v_lined v_text v_length v_at v_order v_told v_error v_reason v_detail v_answer v_thrown v_mixed v_conflicts v_firstConflict] : List va_W)) ⟨hx, hb, hml, hown, hts⟩ (c9_has l E a  (x1) (x4) (v_now) (v_tried) (v_kept) (v_undos) (v_saved) (v_isSaved) (v_line) (v_lined) (v_text) (v_length) (v_at) (v_order) (v_told) (v_error) (v_reason) (v_detail) (v_answer) (v_thrown) (v_mixed) (v_conflicts) (v_firstConflict) r7 hr8) (cwV 2 hts (ws_v q1292 q1294 q21 q68 q1295) rfl rfl rfl hdV_X9_has (by rw [hR]; exact ⟨Nat.le_of_ble_eq_true rfl, Nat.le_of_ble_eq_true rfl⟩)) hK hN hP hD [0] rfl (by decide) 0 9 rfl rfl rfl rfl hl.1 rfl (Nat.le_of_ble_eq_true rfl) dX9_tasteOf_38 (by rw [hR]; exact ⟨Nat.le_of_ble_eq_true rfl, Nat.le_of_ble_eq_true rfl⟩) ?_
        refine W.eq (g2 := F0 m 41 ls [.int r7, .int x3]) rfl ?_
        refine lv_iadd hx hb dX9_tasteOf_41 ?_
        refine lv_istore_n (lv' := [(3, .int (x3 + r7)), (2, .float (FP.fadd x2 (FP.fdiv (FP.i2f (r3 * (x4 + (nI 1)))) (1090519040 : UInt32)))), (0, .ref (a 0)), (1, .int x1), (4, .int x4)]) hx hb dX9_tasteOf_42 rfl hl (by decide) rfl (fun ls hl => ?_)
        refine lv_iinc (v := (x4 + nI 1)) (lv' := [(4, .int (x4 + nI 1)), (3, .int (x3 + r7)), (2, .float (FP.fadd x2 (FP.fdiv (FP.i2f (r3 * (x4 + (nI 1)))) (1090519040 : UInt32)))), (0, .ref (a 0)), (1, .int x1)]) hx hb dX9_tasteOf_43 hl (k := 4) rfl rfl (by decide) rfl (fun ls hl => ?_)
        refine lv_goto (tgt := 7) hx hb dX9_tasteOf_46 (by decide) ?_
        exact ih ((FP.fadd x2 (FP.fdiv (FP.i2f (r3 * (x4 + (nI 1)))) (1090519040 : UInt32)))) ((x3 + r7)) ((x4 + nI 1)) ls (lv_sub hl [3, 4, 2, 1, 0] rfl) h
  refine lv_fconst0 hx hb dX9_tasteOf_0 ?_
  refine lv_fstore_n (lv' := [(2, .float FP.fconst0), (0, .ref (a 0)), (1, .int x1)]) hx hb dX9_tasteOf_1 rfl hl (by decide) rfl (fun ls hl => ?_)
  refine lv_iconst (v := (nI 0)) hx hb dX9_tasteOf_2 (by decide) ?_
  refine lv_istore_n (lv' := [(3, .int (nI 0)), (2, .float FP.fconst0), (0, .ref (a 0)), (1, .int x1)]) hx hb dX9_tasteOf_3 rfl hl (by decide) rfl (fun ls hl => ?_)
  refine lv_iconst (v := (nI 0)) hx hb dX9_tasteOf_4 (by decide) ?_
  refine lv_istore (lv' := [(4, .int (nI 0)), (3, .int (nI 0)), (2, .float FP.fconst0), (0, .ref (a 0)), (1, .int x1)]) hx hb dX9_tasteOf_5 hl (by decide) rfl (fun ls hl => ?_)
  exact L7 fuel (FP.fconst0) ((nI 0)) ((nI 0)) ls (lv_sub hl [3, 4, 2, 1, 0] rfl) h
def f9_taste (x1 : Int32) (v_now : AI) (v_thrown : Int32) : Option (UInt32 × Int32) := ((f9_isCommit (x1) (v_now)).bind fun r1 => (if (b2i r1) = 0 then ((f9_raises ((nI 1)) ((nI 0))).bind fun (r4, w5) => (some ((FP.i2f r4), w5))) else ((f9_tasteOf (x1) (v_now)).bind fun r7 => (some (r7, (nI 0))))))
set_option maxHeartbeats 4000000 in
set_option maxRecDepth 100000 in
theorem c9_taste (l : Launch) (E : PE) (a : Nat → Nat)  (x1 : Int32) (v_now : AI) (v_tried : AI) (v_kept : AI) (v_undos : Int32) (v_saved : AI) (v_isSaved : Int32) (v_line : AI) (v_lined : Int32) (v_text : AI) (v_length : Int32) (v_at : Int32) (v_order : Int32) (v_told : AI) (v_error : Int32) (v_reason : Int32) (v_detail : Int32) (v_answer : Int32) (v_thrown : Int32) (v_mixed : AI) (v_conflicts : Int32) (v_firstConflict : Int32) (r : UInt32) (z_this_thrown : Int32) (h : f9_taste x1 v_now v_thrown = some (r, z_this_thrown)) : MW l yX9_taste cX9_taste 2 (some .float) { frames := 3, cells := 0, slots := 0, locals := 68 } E [.ref (a 0), .int x1] ([gX9 E a v_now v_tried v_kept v_undos v_saved v_isSaved v_line v_lined v_text v_length v_at v_order v_told v_error v_reason v_detail v_answer v_thrown v_mixed v_conflicts v_firstConflict] : List va_W).flatten 0 0 (some (.float r)) ([gX9 E a v_now v_tried v_kept v_undos v_saved v_isSaved v_line v_lined v_text v_length v_at v_order v_told v_error v_reason v_detail v_answer z_this_thrown v_mixed v_conflicts v_firstConflict] : List va_W).flatten := by
  refine px_startW (by decide +kernel) (Nat.le_of_ble_eq_true rfl) ?_
  intro p e s m args below meth c R Q A ls hC hA0 hQ
  obtain ⟨hx, hb, hr, hml, hts, hown, hlocks, hR, hK, hN, hP, hD, hA, hl, hin⟩ := hC
  have hl : lv_has ls 2 [(0, .ref (a 0)), (1, .int x1)] := hl
  suffices key : ∀ (H : Heap) (locs : List Loc), va_P E.1 vwCl ([gX9 E a v_now v_tried v_kept v_undos v_saved v_isSaved v_line v_lined v_text v_length v_at v_order v_told v_error v_reason v_detail v_answer v_thrown v_mixed v_conflicts v_firstConflict] : List va_W).flatten H → va_S A s.heap H locs → W p l e R s m args below meth c H locs 0 0 Q (F0 m 0 ls []) from key s.heap [] hP va_S.rf
  unfold f9_taste at h
  intro H locs hP hS
  refine lv_aload_n hx hb dX9_taste_0 rfl (lv_at hl 0 rfl) ?_
  refine lv_iconst (v := (nI 0)) hx hb dX9_taste_1 (by decide) ?_
  refine va_put (D := E.1) (ci := 9) (v := .int (nI 0)) (ty := .int) (C := RX9) (T := TX9) (N := 21) hx hb hts iX9 tyX9 tyX9_ok nmX9 hown hK hP hD hS 0 rfl rfl 17 (by decide) (hts _ q1215) (fun _ h9 => h9) rfl (tyX9_ok 17 (by decide)) rfl rfl (Nat.le_of_ble_eq_true rfl) dX9_taste_2 (fun H locs hP hD hS => ?_)
  have hP : va_P E.1 vwCl ([gX9 E a v_now v_tried v_kept v_undos v_saved v_isSaved v_line v_lined v_text v_length v_at v_order v_told v_error v_reason v_detail v_answer (nI 0) v_mixed v_conflicts v_firstConflict] : List va_W).flatten H := hP
  have hD : va_D A ([gX9 E a v_now v_tried v_kept v_undos v_saved v_isSaved v_line v_lined v_text v_length v_at v_order v_told v_error v_reason v_detail v_answer (nI 0) v_mixed v_conflicts v_firstConflict] : List va_W).flatten := hD
  refine lv_aload_n hx hb dX9_taste_5 rfl (lv_at hl 0 rfl) ?_
  refine lv_iload_n hx hb dX9_taste_6 rfl (lv_at hl 1 rfl) ?_
  obtain ⟨r1, hr2, h⟩ := ob h
  refine px_Vp (As := [.int x1]) (rest := []) (gs := ([gX9 E a v_now v_tried v_kept v_undos v_saved v_isSaved v_line v_lined v_text v_length v_at v_order v_told v_error v_reason v_detail v_answer (nI 0) v_mixed v_conflicts v_firstConflict] : List va_W)) (gc := ([gX9 E a v_now v_tried v_kept v_undos v_saved v_isSaved v_line v_lined v_text v_length v_at v_order v_told v_error v_reason v_detail v_answer (nI 0) v_mixed v_conflicts v_firstConflict] : List va_W)) ⟨hx, hb, hml, hown, hts⟩ (c9_isCommit l E a  (x1) (v_now) (v_tried) (v_kept) (v_undos) (v_saved) (v_isSaved) (v_line) (v_lined) (v_text) (v_length) (v_at) (v_order) (v_told) (v_error) (v_reason) (v_detail) (v_answer) ((nI 0)) (v_mixed) (v_conflicts) (v_firstConflict) r1 hr2) (cwV 1 hts (ws_v q1344 q1346 q32 q68 q1347) rfl rfl rfl hdV_X9_isCommit (by rw [hR]; exact ⟨Nat.le_of_ble_eq_true rfl, Nat.le_of_ble_eq_true rfl⟩)) hK hN hP hD [0] rfl (by decide) 0 9 rfl rfl rfl rfl hl.1 rfl (Nat.le_of_ble_eq_true rfl) dX9_taste_7 (by rw [hR]; exact ⟨Nat.le_of_ble_eq_true rfl, Nat.le_of_ble_eq_true rfl⟩) ?_
  refine W.eq (g2 := F0 m 10 ls [.int (b2i r1)]) rfl ?_
  refine lv_if_eq (tgt := 21) hx hb dX9_taste_10 (by decide) (fun c3 => ?_) (fun c3 => ?_)
  · rw [if_pos c3] at h
    refine lv_aload_n hx hb dX9_taste_21 rfl (lv_at hl 0 rfl) ?_
    refine lv_iconst (v := (nI 1)) hx hb dX9_taste_22 (by decide) ?_
    obtain ⟨⟨r4, w5⟩, hr6, h⟩ := ob h
    dsimp only at h
    refine px_V (As := [.int (nI 1)]) (rest := []) (gs := ([gX9 E a v_now v_tried v_kept v_undos v_saved v_isSaved v_line v_lined v_text v_length v_at v_order v_told v_error v_reason v_detail v_answer (nI 0) v_mixed v_conflicts v_firstConflict] : List va_W)) (gr := ([] : List va_W)) (gc := ([gX9 E a v_now v_tried v_kept v_undos v_saved v_isSaved v_line v_lined v_text v_length v_at v_order v_told v_error v_reason v_detail v_answer (nI 0) v_mixed v_conflicts v_firstConflict] : List va_W)) (g1 := ([gX9 E a v_now v_tried v_kept v_undos v_saved v_isSaved v_line v_lined v_text v_length v_at v_order v_told v_error v_reason v_detail v_answer w5 v_mixed v_conflicts v_firstConflict] : List va_W)) (g2 := ([gX9 E a v_now v_tried v_kept v_undos v_saved v_isSaved v_line v_lined v_text v_length v_at v_order v_told v_error v_reason v_detail v_answer w5 v_mixed v_conflicts v_firstConflict] : List va_W)) ⟨hx, hb, hml, hown, hts⟩ (c9_raises l E a  ((nI 1)) (v_now) (v_tried) (v_kept) (v_undos) (v_saved) (v_isSaved) (v_line) (v_lined) (v_text) (v_length) (v_at) (v_order) (v_told) (v_error) (v_reason) (v_detail) (v_answer) ((nI 0)) (v_mixed) (v_conflicts) (v_firstConflict) r4 w5 hr6) (cwV 1 hts (ws_v q1320 q1322 q28 q68 q1323) rfl rfl rfl hdV_X9_raises (by rw [hR]; exact ⟨Nat.le_of_ble_eq_true rfl, Nat.le_of_ble_eq_true rfl⟩)) hK hN hP hD hS hA [] [0] [0] rfl rfl (by decide) (by decide) rfl (by decide) 0 9 rfl rfl rfl rfl hl.1 rfl (Nat.le_of_ble_eq_true rfl) dX9_taste_23 (by rw [hR]; exact ⟨Nat.le_of_ble_eq_true rfl, Nat.le_of_ble_eq_true rfl⟩) (fun H locs hP hD hS => ?_)
    refine W.eq (g2 := F0 m 26 ls [.int r4]) rfl ?_
    refine lv_i2f hx hb dX9_taste_26 ?_
    cases h
    exact px_eWf hA0 hQ hP hD hS hx hb hr hlocks dX9_taste_27
  · rw [if_neg c3] at h
    refine lv_aload_n hx hb dX9_taste_13 rfl (lv_at hl 0 rfl) ?_
    refine lv_iload_n hx hb dX9_taste_14 rfl (lv_at hl 1 rfl) ?_
    obtain ⟨r7, hr8, h⟩ := ob h
    refine px_Vp (As := [.int x1]) (rest := []) (gs := ([gX9 E a v_now v_tried v_kept v_undos v_saved v_isSaved v_line v_lined v_text v_length v_at v_order v_told v_error v_reason v_detail v_answer (nI 0) v_mixed v_conflicts v_firstConflict] : List va_W)) (gc := ([gX9 E a v_now v_tried v_kept v_undos v_saved v_isSaved v_line v_lined v_text v_length v_at v_order v_told v_error v_reason v_detail v_answer (nI 0) v_mixed v_conflicts v_firstConflict] : List va_W)) ⟨hx, hb, hml, hown, hts⟩ (c9_tasteOf l E a  (x1) (v_now) (v_tried) (v_kept) (v_undos) (v_saved) (v_isSaved) (v_line) (v_lined) (v_text) (v_length) (v_at) (v_order) (v_told) (v_error) (v_reason) (v_detail) (v_answer) ((nI 0)) (v_mixed) (v_conflicts) (v_firstConflict) r7 hr8) (cwV 1 hts (ws_v q1472 q1474 q47 q68 q1475) rfl rfl rfl hdV_X9_tasteOf (by rw [hR]; exact ⟨Nat.le_of_ble_eq_true rfl, Nat.le_of_ble_eq_true rfl⟩)) hK hN hP hD [0] rfl (by decide) 0 9 rfl rfl rfl rfl hl.1 rfl (Nat.le_of_ble_eq_true rfl) dX9_taste_15 (by rw [hR]; exact ⟨Nat.le_of_ble_eq_true rfl, Nat.le_of_ble_eq_true rfl⟩) ?_
    refine W.eq (g2 := F0 m 18 ls [.float r7]) rfl ?_
    refine lv_goto (tgt := 27) hx hb dX9_taste_18 (by decide) ?_
    cases h
    exact px_eWf hA0 hQ hP hD hS hx hb hr hlocks dX9_taste_27
def f9_tasteBits (x1 : Int32) (v_now : AI) (v_thrown : Int32) : Option (Int32 × Int32) := ((f9_isCommit (x1) (v_now)).bind fun r1 => (if (b2i r1) = 0 then ((f9_raises ((nI 1)) ((nI 0))).bind fun (r4, w5) => (some (r4, w5))) else ((f9_tasteOf (x1) (v_now)).bind fun r7 => ((fJxf58ca_floatToIntBits_5c35a (r7)).bind fun r9 => (some (r9, (nI 0)))))))
set_option maxHeartbeats 4000000 in
set_option maxRecDepth 100000 in
theorem c9_tasteBits (l : Launch) (E : PE) (a : Nat → Nat)  (x1 : Int32) (v_now : AI) (v_tried : AI) (v_kept : AI) (v_undos : Int32) (v_saved : AI) (v_isSaved : Int32) (v_line : AI) (v_lined : Int32) (v_text : AI) (v_length : Int32) (v_at : Int32) (v_order : Int32) (v_told : AI) (v_error : Int32) (v_reason : Int32) (v_detail : Int32) (v_answer : Int32) (v_thrown : Int32) (v_mixed : AI) (v_conflicts : Int32) (v_firstConflict : Int32) (r : Int32) (z_this_thrown : Int32) (h : f9_tasteBits x1 v_now v_thrown = some (r, z_this_thrown)) : MW l yX9_tasteBits cX9_tasteBits 2 (some .int) { frames := 3, cells := 0, slots := 0, locals := 68 } E [.ref (a 0), .int x1] ([gX9 E a v_now v_tried v_kept v_undos v_saved v_isSaved v_line v_lined v_text v_length v_at v_order v_told v_error v_reason v_detail v_answer v_thrown v_mixed v_conflicts v_firstConflict] : List va_W).flatten 0 0 (some (.int r)) ([gX9 E a v_now v_tried v_kept v_undos v_saved v_isSaved v_line v_lined v_text v_length v_at v_order v_told v_error v_reason v_detail v_answer z_this_thrown v_mixed v_conflicts v_firstConflict] : List va_W).flatten := by
  refine px_startW (by decide +kernel) (Nat.le_of_ble_eq_true rfl) ?_
  intro p e s m args below meth c R Q A ls hC hA0 hQ
  obtain ⟨hx, hb, hr, hml, hts, hown, hlocks, hR, hK, hN, hP, hD, hA, hl, hin⟩ := hC
  have hl : lv_has ls 2 [(0, .ref (a 0)), (1, .int x1)] := hl
  suffices key : ∀ (H : Heap) (locs : List Loc), va_P E.1 vwCl ([gX9 E a v_now v_tried v_kept v_undos v_saved v_isSaved v_line v_lined v_text v_length v_at v_order v_told v_error v_reason v_detail v_answer v_thrown v_mixed v_conflicts v_firstConflict] : List va_W).flatten H → va_S A s.heap H locs → W p l e R s m args below meth c H locs 0 0 Q (F0 m 0 ls []) from key s.heap [] hP va_S.rf
  unfold f9_tasteBits at h
  intro H locs hP hS
  refine lv_aload_n hx hb dX9_tasteBits_0 rfl (lv_at hl 0 rfl) ?_
  refine lv_iconst (v := (nI 0)) hx hb dX9_tasteBits_1 (by decide) ?_
  refine va_put (D := E.1) (ci := 9) (v := .int (nI 0)) (ty := .int) (C := RX9) (T := TX9) (N := 21) hx hb hts iX9 tyX9 tyX9_ok nmX9 hown hK hP hD hS 0 rfl rfl 17 (by decide) (hts _ q1215) (fun _ h9 => h9) rfl (tyX9_ok 17 (by decide)) rfl rfl (Nat.le_of_ble_eq_true rfl) dX9_tasteBits_2 (fun H locs hP hD hS => ?_)
  have hP : va_P E.1 vwCl ([gX9 E a v_now v_tried v_kept v_undos v_saved v_isSaved v_line v_lined v_text v_length v_at v_order v_told v_error v_reason v_detail v_answer (nI 0) v_mixed v_conflicts v_firstConflict] : List va_W).flatten H := hP
  have hD : va_D A ([gX9 E a v_now v_tried v_kept v_undos v_saved v_isSaved v_line v_lined v_text v_length v_at v_order v_told v_error v_reason v_detail v_answer (nI 0) v_mixed v_conflicts v_firstConflict] : List va_W).flatten := hD
  refine lv_aload_n hx hb dX9_tasteBits_5 rfl (lv_at hl 0 rfl) ?_
  refine lv_iload_n hx hb dX9_tasteBits_6 rfl (lv_at hl 1 rfl) ?_
  obtain ⟨r1, hr2, h⟩ := ob h
  refine px_Vp (As := [.int x1]) (rest := []) (gs := ([gX9 E a v_now v_tried v_kept v_undos v_saved v_isSaved v_line v_lined v_text v_length v_at v_order v_told v_error v_reason v_detail v_answer (nI 0) v_mixed v_conflicts v_firstConflict] : List va_W)) (gc := ([gX9 E a v_now v_tried v_kept v_undos v_saved v_isSaved v_line v_lined v_text v_length v_at v_order v_told v_error v_reason v_detail v_answer (nI 0) v_mixed v_conflicts v_firstConflict] : List va_W)) ⟨hx, hb, hml, hown, hts⟩ (c9_isCommit l E a  (x1) (v_now) (v_tried) (v_kept) (v_undos) (v_saved) (v_isSaved) (v_line) (v_lined) (v_text) (v_length) (v_at) (v_order) (v_told) (v_error) (v_reason) (v_detail) (v_answer) ((nI 0)) (v_mixed) (v_conflicts) (v_firstConflict) r1 hr2) (cwV 1 hts (ws_v q1344 q1346 q32 q68 q1347) rfl rfl rfl hdV_X9_isCommit (by rw [hR]; exact ⟨Nat.le_of_ble_eq_true rfl, Nat.le_of_ble_eq_true rfl⟩)) hK hN hP hD [0] rfl (by decide) 0 9 rfl rfl rfl rfl hl.1 rfl (Nat.le_of_ble_eq_true rfl) dX9_tasteBits_7 (by rw [hR]; exact ⟨Nat.le_of_ble_eq_true rfl, Nat.le_of_ble_eq_true rfl⟩) ?_
  refine W.eq (g2 := F0 m 10 ls [.int (b2i r1)]) rfl ?_
  refine lv_if_eq (tgt := 24) hx hb dX9_tasteBits_10 (by decide) (fun c3 => ?_) (fun c3 => ?_)
  · rw [if_pos c3] at h
    refine lv_aload_n hx hb dX9_tasteBits_24 rfl (lv_at hl 0 rfl) ?_
    refine lv_iconst (v := (nI 1)) hx hb dX9_tasteBits_25 (by decide) ?_
    obtain ⟨⟨r4, w5⟩, hr6, h⟩ := ob h
    dsimp only at h
    refine px_V (As := [.int (nI 1)]) (rest := []) (gs := ([gX9 E a v_now v_tried v_kept v_undos v_saved v_isSaved v_line v_lined v_text v_length v_at v_order v_told v_error v_reason v_detail v_answer (nI 0) v_mixed v_conflicts v_firstConflict] : List va_W)) (gr := ([] : List va_W)) (gc := ([gX9 E a v_now v_tried v_kept v_undos v_saved v_isSaved v_line v_lined v_text v_length v_at v_order v_told v_error v_reason v_detail v_answer (nI 0) v_mixed v_conflicts v_firstConflict] : List va_W)) (g1 := ([gX9 E a v_now v_tried v_kept v_undos v_saved v_isSaved v_line v_lined v_text v_length v_at v_order v_told v_error v_reason v_detail v_answer w5 v_mixed v_conflicts v_firstConflict] : List va_W)) (g2 := ([gX9 E a v_now v_tried v_kept v_undos v_saved v_isSaved v_line v_lined v_text v_length v_at v_order v_told v_error v_reason v_detail v_answer w5 v_mixed v_conflicts v_firstConflict] : List va_W)) ⟨hx, hb, hml, hown, hts⟩ (c9_raises l E a  ((nI 1)) (v_now) (v_tried) (v_kept) (v_undos) (v_saved) (v_isSaved) (v_line) (v_lined) (v_text) (v_length) (v_at) (v_order) (v_told) (v_error) (v_reason) (v_detail) (v_answer) ((nI 0)) (v_mixed) (v_conflicts) (v_firstConflict) r4 w5 hr6) (cwV 1 hts (ws_v q1320 q1322 q28 q68 q1323) rfl rfl rfl hdV_X9_raises (by rw [hR]; exact ⟨Nat.le_of_ble_eq_true rfl, Nat.le_of_ble_eq_true rfl⟩)) hK hN hP hD hS hA [] [0] [0] rfl rfl (by decide) (by decide) rfl (by decide) 0 9 rfl rfl rfl rfl hl.1 rfl (Nat.le_of_ble_eq_true rfl) dX9_tasteBits_26 (by rw [hR]; exact ⟨Nat.le_of_ble_eq_true rfl, Nat.le_of_ble_eq_true rfl⟩) (fun H locs hP hD hS => ?_)
    refine W.eq (g2 := F0 m 29 ls [.int r4]) rfl ?_
    cases h
    exact px_eWi hA0 hQ hP hD hS hx hb hr hlocks dX9_tasteBits_29
  · rw [if_neg c3] at h
    refine lv_aload_n hx hb dX9_tasteBits_13 rfl (lv_at hl 0 rfl) ?_
    refine lv_iload_n hx hb dX9_tasteBits_14 rfl (lv_at hl 1 rfl) ?_
    obtain ⟨r7, hr8, h⟩ := ob h
    refine px_Vp (As := [.int x1]) (rest := []) (gs := ([gX9 E a v_now v_tried v_kept v_undos v_saved v_isSaved v_line v_lined v_text v_length v_at v_order v_told v_error v_reason v_detail v_answer (nI 0) v_mixed v_conflicts v_firstConflict] : List va_W)) (gc := ([gX9 E a v_now v_tried v_kept v_undos v_saved v_isSaved v_line v_lined v_text v_length v_at v_order v_told v_error v_reason v_detail v_answer (nI 0) v_mixed v_conflicts v_firstConflict] : List va_W)) ⟨hx, hb, hml, hown, hts⟩ (c9_tasteOf l E a  (x1) (v_now) (v_tried) (v_kept) (v_undos) (v_saved) (v_isSaved) (v_line) (v_lined) (v_text) (v_length) (v_at) (v_order) (v_told) (v_error) (v_reason) (v_detail) (v_answer) ((nI 0)) (v_mixed) (v_conflicts) (v_firstConflict) r7 hr8) (cwV 1 hts (ws_v q1472 q1474 q47 q68 q1475) rfl rfl rfl hdV_X9_tasteOf (by rw [hR]; exact ⟨Nat.le_of_ble_eq_true rfl, Nat.le_of_ble_eq_true rfl⟩)) hK hN hP hD [0] rfl (by decide) 0 9 rfl rfl rfl rfl hl.1 rfl (Nat.le_of_ble_eq_true rfl) dX9_tasteBits_15 (by rw [hR]; exact ⟨Nat.le_of_ble_eq_true rfl, Nat.le_of_ble_eq_true rfl⟩) ?_
    refine W.eq (g2 := F0 m 18 ls [.float r7]) rfl ?_
    obtain ⟨r9, hr10, h⟩ := ob h
    refine px_Sp (As := [.float r7]) (rest := []) (gs := ([gX9 E a v_now v_tried v_kept v_undos v_saved v_isSaved v_line v_lined v_text v_length v_at v_order v_told v_error v_reason v_detail v_answer (nI 0) v_mixed v_conflicts v_firstConflict] : List va_W)) (gc := ([] : List va_W)) ⟨hx, hb, hml, hown, hts⟩ (kJxf58ca_floatToIntBits_5c35a l E   (r7)  r9 hr10) (va_cwS 1 hts (ws_s q1481 q1482 q80 q1483) rfl rfl rfl hdS_Jxf58ca_floatToIntBits_5c35a (by rw [hR]; exact ⟨Nat.le_of_ble_eq_true rfl, Nat.le_of_ble_eq_true rfl⟩)) hK hN hP hD [] rfl (by decide) rfl hl.1 rfl (Nat.le_of_ble_eq_true rfl) dX9_tasteBits_18 (by rw [hR]; exact ⟨Nat.le_of_ble_eq_true rfl, Nat.le_of_ble_eq_true rfl⟩) ?_
    refine W.eq (g2 := F0 m 21 ls [.int r9]) rfl ?_
    refine lv_goto (tgt := 29) hx hb dX9_tasteBits_21 (by decide) ?_
    cases h
    exact px_eWi hA0 hQ hP hD hS hx hb hr hlocks dX9_tasteBits_29
def f9_tastiest_L27 (x1 : Int32) (v_now : AI) : Nat → Int32 → Int32 → Int32 → Option (Int32 × Int32)
  | 0, _, _, _ => none
  | n + 1, x2, x3, v_thrown => (if x3 ≤ 0 then (some (x2, v_thrown)) else ((f9_of (x3) ((nI 1)) (v_now)).bind fun r10 => ((f9_tasteOf (r10) (v_now)).bind fun r12 => ((f9_tasteOf (x2) (v_now)).bind fun r14 => (if (Op.cmpValue (FP.fcmp r12 r14) CmpOp.l) < 0 then ((f9_of (x3) ((nI 1)) (v_now)).bind fun r17 => (f9_tastiest_L27 x1 v_now n (x2) (r17) (v_thrown))) else ((f9_of (x3) ((nI 1)) (v_now)).bind fun r19 => ((f9_of (x3) ((nI 1)) (v_now)).bind fun r21 => (f9_tastiest_L27 x1 v_now n (r19) (r21) (v_thrown)))))))))
def f9_tastiest (x1 : Int32) (v_now : AI) (v_thrown : Int32) : Option (Int32 × Int32) := ((f9_isBranch (x1) (v_now)).bind fun r1 => (if (b2i r1) = 0 then ((f9_raises ((nI 1)) ((nI 0))).bind fun (r6, w7) => (some (r6, w7))) else ((f9_top (x1) (v_now)).bind fun r4 => (f9_tastiest_L27 x1 v_now fuel (r4) (r4) ((nI 0))))))
set_option maxHeartbeats 4000000 in
set_option maxRecDepth 100000 in
theorem c9_tastiest (l : Launch) (E : PE) (a : Nat → Nat)  (x1 : Int32) (v_now : AI) (v_tried : AI) (v_kept : AI) (v_undos : Int32) (v_saved : AI) (v_isSaved : Int32) (v_line : AI) (v_lined : Int32) (v_text : AI) (v_length : Int32) (v_at : Int32) (v_order : Int32) (v_told : AI) (v_error : Int32) (v_reason : Int32) (v_detail : Int32) (v_answer : Int32) (v_thrown : Int32) (v_mixed : AI) (v_conflicts : Int32) (v_firstConflict : Int32) (r : Int32) (z_this_thrown : Int32) (h : f9_tastiest x1 v_now v_thrown = some (r, z_this_thrown)) : MW l yX9_tastiest cX9_tastiest 4 (some .int) { frames := 3, cells := 0, slots := 0, locals := 68 } E [.ref (a 0), .int x1] ([gX9 E a v_now v_tried v_kept v_undos v_saved v_isSaved v_line v_lined v_text v_length v_at v_order v_told v_error v_reason v_detail v_answer v_thrown v_mixed v_conflicts v_firstConflict] : List va_W).flatten 0 0 (some (.int r)) ([gX9 E a v_now v_tried v_kept v_undos v_saved v_isSaved v_line v_lined v_text v_length v_at v_order v_told v_error v_reason v_detail v_answer z_this_thrown v_mixed v_conflicts v_firstConflict] : List va_W).flatten := by
  refine px_startW (by decide +kernel) (Nat.le_of_ble_eq_true rfl) ?_
  intro p e s m args below meth c R Q A ls hC hA0 hQ
  obtain ⟨hx, hb, hr, hml, hts, hown, hlocks, hR, hK, hN, hP, hD, hA, hl, hin⟩ := hC
  have hl : lv_has ls 4 [(0, .ref (a 0)), (1, .int x1)] := hl
  suffices key : ∀ (H : Heap) (locs : List Loc), va_P E.1 vwCl ([gX9 E a v_now v_tried v_kept v_undos v_saved v_isSaved v_line v_lined v_text v_length v_at v_order v_told v_error v_reason v_detail v_answer v_thrown v_mixed v_conflicts v_firstConflict] : List va_W).flatten H → va_S A s.heap H locs → W p l e R s m args below meth c H locs 0 0 Q (F0 m 0 ls []) from key s.heap [] hP va_S.rf
  unfold f9_tastiest at h
  have L27 : ∀ (n : Nat) (x2 : Int32) (x3 : Int32) (v_thrown : Int32) (H : Heap) (locs : List Loc) (ls : Array Slot), va_P E.1 vwCl ([gX9 E a v_now v_tried v_kept v_undos v_saved v_isSaved v_line v_lined v_text v_length v_at v_order v_told v_error v_reason v_detail v_answer v_thrown v_mixed v_conflicts v_firstConflict] : List va_W).flatten H → va_D A ([gX9 E a v_now v_tried v_kept v_undos v_saved v_isSaved v_line v_lined v_text v_length v_at v_order v_told v_error v_reason v_detail v_answer v_thrown v_mixed v_conflicts v_firstConflict] : List va_W).flatten → va_S A s.heap H locs → lv_has ls 4 [(0, .ref (a 0)), (2, .int x2), (3, .int x3)] → f9_tastiest_L27 x1 v_now n x2 x3 v_thrown = some (r, z_this_thrown) → W p l e R s m args below meth c H locs 0 0 Q (F0 m 27 ls []) := by
    intro n
    induction n with
    | zero =>
      intro x2 x3 v_thrown H locs ls hP hD hS hl h
      unfold f9_tastiest_L27 at h; cases h
    | succ n ih =>
      intro x2 x3 v_thrown H locs ls hP hD hS hl h
      unfold f9_tastiest_L27 at h
      refine lv_iload_n hx hb dX9_tastiest_27 rfl (lv_at hl 2 rfl) ?_
      refine lv_if_le (tgt := 67) hx hb dX9_tastiest_28 (by decide) (fun c9 => ?_) (fun c9 => ?_)
      · rw [if_pos c9] at h
        refine lv_iload_n hx hb dX9_tastiest_67 rfl (lv_at hl 1 rfl) ?_
        cases h
        exact px_eWi hA0 hQ hP hD hS hx hb hr hlocks dX9_tastiest_68
      · rw [if_neg c9] at h
        refine lv_aload_n hx hb dX9_tastiest_31 rfl (lv_at hl 0 rfl) ?_
        refine lv_aload_n hx hb dX9_tastiest_32 rfl (lv_at hl 0 rfl) ?_
        refine lv_iload_n hx hb dX9_tastiest_33 rfl (lv_at hl 2 rfl) ?_
        refine lv_iconst (v := (nI 1)) hx hb dX9_tastiest_34 (by decide) ?_
        obtain ⟨r10, hr11, h⟩ := ob h
        refine px_Vp (As := [.int x3, .int (nI 1)]) (rest := [.ref (a 0)]) (gs := ([gX9 E a v_now v_tried v_kept v_undos v_saved v_isSaved v_line v_lined v_text v_length v_at v_order v_told v_error v_reason v_detail v_answer v_thrown v_mixed v_conflicts v_firstConflict] : List va_W)) (gc := ([gX9 E a v_now v_tried v_kept v_undos v_saved v_isSaved v_line v_lined v_text v_length v_at v_order v_told v_error v_reason v_detail v_answer v_thrown v_mixed v_conflicts v_firstConflict] : List va_W)) ⟨hx, hb, hml, hown, hts⟩ (c9_of l E a  (x3) ((nI 1)) (v_now) (v_tried) (v_kept) (v_undos) (v_saved) (v_isSaved) (v_line) (v_lined) (v_text) (v_length) (v_at) (v_order) (v_told) (v_error) (v_reason) (v_detail) (v_answer) (v_thrown) (v_mixed) (v_conflicts) (v_firstConflict) r10 hr11) (cwV 2 hts (ws_v q1296 q1298 q22 q68 q1299) rfl rfl rfl hdV_X9_of (by rw [hR]; exact ⟨Nat.le_of_ble_eq_true rfl, Nat.le_of_ble_eq_true rfl⟩)) hK hN hP hD [0] rfl (by decide) 0 9 rfl rfl rfl rfl hl.1 rfl (Nat.le_of_ble_eq_true rfl) dX9_tastiest_35 (by rw [hR]; exact ⟨Nat.le_of_ble_eq_true rfl, Nat.le_of_ble_eq_true rfl⟩) ?_
        refine W.eq (g2 := F0 m 38 ls [.int r10, .ref (a 0)]) rfl ?_
        obtain ⟨r12, hr13, h⟩ := ob h
        refine px_Vp (As := [.int r10]) (rest := []) (gs := ([gX9 E a v_now v_tried v_kept v_undos v_saved v_isSaved v_line v_lined v_text v_length v_at v_order v_told v_error v_reason v_detail v_answer v_thrown v_mixed v_conflicts v_firstConflict] : List va_W)) (gc := ([gX9 E a v_now v_tried v_kept v_undos v_saved v_isSaved v_line v_lined v_text v_length v_at v_order v_told v_error v_reason v_detail v_answer v_thrown v_mixed v_conflicts v_firstConflict] : List va_W)) ⟨hx, hb, hml, hown, hts⟩ (c9_tasteOf l E a  (r10) (v_now) (v_tried) (v_kept) (v_undos) (v_saved) (v_isSaved) (v_line) (v_lined) (v_text) (v_length) (v_at) (v_order) (v_told) (v_error) (v_reason) (v_detail) (v_answer) (v_thrown) (v_mixed) (v_conflicts) (v_firstConflict) r12 hr13) (cwV 1 hts (ws_v q1472 q1474 q47 q68 q1475) rfl rfl rfl hdV_X9_tasteOf (by rw [hR]; exact ⟨Nat.le_of_ble_eq_true rfl, Nat.le_of_ble_eq_true rfl⟩)) hK hN hP hD [0] rfl (by decide) 0 9 rfl rfl rfl rfl hl.1 rfl (Nat.le_of_ble_eq_true rfl) dX9_tastiest_38 (by rw [hR]; exact ⟨Nat.le_of_ble_eq_true rfl, Nat.le_of_ble_eq_true rfl⟩) ?_
        refine W.eq (g2 := F0 m 41 ls [.float r12]) rfl ?_
        refine lv_aload_n hx hb dX9_tastiest_41 rfl (lv_at hl 0 rfl) ?_
        refine lv_iload_n hx hb dX9_tastiest_42 rfl (lv_at hl 1 rfl) ?_
        obtain ⟨r14, hr15, h⟩ := ob h
        refine px_Vp (As := [.int x2]) (rest := [.float r12]) (gs := ([gX9 E a v_now v_tried v_kept v_undos v_saved v_isSaved v_line v_lined v_text v_length v_at v_order v_told v_error v_reason v_detail v_answer v_thrown v_mixed v_conflicts v_firstConflict] : List va_W)) (gc := ([gX9 E a v_now v_tried v_kept v_undos v_saved v_isSaved v_line v_lined v_text v_length v_at v_order v_told v_error v_reason v_detail v_answer v_thrown v_mixed v_conflicts v_firstConflict] : List va_W)) ⟨hx, hb, hml, hown, hts⟩ (c9_tasteOf l E a  (x2) (v_now) (v_tried) (v_kept) (v_undos) (v_saved) (v_isSaved) (v_line) (v_lined) (v_text) (v_length) (v_at) (v_order) (v_told) (v_error) (v_reason) (v_detail) (v_answer) (v_thrown) (v_mixed) (v_conflicts) (v_firstConflict) r14 hr15) (cwV 1 hts (ws_v q1472 q1474 q47 q68 q1475) rfl rfl rfl hdV_X9_tasteOf (by rw [hR]; exact ⟨Nat.le_of_ble_eq_true rfl, Nat.le_of_ble_eq_true rfl⟩)) hK hN hP hD [0] rfl (by decide) 0 9 rfl rfl rfl rfl hl.1 rfl (Nat.le_of_ble_eq_true rfl) dX9_tastiest_43 (by rw [hR]; exact ⟨Nat.le_of_ble_eq_true rfl, Nat.le_of_ble_eq_true rfl⟩) ?_
        refine W.eq (g2 := F0 m 46 ls [.float r14, .float r12]) rfl ?_
        refine lv_fcmp hx hb dX9_tastiest_46 ?_
        refine lv_if_lt (tgt := 57) hx hb dX9_tastiest_47 (by decide) (fun c16 => ?_) (fun c16 => ?_)
        · rw [if_pos c16] at h
          refine lv_aload_n hx hb dX9_tastiest_57 rfl (lv_at hl 0 rfl) ?_
          refine lv_iload_n hx hb dX9_tastiest_58 rfl (lv_at hl 2 rfl) ?_
          refine lv_iconst (v := (nI 1)) hx hb dX9_tastiest_59 (by decide) ?_
          obtain ⟨r17, hr18, h⟩ := ob h
          refine px_Vp (As := [.int x3, .int (nI 1)]) (rest := []) (gs := ([gX9 E a v_now v_tried v_kept v_undos v_saved v_isSaved v_line v_lined v_text v_length v_at v_order v_told v_error v_reason v_detail v_answer v_thrown v_mixed v_conflicts v_firstConflict] : List va_W)) (gc := ([gX9 E a v_now v_tried v_kept v_undos v_saved v_isSaved v_line v_lined v_text v_length v_at v_order v_told v_error v_reason v_detail v_answer v_thrown v_mixed v_conflicts v_firstConflict] : List va_W)) ⟨hx, hb, hml, hown, hts⟩ (c9_of l E a  (x3) ((nI 1)) (v_now) (v_tried) (v_kept) (v_undos) (v_saved) (v_isSaved) (v_line) (v_lined) (v_text) (v_length) (v_at) (v_order) (v_told) (v_error) (v_reason) (v_detail) (v_answer) (v_thrown) (v_mixed) (v_conflicts) (v_firstConflict) r17 hr18) (cwV 2 hts (ws_v q1296 q1298 q22 q68 q1299) rfl rfl rfl hdV_X9_of (by rw [hR]; exact ⟨Nat.le_of_ble_eq_true rfl, Nat.le_of_ble_eq_true rfl⟩)) hK hN hP hD [0] rfl (by decide) 0 9 rfl rfl rfl rfl hl.1 rfl (Nat.le_of_ble_eq_true rfl) dX9_tastiest_60 (by rw [hR]; exact ⟨Nat.le_of_ble_eq_true rfl, Nat.le_of_ble_eq_true rfl⟩) ?_
          refine W.eq (g2 := F0 m 63 ls [.int r17]) rfl ?_
          refine lv_istore_n (lv' := [(3, .int r17), (0, .ref (a 0)), (2, .int x2)]) hx hb dX9_tastiest_63 rfl hl (by decide) rfl (fun ls hl => ?_)
          refine lv_goto (tgt := 27) hx hb dX9_tastiest_64 (by decide) ?_
          exact ih (x2) (r17) (v_thrown) H locs ls hP hD hS (lv_sub hl [1, 2, 0] rfl) h
        · rw [if_neg c16] at h
          refine lv_aload_n hx hb dX9_tastiest_50 rfl (lv_at hl 0 rfl) ?_
          refine lv_iload_n hx hb dX9_tastiest_51 rfl (lv_at hl 2 rfl) ?_
          refine lv_iconst (v := (nI 1)) hx hb dX9_tastiest_52 (by decide) ?_
          obtain ⟨r19, hr20, h⟩ := ob h
          refine px_Vp (As := [.int x3, .int (nI 1)]) (rest := []) (gs := ([gX9 E a v_now v_tried v_kept v_undos v_saved v_isSaved v_line v_lined v_text v_length v_at v_order v_told v_error v_reason v_detail v_answer v_thrown v_mixed v_conflicts v_firstConflict] : List va_W)) (gc := ([gX9 E a v_now v_tried v_kept v_undos v_saved v_isSaved v_line v_lined v_text v_length v_at v_order v_told v_error v_reason v_detail v_answer v_thrown v_mixed v_conflicts v_firstConflict] : List va_W)) ⟨hx, hb, hml, hown, hts⟩ (c9_of l E a  (x3) ((nI 1)) (v_now) (v_tried) (v_kept) (v_undos) (v_saved) (v_isSaved) (v_line) (v_lined) (v_text) (v_length) (v_at) (v_order) (v_told) (v_error) (v_reason) (v_detail) (v_answer) (v_thrown) (v_mixed) (v_conflicts) (v_firstConflict) r19 hr20) (cwV 2 hts (ws_v q1296 q1298 q22 q68 q1299) rfl rfl rfl hdV_X9_of (by rw [hR]; exact ⟨Nat.le_of_ble_eq_true rfl, Nat.le_of_ble_eq_true rfl⟩)) hK hN hP hD [0] rfl (by decide) 0 9 rfl rfl rfl rfl hl.1 rfl (Nat.le_of_ble_eq_true rfl) dX9_tastiest_53 (by rw [hR]; exact ⟨Nat.le_of_ble_eq_true rfl, Nat.le_of_ble_eq_true rfl⟩) ?_
          refine W.eq (g2 := F0 m 56 ls [.int r19]) rfl ?_
          refine lv_istore_n (lv' := [(2, .int r19), (0, .ref (a 0)), (3, .int x3)]) hx hb dX9_tastiest_56 rfl hl (by decide) rfl (fun ls hl => ?_)
          refine lv_aload_n hx hb dX9_tastiest_57 rfl (lv_at hl 1 rfl) ?_
          refine lv_iload_n hx hb dX9_tastiest_58 rfl (lv_at hl 2 rfl) ?_
          refine lv_iconst (v := (nI 1)) hx hb dX9_tastiest_59 (by decide) ?_
          obtain ⟨r21, hr22, h⟩ := ob h
          refine px_Vp (As := [.int x3, .int (nI 1)]) (rest := []) (gs := ([gX9 E a v_now v_tried v_kept v_undos v_saved v_isSaved v_line v_lined v_text v_length v_at v_order v_told v_error v_reason v_detail v_answer v_thrown v_mixed v_conflicts v_firstConflict] : List va_W)) (gc := ([gX9 E a v_now v_tried v_kept v_undos v_saved v_isSaved v_line v_lined v_text v_length v_at v_order v_told v_error v_reason v_detail v_answer v_thrown v_mixed v_conflicts v_firstConflict] : List va_W)) ⟨hx, hb, hml, hown, hts⟩ (c9_of l E a  (x3) ((nI 1)) (v_now) (v_tried) (v_kept) (v_undos) (v_saved) (v_isSaved) (v_line) (v_lined) (v_text) (v_length) (v_at) (v_order) (v_told) (v_error) (v_reason) (v_detail) (v_answer) (v_thrown) (v_mixed) (v_conflicts) (v_firstConflict) r21 hr22) (cwV 2 hts (ws_v q1296 q1298 q22 q68 q1299) rfl rfl rfl hdV_X9_of (by rw [hR]; exact ⟨Nat.le_of_ble_eq_true rfl, Nat.le_of_ble_eq_true rfl⟩)) hK hN hP hD [0] rfl (by decide) 0 9 rfl rfl rfl rfl hl.1 rfl (Nat.le_of_ble_eq_true rfl) dX9_tastiest_60 (by rw [hR]; exact ⟨Nat.le_of_ble_eq_true rfl, Nat.le_of_ble_eq_true rfl⟩) ?_
          refine W.eq (g2 := F0 m 63 ls [.int r21]) rfl ?_
          refine lv_istore_n (lv' := [(3, .int r21), (2, .int r19), (0, .ref (a 0))]) hx hb dX9_tastiest_63 rfl hl (by decide) rfl (fun ls hl => ?_)
          refine lv_goto (tgt := 27) hx hb dX9_tastiest_64 (by decide) ?_
          exact ih (r19) (r21) (v_thrown) H locs ls hP hD hS (lv_sub hl [2, 1, 0] rfl) h
  intro H locs hP hS
  refine lv_aload_n hx hb dX9_tastiest_0 rfl (lv_at hl 0 rfl) ?_
  refine lv_iconst (v := (nI 0)) hx hb dX9_tastiest_1 (by decide) ?_
  refine va_put (D := E.1) (ci := 9) (v := .int (nI 0)) (ty := .int) (C := RX9) (T := TX9) (N := 21) hx hb hts iX9 tyX9 tyX9_ok nmX9 hown hK hP hD hS 0 rfl rfl 17 (by decide) (hts _ q1215) (fun _ h9 => h9) rfl (tyX9_ok 17 (by decide)) rfl rfl (Nat.le_of_ble_eq_true rfl) dX9_tastiest_2 (fun H locs hP hD hS => ?_)
  have hP : va_P E.1 vwCl ([gX9 E a v_now v_tried v_kept v_undos v_saved v_isSaved v_line v_lined v_text v_length v_at v_order v_told v_error v_reason v_detail v_answer (nI 0) v_mixed v_conflicts v_firstConflict] : List va_W).flatten H := hP
  have hD : va_D A ([gX9 E a v_now v_tried v_kept v_undos v_saved v_isSaved v_line v_lined v_text v_length v_at v_order v_told v_error v_reason v_detail v_answer (nI 0) v_mixed v_conflicts v_firstConflict] : List va_W).flatten := hD
  refine lv_aload_n hx hb dX9_tastiest_5 rfl (lv_at hl 0 rfl) ?_
  refine lv_iload_n hx hb dX9_tastiest_6 rfl (lv_at hl 1 rfl) ?_
  obtain ⟨r1, hr2, h⟩ := ob h
  refine px_Vp (As := [.int x1]) (rest := []) (gs := ([gX9 E a v_now v_tried v_kept v_undos v_saved v_isSaved v_line v_lined v_text v_length v_at v_order v_told v_error v_reason v_detail v_answer (nI 0) v_mixed v_conflicts v_firstConflict] : List va_W)) (gc := ([gX9 E a v_now v_tried v_kept v_undos v_saved v_isSaved v_line v_lined v_text v_length v_at v_order v_told v_error v_reason v_detail v_answer (nI 0) v_mixed v_conflicts v_firstConflict] : List va_W)) ⟨hx, hb, hml, hown, hts⟩ (c9_isBranch l E a  (x1) (v_now) (v_tried) (v_kept) (v_undos) (v_saved) (v_isSaved) (v_line) (v_lined) (v_text) (v_length) (v_at) (v_order) (v_told) (v_error) (v_reason) (v_detail) (v_answer) ((nI 0)) (v_mixed) (v_conflicts) (v_firstConflict) r1 hr2) (cwV 1 hts (ws_v q1278 q1280 q19 q68 q1281) rfl rfl rfl hdV_X9_isBranch (by rw [hR]; exact ⟨Nat.le_of_ble_eq_true rfl, Nat.le_of_ble_eq_true rfl⟩)) hK hN hP hD [0] rfl (by decide) 0 9 rfl rfl rfl rfl hl.1 rfl (Nat.le_of_ble_eq_true rfl) dX9_tastiest_7 (by rw [hR]; exact ⟨Nat.le_of_ble_eq_true rfl, Nat.le_of_ble_eq_true rfl⟩) ?_
  refine W.eq (g2 := F0 m 10 ls [.int (b2i r1)]) rfl ?_
  refine lv_if_ne (tgt := 19) hx hb dX9_tastiest_10 (by decide) (fun c3 => ?_) (fun c3 => ?_)
  · rw [if_neg c3] at h
    refine lv_aload_n hx hb dX9_tastiest_19 rfl (lv_at hl 0 rfl) ?_
    refine lv_iload_n hx hb dX9_tastiest_20 rfl (lv_at hl 1 rfl) ?_
    obtain ⟨r4, hr5, h⟩ := ob h
    refine px_Vp (As := [.int x1]) (rest := []) (gs := ([gX9 E a v_now v_tried v_kept v_undos v_saved v_isSaved v_line v_lined v_text v_length v_at v_order v_told v_error v_reason v_detail v_answer (nI 0) v_mixed v_conflicts v_firstConflict] : List va_W)) (gc := ([gX9 E a v_now v_tried v_kept v_undos v_saved v_isSaved v_line v_lined v_text v_length v_at v_order v_told v_error v_reason v_detail v_answer (nI 0) v_mixed v_conflicts v_firstConflict] : List va_W)) ⟨hx, hb, hml, hown, hts⟩ (c9_top l E a  (x1) (v_now) (v_tried) (v_kept) (v_undos) (v_saved) (v_isSaved) (v_line) (v_lined) (v_text) (v_length) (v_at) (v_order) (v_told) (v_error) (v_reason) (v_detail) (v_answer) ((nI 0)) (v_mixed) (v_conflicts) (v_firstConflict) r4 hr5) (cwV 1 hts (ws_v q1288 q1290 q20 q68 q1291) rfl rfl rfl hdV_X9_top (by rw [hR]; exact ⟨Nat.le_of_ble_eq_true rfl, Nat.le_of_ble_eq_true rfl⟩)) hK hN hP hD [0] rfl (by decide) 0 9 rfl rfl rfl rfl hl.1 rfl (Nat.le_of_ble_eq_true rfl) dX9_tastiest_21 (by rw [hR]; exact ⟨Nat.le_of_ble_eq_true rfl, Nat.le_of_ble_eq_true rfl⟩) ?_
    refine W.eq (g2 := F0 m 24 ls [.int r4]) rfl ?_
    refine lv_istore_n (lv' := [(2, .int r4), (0, .ref (a 0)), (1, .int x1)]) hx hb dX9_tastiest_24 rfl hl (by decide) rfl (fun ls hl => ?_)
    refine lv_iload_n hx hb dX9_tastiest_25 rfl (lv_at hl 0 rfl) ?_
    refine lv_istore_n (lv' := [(3, .int r4), (2, .int r4), (0, .ref (a 0)), (1, .int x1)]) hx hb dX9_tastiest_26 rfl hl (by decide) rfl (fun ls hl => ?_)
    exact L27 fuel (r4) (r4) ((nI 0)) H locs ls hP hD hS (lv_sub hl [2, 1, 0] rfl) h
  · rw [if_pos c3] at h
    refine lv_aload_n hx hb dX9_tastiest_13 rfl (lv_at hl 0 rfl) ?_
    refine lv_iconst (v := (nI 1)) hx hb dX9_tastiest_14 (by decide) ?_
    obtain ⟨⟨r6, w7⟩, hr8, h⟩ := ob h
    dsimp only at h
    refine px_V (As := [.int (nI 1)]) (rest := []) (gs := ([gX9 E a v_now v_tried v_kept v_undos v_saved v_isSaved v_line v_lined v_text v_length v_at v_order v_told v_error v_reason v_detail v_answer (nI 0) v_mixed v_conflicts v_firstConflict] : List va_W)) (gr := ([] : List va_W)) (gc := ([gX9 E a v_now v_tried v_kept v_undos v_saved v_isSaved v_line v_lined v_text v_length v_at v_order v_told v_error v_reason v_detail v_answer (nI 0) v_mixed v_conflicts v_firstConflict] : List va_W)) (g1 := ([gX9 E a v_now v_tried v_kept v_undos v_saved v_isSaved v_line v_lined v_text v_length v_at v_order v_told v_error v_reason v_detail v_answer w7 v_mixed v_conflicts v_firstConflict] : List va_W)) (g2 := ([gX9 E a v_now v_tried v_kept v_undos v_saved v_isSaved v_line v_lined v_text v_length v_at v_order v_told v_error v_reason v_detail v_answer w7 v_mixed v_conflicts v_firstConflict] : List va_W)) ⟨hx, hb, hml, hown, hts⟩ (c9_raises l E a  ((nI 1)) (v_now) (v_tried) (v_kept) (v_undos) (v_saved) (v_isSaved) (v_line) (v_lined) (v_text) (v_length) (v_at) (v_order) (v_told) (v_error) (v_reason) (v_detail) (v_answer) ((nI 0)) (v_mixed) (v_conflicts) (v_firstConflict) r6 w7 hr8) (cwV 1 hts (ws_v q1320 q1322 q28 q68 q1323) rfl rfl rfl hdV_X9_raises (by rw [hR]; exact ⟨Nat.le_of_ble_eq_true rfl, Nat.le_of_ble_eq_true rfl⟩)) hK hN hP hD hS hA [] [0] [0] rfl rfl (by decide) (by decide) rfl (by decide) 0 9 rfl rfl rfl rfl hl.1 rfl (Nat.le_of_ble_eq_true rfl) dX9_tastiest_15 (by rw [hR]; exact ⟨Nat.le_of_ble_eq_true rfl, Nat.le_of_ble_eq_true rfl⟩) (fun H locs hP hD hS => ?_)
    refine W.eq (g2 := F0 m 18 ls [.int r6]) rfl ?_
    cases h
    exact px_eWi hA0 hQ hP hD hS hx hb hr hlocks dX9_tastiest_18
def f9_inBundle_L4 (v_now : AI) : Nat → Int32 → Int32 → Option (Int32)
  | 0, _, _ => none
  | n + 1, x1, x2 => (if (nI 4) ≤ x2 then (some x1) else (if inb ((nI 3) + x2) 228 = true then (if (v_now (((nI 3) + x2)).toNatClampNeg) ≤ 0 then (f9_inBundle_L4 v_now n (x1) ((x2 + nI 1))) else (f9_inBundle_L4 v_now n ((x1 + nI 1)) ((x2 + nI 1)))) else none))
def f9_inBundle  (v_now : AI) : Option (Int32) := (f9_inBundle_L4 v_now fuel ((nI 0)) ((nI 0)))
set_option maxHeartbeats 4000000 in
set_option maxRecDepth 100000 in
theorem c9_inBundle (l : Launch) (E : PE) (a : Nat → Nat)   (v_now : AI) (v_tried : AI) (v_kept : AI) (v_undos : Int32) (v_saved : AI) (v_isSaved : Int32) (v_line : AI) (v_lined : Int32) (v_text : AI) (v_length : Int32) (v_at : Int32) (v_order : Int32) (v_told : AI) (v_error : Int32) (v_reason : Int32) (v_detail : Int32) (v_answer : Int32) (v_thrown : Int32) (v_mixed : AI) (v_conflicts : Int32) (v_firstConflict : Int32) (r : Int32) (h : f9_inBundle v_now = some r) : MP l yX9_inBundle cX9_inBundle 3 (some .int) { frames := 0, cells := 0, slots := 0, locals := 0 } E [.ref (a 0)] ([gX9 E a v_now v_tried v_kept v_undos v_saved v_isSaved v_line v_lined v_text v_length v_at v_order v_told v_error v_reason v_detail v_answer v_thrown v_mixed v_conflicts v_firstConflict] : List va_W).flatten (some (.int r)) := by
  refine px_startP (by decide +kernel) (Nat.le_of_ble_eq_true rfl) ?_
  intro p e s m args below meth c R Q A ls hC hQ
  obtain ⟨hx, hb, hr, hml, hts, hown, hlocks, hR, hK, hN, hP, hD, hA, hl, hin⟩ := hC
  have hl : lv_has ls 3 [(0, .ref (a 0))] := hl
  unfold f9_inBundle at h
  have L4 : ∀ (n : Nat) (x1 : Int32) (x2 : Int32) (ls : Array Slot), lv_has ls 3 [(0, .ref (a 0)), (1, .int x1), (2, .int x2)] → f9_inBundle_L4 v_now n x1 x2 = some r → W p l e R s m args below meth c s.heap [] 0 0 Q (F0 m 4 ls []) := by
    intro n
    induction n with
    | zero =>
      intro x1 x2 ls hl h
      unfold f9_inBundle_L4 at h; cases h
    | succ n ih =>
      intro x1 x2 ls hl h
      unfold f9_inBundle_L4 at h
      refine lv_iload_n hx hb dX9_inBundle_4 rfl (lv_at hl 2 rfl) ?_
      refine lv_iconst (v := (nI 4)) hx hb dX9_inBundle_5 (by decide) ?_
      refine lv_icmp_ge (tgt := 29) hx hb dX9_inBundle_6 (by decide) (fun c1 => ?_) (fun c1 => ?_)
      · rw [if_pos c1] at h
        refine lv_iload_n hx hb dX9_inBundle_29 rfl (lv_at hl 1 rfl) ?_
        cases h
        exact px_ePi hQ hx hb hr hlocks dX9_inBundle_30
      · rw [if_neg c1] at h
        refine lv_aload_n hx hb dX9_inBundle_9 rfl (lv_at hl 0 rfl) ?_
        refine va_get (D := E.1) (ci := 9) (v := .ref (a 1)) (C := RX9) (T := TX9) (N := 21) hx hb hts iX9 hown hK hP 0 rfl rfl 0 (by decide) (hts _ q1198) (fun _ h9 => h9) rfl dX9_inBundle_10 ?_
        refine lv_iconst (v := (nI 3)) hx hb dX9_inBundle_13 (by decide) ?_
        refine lv_iload_n hx hb dX9_inBundle_14 rfl (lv_at hl 2 rfl) ?_
        refine lv_iadd hx hb dX9_inBundle_15 ?_
        obtain ⟨i2, h⟩ := o_t h
        refine va_iald (f := v_now) hx hb hK hP 1 0 rfl rfl (inb_in i2) dX9_inBundle_16 ?_
        refine lv_if_le (tgt := 23) hx hb dX9_inBundle_17 (by decide) (fun c3 => ?_) (fun c3 => ?_)
        · rw [if_pos c3] at h
          refine lv_iinc (v := (x2 + nI 1)) (lv' := [(2, .int (x2 + nI 1)), (0, .ref (a 0)), (1, .int x1)]) hx hb dX9_inBundle_23 hl (k := 2) rfl rfl (by decide) rfl (fun ls hl => ?_)
          refine lv_goto (tgt := 4) hx hb dX9_inBundle_26 (by decide) ?_
          exact ih (x1) ((x2 + nI 1)) ls (lv_sub hl [1, 2, 0] rfl) h
        · rw [if_neg c3] at h
          refine lv_iinc (v := (x1 + nI 1)) (lv' := [(1, .int (x1 + nI 1)), (0, .ref (a 0)), (2, .int x2)]) hx hb dX9_inBundle_20 hl (k := 1) rfl rfl (by decide) rfl (fun ls hl => ?_)
          refine lv_iinc (v := (x2 + nI 1)) (lv' := [(2, .int (x2 + nI 1)), (1, .int (x1 + nI 1)), (0, .ref (a 0))]) hx hb dX9_inBundle_23 hl (k := 2) rfl rfl (by decide) rfl (fun ls hl => ?_)
          refine lv_goto (tgt := 4) hx hb dX9_inBundle_26 (by decide) ?_
          exact ih ((x1 + nI 1)) ((x2 + nI 1)) ls (lv_sub hl [2, 1, 0] rfl) h
  refine lv_iconst (v := (nI 0)) hx hb dX9_inBundle_0 (by decide) ?_
  refine lv_istore_n (lv' := [(1, .int (nI 0)), (0, .ref (a 0))]) hx hb dX9_inBundle_1 rfl hl (by decide) rfl (fun ls hl => ?_)
  refine lv_iconst (v := (nI 0)) hx hb dX9_inBundle_2 (by decide) ?_
  refine lv_istore_n (lv' := [(2, .int (nI 0)), (1, .int (nI 0)), (0, .ref (a 0))]) hx hb dX9_inBundle_3 rfl hl (by decide) rfl (fun ls hl => ?_)
  exact L4 fuel ((nI 0)) ((nI 0)) ls (lv_sub hl [2, 1, 0] rfl) h
def f9_bundle_L26 (x1 : Int32) : Nat → Int32 → Int32 → AI → AI → AI → Int32 → Int32 → Option (Int32 × AI × AI × AI × Int32 × Int32)
  | 0, _, _, _, _, _, _, _ => none
  | n + 1, x2, x3, v_now, v_tried, v_kept, v_undos, v_thrown => (if (nI 4) ≤ x3 then (lt (upd v_now ((nI 2)).toNatClampNeg x1) fun u13 => ((f9_keeps (x2) (v_tried) (v_kept) (v_undos)).bind fun (r15, w16, w17) => (some (r15, u13, v_tried, w16, w17, v_thrown)))) else (if inb ((nI 3) + x3) 228 = true then (lt (upd v_now (((nI 3) + x3)).toNatClampNeg (nI 0)) fun u20 => (f9_bundle_L26 x1 n (x2) ((x3 + nI 1)) (u20) (v_tried) (v_kept) (v_undos) (v_thrown))) else none))
def f9_bundle (x1 : Int32) (v_now : AI) (v_tried : AI) (v_kept : AI) (v_undos : Int32) (v_thrown : Int32) : Option (Int32 × AI × AI × AI × Int32 × Int32) := ((f9_tries (v_now) (v_tried) (v_thrown)).bind fun (w1, w2) => ((f9_in (x1) ((nI 0)) ((nI 2))).bind fun r4 => (if (b2i r4) = 0 then ((f9_raises ((nI 1)) (w2)).bind fun (r9, w10) => (some (r9, v_now, w1, v_kept, v_undos, w10))) else ((f9_inBundle (v_now)).bind fun r7 => (f9_bundle_L26 x1 fuel (r7) ((nI 0)) (v_now) (w1) (v_kept) (v_undos) (w2))))))
set_option maxHeartbeats 4000000 in
set_option maxRecDepth 100000 in
theorem c9_bundle (l : Launch) (E : PE) (a : Nat → Nat)  (x1 : Int32) (v_now : AI) (v_tried : AI) (v_kept : AI) (v_undos : Int32) (v_saved : AI) (v_isSaved : Int32) (v_line : AI) (v_lined : Int32) (v_text : AI) (v_length : Int32) (v_at : Int32) (v_order : Int32) (v_told : AI) (v_error : Int32) (v_reason : Int32) (v_detail : Int32) (v_answer : Int32) (v_thrown : Int32) (v_mixed : AI) (v_conflicts : Int32) (v_firstConflict : Int32) (r : Int32) (z_this_now : AI) (z_this_tried : AI) (z_this_kept : AI) (z_this_undos : Int32) (z_this_thrown : Int32) (h : f9_bundle x1 v_now v_tried v_kept v_undos v_thrown = some (r, z_this_now, z_this_tried, z_this_kept, z_this_undos, z_this_thrown)) : MW l yX9_bundle cX9_bundle 4 (some .int) { frames := 1, cells := 0, slots := 0, locals := 22 } E [.ref (a 0), .int x1] ([gX9 E a v_now v_tried v_kept v_undos v_saved v_isSaved v_line v_lined v_text v_length v_at v_order v_told v_error v_reason v_detail v_answer v_thrown v_mixed v_conflicts v_firstConflict] : List va_W).flatten 0 0 (some (.int r)) ([gX9 E a z_this_now z_this_tried z_this_kept z_this_undos v_saved v_isSaved v_line v_lined v_text v_length v_at v_order v_told v_error v_reason v_detail v_answer z_this_thrown v_mixed v_conflicts v_firstConflict] : List va_W).flatten := by
  refine px_startW (by decide +kernel) (Nat.le_of_ble_eq_true rfl) ?_
  intro p e s m args below meth c R Q A ls hC hA0 hQ
  obtain ⟨hx, hb, hr, hml, hts, hown, hlocks, hR, hK, hN, hP, hD, hA, hl, hin⟩ := hC
  have hl : lv_has ls 4 [(0, .ref (a 0)), (1, .int x1)] := hl
  suffices key : ∀ (H : Heap) (locs : List Loc), va_P E.1 vwCl ([gX9 E a v_now v_tried v_kept v_undos v_saved v_isSaved v_line v_lined v_text v_length v_at v_order v_told v_error v_reason v_detail v_answer v_thrown v_mixed v_conflicts v_firstConflict] : List va_W).flatten H → va_S A s.heap H locs → W p l e R s m args below meth c H locs 0 0 Q (F0 m 0 ls []) from key s.heap [] hP va_S.rf
  unfold f9_bundle at h
  have L26 : ∀ (n : Nat) (x2 : Int32) (x3 : Int32) (v_now : AI) (v_tried : AI) (v_kept : AI) (v_undos : Int32) (v_thrown : Int32) (H : Heap) (locs : List Loc) (ls : Array Slot), va_P E.1 vwCl ([gX9 E a v_now v_tried v_kept v_undos v_saved v_isSaved v_line v_lined v_text v_length v_at v_order v_told v_error v_reason v_detail v_answer v_thrown v_mixed v_conflicts v_firstConflict] : List va_W).flatten H → va_D A ([gX9 E a v_now v_tried v_kept v_undos v_saved v_isSaved v_line v_lined v_text v_length v_at v_order v_told v_error v_reason v_detail v_answer v_thrown v_mixed v_conflicts v_firstConflict] : List va_W).flatten → va_S A s.heap H locs → lv_has ls 4 [(0, .ref (a 0)), (1, .int x1), (2, .int x2), (3, .int x3)] → f9_bundle_L26 x1 n x2 x3 v_now v_tried v_kept v_undos v_thrown = some (r, z_this_now, z_this_tried, z_this_kept, z_this_undos, z_this_thrown) → W p l e R s m args below meth c H locs 0 0 Q (F0 m 26 ls []) := by
    intro n
    induction n with
    | zero =>
      intro x2 x3 v_now v_tried v_kept v_undos v_thrown H locs ls hP hD hS hl h
      unfold f9_bundle_L26 at h; cases h
    | succ n ih =>
      intro x2 x3 v_now v_tried v_kept v_undos v_thrown H locs ls hP hD hS hl h
      unfold f9_bundle_L26 at h
      refine lv_iload_n hx hb dX9_bundle_26 rfl (lv_at hl 3 rfl) ?_
      refine lv_iconst (v := (nI 4)) hx hb dX9_bundle_27 (by decide) ?_
      refine lv_icmp_ge (tgt := 46) hx hb dX9_bundle_28 (by decide) (fun c12 => ?_) (fun c12 => ?_)
      · rw [if_pos c12] at h
        refine lv_aload_n hx hb dX9_bundle_46 rfl (lv_at hl 0 rfl) ?_
        refine va_get (D := E.1) (ci := 9) (v := .ref (a 1)) (C := RX9) (T := TX9) (N := 21) hx hb hts iX9 hown hK hP 0 rfl rfl 0 (by decide) (hts _ q1198) (fun _ h9 => h9) rfl dX9_bundle_47 ?_
        refine lv_iconst (v := (nI 2)) hx hb dX9_bundle_50 (by decide) ?_
        refine lv_iload_n hx hb dX9_bundle_51 rfl (lv_at hl 1 rfl) ?_
        refine va_iast (f := v_now) hx hb hK hP hD hS 1 0 rfl rfl (inb_in (i := (nI 2)) (n := 228) (by decide)) dX9_bundle_52 (fun H locs hP hD hS => ?_)
        have hP : va_P E.1 vwCl ([gX9 E a (upd v_now ((nI 2)).toNatClampNeg x1) v_tried v_kept v_undos v_saved v_isSaved v_line v_lined v_text v_length v_at v_order v_told v_error v_reason v_detail v_answer v_thrown v_mixed v_conflicts v_firstConflict] : List va_W).flatten H := hP
        have hD : va_D A ([gX9 E a (upd v_now ((nI 2)).toNatClampNeg x1) v_tried v_kept v_undos v_saved v_isSaved v_line v_lined v_text v_length v_at v_order v_told v_error v_reason v_detail v_answer v_thrown v_mixed v_conflicts v_firstConflict] : List va_W).flatten := hD
        obtain ⟨u13, e14, h⟩ := lt_e h
        rw [← e14] at hP hD
        refine lv_aload_n hx hb dX9_bundle_53 rfl (lv_at hl 0 rfl) ?_
        refine lv_iload_n hx hb dX9_bundle_54 rfl (lv_at hl 2 rfl) ?_
        obtain ⟨⟨r15, w16, w17⟩, hr18, h⟩ := ob h
        dsimp only at h
        refine px_V (As := [.int x2]) (rest := []) (gs := ([gX9 E a u13 v_tried v_kept v_undos v_saved v_isSaved v_line v_lined v_text v_length v_at v_order v_told v_error v_reason v_detail v_answer v_thrown v_mixed v_conflicts v_firstConflict] : List va_W)) (gr := ([] : List va_W)) (gc := ([gX9 E a u13 v_tried v_kept v_undos v_saved v_isSaved v_line v_lined v_text v_length v_at v_order v_told v_error v_reason v_detail v_answer v_thrown v_mixed v_conflicts v_firstConflict] : List va_W)) (g1 := ([gX9 E a u13 v_tried w16 w17 v_saved v_isSaved v_line v_lined v_text v_length v_at v_order v_told v_error v_reason v_detail v_answer v_thrown v_mixed v_conflicts v_firstConflict] : List va_W)) (g2 := ([gX9 E a u13 v_tried w16 w17 v_saved v_isSaved v_line v_lined v_text v_length v_at v_order v_told v_error v_reason v_detail v_answer v_thrown v_mixed v_conflicts v_firstConflict] : List va_W)) ⟨hx, hb, hml, hown, hts⟩ (c9_keeps l E a  (x2) (u13) (v_tried) (v_kept) (v_undos) (v_saved) (v_isSaved) (v_line) (v_lined) (v_text) (v_length) (v_at) (v_order) (v_told) (v_error) (v_reason) (v_detail) (v_answer) (v_thrown) (v_mixed) (v_conflicts) (v_firstConflict) r15 w16 w17 hr18) (cwV 1 hts (ws_v q1316 q1318 q27 q68 q1319) rfl rfl rfl hdV_X9_keeps (by rw [hR]; exact ⟨Nat.le_of_ble_eq_true rfl, Nat.le_of_ble_eq_true rfl⟩)) hK hN hP hD hS hA [] [0] [0] rfl rfl (by decide) (by decide) rfl (by decide) 0 9 rfl rfl rfl rfl hl.1 rfl (Nat.le_of_ble_eq_true rfl) dX9_bundle_55 (by rw [hR]; exact ⟨Nat.le_of_ble_eq_true rfl, Nat.le_of_ble_eq_true rfl⟩) (fun H locs hP hD hS => ?_)
        refine W.eq (g2 := F0 m 58 ls [.int r15]) rfl ?_
        cases h
        exact px_eWi hA0 hQ hP hD hS hx hb hr hlocks dX9_bundle_58
      · rw [if_neg c12] at h
        refine lv_aload_n hx hb dX9_bundle_31 rfl (lv_at hl 0 rfl) ?_
        refine va_get (D := E.1) (ci := 9) (v := .ref (a 1)) (C := RX9) (T := TX9) (N := 21) hx hb hts iX9 hown hK hP 0 rfl rfl 0 (by decide) (hts _ q1198) (fun _ h9 => h9) rfl dX9_bundle_32 ?_
        refine lv_iconst (v := (nI 3)) hx hb dX9_bundle_35 (by decide) ?_
        refine lv_iload_n hx hb dX9_bundle_36 rfl (lv_at hl 3 rfl) ?_
        refine lv_iadd hx hb dX9_bundle_37 ?_
        refine lv_iconst (v := (nI 0)) hx hb dX9_bundle_38 (by decide) ?_
        obtain ⟨i19, h⟩ := o_t h
        refine va_iast (f := v_now) hx hb hK hP hD hS 1 0 rfl rfl (inb_in i19) dX9_bundle_39 (fun H locs hP hD hS => ?_)
        have hP : va_P E.1 vwCl ([gX9 E a (upd v_now (((nI 3) + x3)).toNatClampNeg (nI 0)) v_tried v_kept v_undos v_saved v_isSaved v_line v_lined v_text v_length v_at v_order v_told v_error v_reason v_detail v_answer v_thrown v_mixed v_conflicts v_firstConflict] : List va_W).flatten H := hP
        have hD : va_D A ([gX9 E a (upd v_now (((nI 3) + x3)).toNatClampNeg (nI 0)) v_tried v_kept v_undos v_saved v_isSaved v_line v_lined v_text v_length v_at v_order v_told v_error v_reason v_detail v_answer v_thrown v_mixed v_conflicts v_firstConflict] : List va_W).flatten := hD
        obtain ⟨u20, e21, h⟩ := lt_e h
        rw [← e21] at hP hD
        refine lv_iinc (v := (x3 + nI 1)) (lv' := [(3, .int (x3 + nI 1)), (0, .ref (a 0)), (1, .int x1), (2, .int x2)]) hx hb dX9_bundle_40 hl (k := 3) rfl rfl (by decide) rfl (fun ls hl => ?_)
        refine lv_goto (tgt := 26) hx hb dX9_bundle_43 (by decide) ?_
        exact ih (x2) ((x3 + nI 1)) (u20) (v_tried) (v_kept) (v_undos) (v_thrown) H locs ls hP hD hS (lv_sub hl [1, 2, 3, 0] rfl) h
  intro H locs hP hS
  refine lv_aload_n hx hb dX9_bundle_0 rfl (lv_at hl 0 rfl) ?_
  obtain ⟨⟨w1, w2⟩, hr3, h⟩ := ob h
  dsimp only at h
  refine px_V (As := []) (rest := []) (gs := ([gX9 E a v_now v_tried v_kept v_undos v_saved v_isSaved v_line v_lined v_text v_length v_at v_order v_told v_error v_reason v_detail v_answer v_thrown v_mixed v_conflicts v_firstConflict] : List va_W)) (gr := ([] : List va_W)) (gc := ([gX9 E a v_now v_tried v_kept v_undos v_saved v_isSaved v_line v_lined v_text v_length v_at v_order v_told v_error v_reason v_detail v_answer v_thrown v_mixed v_conflicts v_firstConflict] : List va_W)) (g1 := ([gX9 E a v_now w1 v_kept v_undos v_saved v_isSaved v_line v_lined v_text v_length v_at v_order v_told v_error v_reason v_detail v_answer w2 v_mixed v_conflicts v_firstConflict] : List va_W)) (g2 := ([gX9 E a v_now w1 v_kept v_undos v_saved v_isSaved v_line v_lined v_text v_length v_at v_order v_told v_error v_reason v_detail v_answer w2 v_mixed v_conflicts v_firstConflict] : List va_W)) ⟨hx, hb, hml, hown, hts⟩ (c9_tries l E a   (v_now) (v_tried) (v_kept) (v_undos) (v_saved) (v_isSaved) (v_line) (v_lined) (v_text) (v_length) (v_at) (v_order) (v_told) (v_error) (v_reason) (v_detail) (v_answer) (v_thrown) (v_mixed) (v_conflicts) (v_firstConflict) w1 w2 hr3) (cwV 0 hts (ws_v q1270 q1272 q17 q68 q1273) rfl rfl rfl hdV_X9_tries (by rw [hR]; exact ⟨Nat.le_of_ble_eq_true rfl, Nat.le_of_ble_eq_true rfl⟩)) hK hN hP hD hS hA [] [0] [0] rfl rfl (by decide) (by decide) rfl (by decide) 0 9 rfl rfl rfl rfl hl.1 rfl (Nat.le_of_ble_eq_true rfl) dX9_bundle_1 (by rw [hR]; exact ⟨Nat.le_of_ble_eq_true rfl, Nat.le_of_ble_eq_true rfl⟩) (fun H locs hP hD hS => ?_)
  refine W.eq (g2 := F0 m 4 ls []) rfl ?_
  refine lv_iload_n hx hb dX9_bundle_4 rfl (lv_at hl 1 rfl) ?_
  refine lv_iconst (v := (nI 0)) hx hb dX9_bundle_5 (by decide) ?_
  refine lv_iconst (v := (nI 2)) hx hb dX9_bundle_6 (by decide) ?_
  obtain ⟨r4, hr5, h⟩ := ob h
  refine px_Sp (As := [.int x1, .int (nI 0), .int (nI 2)]) (rest := []) (gs := ([gX9 E a v_now w1 v_kept v_undos v_saved v_isSaved v_line v_lined v_text v_length v_at v_order v_told v_error v_reason v_detail v_answer w2 v_mixed v_conflicts v_firstConflict] : List va_W)) (gc := ([] : List va_W)) ⟨hx, hb, hml, hown, hts⟩ (c9_in l E   (x1) ((nI 0)) ((nI 2))  r4 hr5) (va_cwS 3 hts (ws_s q1282 q1283 q68 q1284) rfl rfl rfl hdS_X9_in (by rw [hR]; exact ⟨Nat.le_of_ble_eq_true rfl, Nat.le_of_ble_eq_true rfl⟩)) hK hN hP hD [] rfl (by decide) rfl hl.1 rfl (Nat.le_of_ble_eq_true rfl) dX9_bundle_7 (by rw [hR]; exact ⟨Nat.le_of_ble_eq_true rfl, Nat.le_of_ble_eq_true rfl⟩) ?_
  refine W.eq (g2 := F0 m 10 ls [.int (b2i r4)]) rfl ?_
  refine lv_if_ne (tgt := 19) hx hb dX9_bundle_10 (by decide) (fun c6 => ?_) (fun c6 => ?_)
  · rw [if_neg c6] at h
    refine lv_aload_n hx hb dX9_bundle_19 rfl (lv_at hl 0 rfl) ?_
    obtain ⟨r7, hr8, h⟩ := ob h
    refine px_Vp (As := []) (rest := []) (gs := ([gX9 E a v_now w1 v_kept v_undos v_saved v_isSaved v_line v_lined v_text v_length v_at v_order v_told v_error v_reason v_detail v_answer w2 v_mixed v_conflicts v_firstConflict] : List va_W)) (gc := ([gX9 E a v_now w1 v_kept v_undos v_saved v_isSaved v_line v_lined v_text v_length v_at v_order v_told v_error v_reason v_detail v_answer w2 v_mixed v_conflicts v_firstConflict] : List va_W)) ⟨hx, hb, hml, hown, hts⟩ (c9_inBundle l E a   (v_now) (w1) (v_kept) (v_undos) (v_saved) (v_isSaved) (v_line) (v_lined) (v_text) (v_length) (v_at) (v_order) (v_told) (v_error) (v_reason) (v_detail) (v_answer) (w2) (v_mixed) (v_conflicts) (v_firstConflict) r7 hr8) (cwV 0 hts (ws_v q1499 q1501 q48 q68 q1502) rfl rfl rfl hdV_X9_inBundle (by rw [hR]; exact ⟨Nat.le_of_ble_eq_true rfl, Nat.le_of_ble_eq_true rfl⟩)) hK hN hP hD [0] rfl (by decide) 0 9 rfl rfl rfl rfl hl.1 rfl (Nat.le_of_ble_eq_true rfl) dX9_bundle_20 (by rw [hR]; exact ⟨Nat.le_of_ble_eq_true rfl, Nat.le_of_ble_eq_true rfl⟩) ?_
    refine W.eq (g2 := F0 m 23 ls [.int r7]) rfl ?_
    refine lv_istore_n (lv' := [(2, .int r7), (0, .ref (a 0)), (1, .int x1)]) hx hb dX9_bundle_23 rfl hl (by decide) rfl (fun ls hl => ?_)
    refine lv_iconst (v := (nI 0)) hx hb dX9_bundle_24 (by decide) ?_
    refine lv_istore_n (lv' := [(3, .int (nI 0)), (2, .int r7), (0, .ref (a 0)), (1, .int x1)]) hx hb dX9_bundle_25 rfl hl (by decide) rfl (fun ls hl => ?_)
    exact L26 fuel (r7) ((nI 0)) (v_now) (w1) (v_kept) (v_undos) (w2) H locs ls hP hD hS (lv_sub hl [2, 3, 1, 0] rfl) h
  · rw [if_pos c6] at h
    refine lv_aload_n hx hb dX9_bundle_13 rfl (lv_at hl 0 rfl) ?_
    refine lv_iconst (v := (nI 1)) hx hb dX9_bundle_14 (by decide) ?_
    obtain ⟨⟨r9, w10⟩, hr11, h⟩ := ob h
    dsimp only at h
    refine px_V (As := [.int (nI 1)]) (rest := []) (gs := ([gX9 E a v_now w1 v_kept v_undos v_saved v_isSaved v_line v_lined v_text v_length v_at v_order v_told v_error v_reason v_detail v_answer w2 v_mixed v_conflicts v_firstConflict] : List va_W)) (gr := ([] : List va_W)) (gc := ([gX9 E a v_now w1 v_kept v_undos v_saved v_isSaved v_line v_lined v_text v_length v_at v_order v_told v_error v_reason v_detail v_answer w2 v_mixed v_conflicts v_firstConflict] : List va_W)) (g1 := ([gX9 E a v_now w1 v_kept v_undos v_saved v_isSaved v_line v_lined v_text v_length v_at v_order v_told v_error v_reason v_detail v_answer w10 v_mixed v_conflicts v_firstConflict] : List va_W)) (g2 := ([gX9 E a v_now w1 v_kept v_undos v_saved v_isSaved v_line v_lined v_text v_length v_at v_order v_told v_error v_reason v_detail v_answer w10 v_mixed v_conflicts v_firstConflict] : List va_W)) ⟨hx, hb, hml, hown, hts⟩ (c9_raises l E a  ((nI 1)) (v_now) (w1) (v_kept) (v_undos) (v_saved) (v_isSaved) (v_line) (v_lined) (v_text) (v_length) (v_at) (v_order) (v_told) (v_error) (v_reason) (v_detail) (v_answer) (w2) (v_mixed) (v_conflicts) (v_firstConflict) r9 w10 hr11) (cwV 1 hts (ws_v q1320 q1322 q28 q68 q1323) rfl rfl rfl hdV_X9_raises (by rw [hR]; exact ⟨Nat.le_of_ble_eq_true rfl, Nat.le_of_ble_eq_true rfl⟩)) hK hN hP hD hS hA [] [0] [0] rfl rfl (by decide) (by decide) rfl (by decide) 0 9 rfl rfl rfl rfl hl.1 rfl (Nat.le_of_ble_eq_true rfl) dX9_bundle_15 (by rw [hR]; exact ⟨Nat.le_of_ble_eq_true rfl, Nat.le_of_ble_eq_true rfl⟩) (fun H locs hP hD hS => ?_)
    refine W.eq (g2 := F0 m 18 ls [.int r9]) rfl ?_
    cases h
    exact px_eWi hA0 hQ hP hD hS hx hb hr hlocks dX9_bundle_18
def f9_puts_L49 (x1 : Int32) (x2 : Int32) : Nat → Int32 → AI → Int32 → Int32 → Int32 → Option (Int32 × AI × Int32 × Int32 × Int32)
  | 0, _, _, _, _, _ => none
  | n + 1, x3, v_now, v_reason, v_detail, v_answer => (if (nI 4) ≤ x3 then (if inb ((nI 3) + x1) 228 = true then (lt (upd v_now (((nI 3) + x1)).toNatClampNeg (x2 + (nI 1))) fun u16 => ((f9_inBundle (u16)).bind fun r18 => ((f9_does (r18) (v_answer)).bind fun (r20, w21) => (some (r20, u16, v_reason, v_detail, w21))))) else none) else (if inb ((nI 3) + x3) 228 = true then (if (v_now (((nI 3) + x3)).toNatClampNeg) = (x2 + (nI 1)) then ((f9_refuses ((nI 10)) (x3) (v_reason) (v_detail)).bind fun (r25, w26, w27) => (some (r25, v_now, w26, w27, v_answer))) else (f9_puts_L49 x1 x2 n ((x3 + nI 1)) (v_now) (v_reason) (v_detail) (v_answer))) else none))
def f9_puts (x1 : Int32) (x2 : Int32) (v_now : AI) (v_reason : Int32) (v_detail : Int32) (v_answer : Int32) : Option (Int32 × AI × Int32 × Int32 × Int32) := ((f9_in (x1) ((nI 0)) ((nI 3))).bind fun r1 => (if (b2i r1) = 0 then (some ((nI 1), v_now, v_reason, v_detail, v_answer)) else ((f9_isCommit (x2) (v_now)).bind fun r4 => (if (b2i r4) = 0 then (some ((nI 1), v_now, v_reason, v_detail, v_answer)) else ((f9_of (x2) ((nI 0)) (v_now)).bind fun r7 => (if (v_now ((nI 2)).toNatClampNeg) = r7 then (f9_puts_L49 x1 x2 fuel ((nI 0)) (v_now) (v_reason) (v_detail) (v_answer)) else ((f9_refuses ((nI 9)) ((v_now ((nI 2)).toNatClampNeg)) (v_reason) (v_detail)).bind fun (r10, w11, w12) => (some (r10, v_now, w11, w12, v_answer)))))))))
set_option maxHeartbeats 4000000 in
set_option maxRecDepth 100000 in
theorem c9_puts (l : Launch) (E : PE) (a : Nat → Nat)  (x1 : Int32) (x2 : Int32) (v_now : AI) (v_tried : AI) (v_kept : AI) (v_undos : Int32) (v_saved : AI) (v_isSaved : Int32) (v_line : AI) (v_lined : Int32) (v_text : AI) (v_length : Int32) (v_at : Int32) (v_order : Int32) (v_told : AI) (v_error : Int32) (v_reason : Int32) (v_detail : Int32) (v_answer : Int32) (v_thrown : Int32) (v_mixed : AI) (v_conflicts : Int32) (v_firstConflict : Int32) (r : Int32) (z_this_now : AI) (z_this_reason : Int32) (z_this_detail : Int32) (z_this_answer : Int32) (h : f9_puts x1 x2 v_now v_reason v_detail v_answer = some (r, z_this_now, z_this_reason, z_this_detail, z_this_answer)) : MW l yX9_puts cX9_puts 4 (some .int) { frames := 2, cells := 0, slots := 0, locals := 43 } E [.ref (a 0), .int x1, .int x2] ([gX9 E a v_now v_tried v_kept v_undos v_saved v_isSaved v_line v_lined v_text v_length v_at v_order v_told v_error v_reason v_detail v_answer v_thrown v_mixed v_conflicts v_firstConflict] : List va_W).flatten 0 0 (some (.int r)) ([gX9 E a z_this_now v_tried v_kept v_undos v_saved v_isSaved v_line v_lined v_text v_length v_at v_order v_told v_error z_this_reason z_this_detail z_this_answer v_thrown v_mixed v_conflicts v_firstConflict] : List va_W).flatten := by
  refine px_startW (by decide +kernel) (Nat.le_of_ble_eq_true rfl) ?_
  intro p e s m args below meth c R Q A ls hC hA0 hQ
  obtain ⟨hx, hb, hr, hml, hts, hown, hlocks, hR, hK, hN, hP, hD, hA, hl, hin⟩ := hC
  have hl : lv_has ls 4 [(0, .ref (a 0)), (1, .int x1), (2, .int x2)] := hl
  suffices key : ∀ (H : Heap) (locs : List Loc), va_P E.1 vwCl ([gX9 E a v_now v_tried v_kept v_undos v_saved v_isSaved v_line v_lined v_text v_length v_at v_order v_told v_error v_reason v_detail v_answer v_thrown v_mixed v_conflicts v_firstConflict] : List va_W).flatten H → va_S A s.heap H locs → W p l e R s m args below meth c H locs 0 0 Q (F0 m 0 ls []) from key s.heap [] hP va_S.rf
  unfold f9_puts at h
  have L49 : ∀ (n : Nat) (x3 : Int32) (v_now : AI) (v_reason : Int32) (v_detail : Int32) (v_answer : Int32) (H : Heap) (locs : List Loc) (ls : Array Slot), va_P E.1 vwCl ([gX9 E a v_now v_tried v_kept v_undos v_saved v_isSaved v_line v_lined v_text v_length v_at v_order v_told v_error v_reason v_detail v_answer v_thrown v_mixed v_conflicts v_firstConflict] : List va_W).flatten H → va_D A ([gX9 E a v_now v_tried v_kept v_undos v_saved v_isSaved v_line v_lined v_text v_length v_at v_order v_told v_error v_reason v_detail v_answer v_thrown v_mixed v_conflicts v_firstConflict] : List va_W).flatten → va_S A s.heap H locs → lv_has ls 4 [(0, .ref (a 0)), (1, .int x1), (2, .int x2), (3, .int x3)] → f9_puts_L49 x1 x2 n x3 v_now v_reason v_detail v_answer = some (r, z_this_now, z_this_reason, z_this_detail, z_this_answer) → W p l e R s m args below meth c H locs 0 0 Q (F0 m 49 ls []) := by
    intro n
    induction n with
    | zero =>
      intro x3 v_now v_reason v_detail v_answer H locs ls hP hD hS hl h
      unfold f9_puts_L49 at h; cases h
    | succ n ih =>
      intro x3 v_now v_reason v_detail v_answer H locs ls hP hD hS hl h
      unfold f9_puts_L49 at h
      refine lv_iload_n hx hb dX9_puts_49 rfl (lv_at hl 3 rfl) ?_
      refine lv_iconst (v := (nI 4)) hx hb dX9_puts_50 (by decide) ?_
      refine lv_icmp_ge (tgt := 82) hx hb dX9_puts_51 (by decide) (fun c14 => ?_) (fun c14 => ?_)
      · rw [if_pos c14] at h
        refine lv_aload_n hx hb dX9_puts_82 rfl (lv_at hl 0 rfl) ?_
        refine va_get (D := E.1) (ci := 9) (v := .ref (a 1)) (C := RX9) (T := TX9) (N := 21) hx hb hts iX9 hown hK hP 0 rfl rfl 0 (by decide) (hts _ q1198) (fun _ h9 => h9) rfl dX9_puts_83 ?_
        refine lv_iconst (v := (nI 3)) hx hb dX9_puts_86 (by decide) ?_
        refine lv_iload_n hx hb dX9_puts_87 rfl (lv_at hl 1 rfl) ?_
        refine lv_iadd hx hb dX9_puts_88 ?_
        refine lv_iload_n hx hb dX9_puts_89 rfl (lv_at hl 2 rfl) ?_
        refine lv_iconst (v := (nI 1)) hx hb dX9_puts_90 (by decide) ?_
        refine lv_iadd hx hb dX9_puts_91 ?_
        obtain ⟨i15, h⟩ := o_t h
        refine va_iast (f := v_now) hx hb hK hP hD hS 1 0 rfl rfl (inb_in i15) dX9_puts_92 (fun H locs hP hD hS => ?_)
        have hP : va_P E.1 vwCl ([gX9 E a (upd v_now (((nI 3) + x1)).toNatClampNeg (x2 + (nI 1))) v_tried v_kept v_undos v_saved v_isSaved v_line v_lined v_text v_length v_at v_order v_told v_error v_reason v_detail v_answer v_thrown v_mixed v_conflicts v_firstConflict] : List va_W).flatten H := hP
        have hD : va_D A ([gX9 E a (upd v_now (((nI 3) + x1)).toNatClampNeg (x2 + (nI 1))) v_tried v_kept v_undos v_saved v_isSaved v_line v_lined v_text v_length v_at v_order v_told v_error v_reason v_detail v_answer v_thrown v_mixed v_conflicts v_firstConflict] : List va_W).flatten := hD
        obtain ⟨u16, e17, h⟩ := lt_e h
        rw [← e17] at hP hD
        refine lv_aload_n hx hb dX9_puts_93 rfl (lv_at hl 0 rfl) ?_
        refine lv_aload_n hx hb dX9_puts_94 rfl (lv_at hl 0 rfl) ?_
        obtain ⟨r18, hr19, h⟩ := ob h
        refine px_Vp (As := []) (rest := [.ref (a 0)]) (gs := ([gX9 E a u16 v_tried v_kept v_undos v_saved v_isSaved v_line v_lined v_text v_length v_at v_order v_told v_error v_reason v_detail v_answer v_thrown v_mixed v_conflicts v_firstConflict] : List va_W)) (gc := ([gX9 E a u16 v_tried v_kept v_undos v_saved v_isSaved v_line v_lined v_text v_length v_at v_order v_told v_error v_reason v_detail v_answer v_thrown v_mixed v_conflicts v_firstConflict] : List va_W)) ⟨hx, hb, hml, hown, hts⟩ (c9_inBundle l E a   (u16) (v_tried) (v_kept) (v_undos) (v_saved) (v_isSaved) (v_line) (v_lined) (v_text) (v_length) (v_at) (v_order) (v_told) (v_error) (v_reason) (v_detail) (v_answer) (v_thrown) (v_mixed) (v_conflicts) (v_firstConflict) r18 hr19) (cwV 0 hts (ws_v q1499 q1501 q48 q68 q1502) rfl rfl rfl hdV_X9_inBundle (by rw [hR]; exact ⟨Nat.le_of_ble_eq_true rfl, Nat.le_of_ble_eq_true rfl⟩)) hK hN hP hD [0] rfl (by decide) 0 9 rfl rfl rfl rfl hl.1 rfl (Nat.le_of_ble_eq_true rfl) dX9_puts_95 (by rw [hR]; exact ⟨Nat.le_of_ble_eq_true rfl, Nat.le_of_ble_eq_true rfl⟩) ?_
        refine W.eq (g2 := F0 m 98 ls [.int r18, .ref (a 0)]) rfl ?_
        obtain ⟨⟨r20, w21⟩, hr22, h⟩ := ob h
        dsimp only at h
        refine px_V (As := [.int r18]) (rest := []) (gs := ([gX9 E a u16 v_tried v_kept v_undos v_saved v_isSaved v_line v_lined v_text v_length v_at v_order v_told v_error v_reason v_detail v_answer v_thrown v_mixed v_conflicts v_firstConflict] : List va_W)) (gr := ([] : List va_W)) (gc := ([gX9 E a u16 v_tried v_kept v_undos v_saved v_isSaved v_line v_lined v_text v_length v_at v_order v_told v_error v_reason v_detail v_answer v_thrown v_mixed v_conflicts v_firstConflict] : List va_W)) (g1 := ([gX9 E a u16 v_tried v_kept v_undos v_saved v_isSaved v_line v_lined v_text v_length v_at v_order v_told v_error v_reason v_detail w21 v_thrown v_mixed v_conflicts v_firstConflict] : List va_W)) (g2 := ([gX9 E a u16 v_tried v_kept v_undos v_saved v_isSaved v_line v_lined v_text v_length v_at v_order v_told v_error v_reason v_detail w21 v_thrown v_mixed v_conflicts v_firstConflict] : List va_W)) ⟨hx, hb, hml, hown, hts⟩ (c9_does l E a  (r18) (u16) (v_tried) (v_kept) (v_undos) (v_saved) (v_isSaved) (v_line) (v_lined) (v_text) (v_length) (v_at) (v_order) (v_told) (v_error) (v_reason) (v_detail) (v_answer) (v_thrown) (v_mixed) (v_conflicts) (v_firstConflict) r20 w21 hr22) (cwV 1 hts (ws_v q1308 q1310 q25 q68 q1311) rfl rfl rfl hdV_X9_does (by rw [hR]; exact ⟨Nat.le_of_ble_eq_true rfl, Nat.le_of_ble_eq_true rfl⟩)) hK hN hP hD hS hA [] [0] [0] rfl rfl (by decide) (by decide) rfl (by decide) 0 9 rfl rfl rfl rfl hl.1 rfl (Nat.le_of_ble_eq_true rfl) dX9_puts_98 (by rw [hR]; exact ⟨Nat.le_of_ble_eq_true rfl, Nat.le_of_ble_eq_true rfl⟩) (fun H locs hP hD hS => ?_)
        refine W.eq (g2 := F0 m 101 ls [.int r20]) rfl ?_
        cases h
        exact px_eWi hA0 hQ hP hD hS hx hb hr hlocks dX9_puts_101
      · rw [if_neg c14] at h
        refine lv_aload_n hx hb dX9_puts_54 rfl (lv_at hl 0 rfl) ?_
        refine va_get (D := E.1) (ci := 9) (v := .ref (a 1)) (C := RX9) (T := TX9) (N := 21) hx hb hts iX9 hown hK hP 0 rfl rfl 0 (by decide) (hts _ q1198) (fun _ h9 => h9) rfl dX9_puts_55 ?_
        refine lv_iconst (v := (nI 3)) hx hb dX9_puts_58 (by decide) ?_
        refine lv_iload_n hx hb dX9_puts_59 rfl (lv_at hl 3 rfl) ?_
        refine lv_iadd hx hb dX9_puts_60 ?_
        obtain ⟨i23, h⟩ := o_t h
        refine va_iald (f := v_now) hx hb hK hP 1 0 rfl rfl (inb_in i23) dX9_puts_61 ?_
        refine lv_iload_n hx hb dX9_puts_62 rfl (lv_at hl 2 rfl) ?_
        refine lv_iconst (v := (nI 1)) hx hb dX9_puts_63 (by decide) ?_
        refine lv_iadd hx hb dX9_puts_64 ?_
        refine lv_icmp_ne (tgt := 76) hx hb dX9_puts_65 (by decide) (fun c24 => ?_) (fun c24 => ?_)
        · rw [if_neg c24] at h
          refine lv_iinc (v := (x3 + nI 1)) (lv' := [(3, .int (x3 + nI 1)), (0, .ref (a 0)), (1, .int x1), (2, .int x2)]) hx hb dX9_puts_76 hl (k := 3) rfl rfl (by decide) rfl (fun ls hl => ?_)
          refine lv_goto (tgt := 49) hx hb dX9_puts_79 (by decide) ?_
          exact ih ((x3 + nI 1)) (v_now) (v_reason) (v_detail) (v_answer) H locs ls hP hD hS (lv_sub hl [1, 2, 3, 0] rfl) h
        · rw [if_pos c24] at h
          refine lv_aload_n hx hb dX9_puts_68 rfl (lv_at hl 0 rfl) ?_
          refine lv_bipush (v := (nI 10)) hx hb dX9_puts_69 (by decide) ?_
          refine lv_iload_n hx hb dX9_puts_71 rfl (lv_at hl 3 rfl) ?_
          obtain ⟨⟨r25, w26, w27⟩, hr28, h⟩ := ob h
          dsimp only at h
          refine px_V (As := [.int (nI 10), .int x3]) (rest := []) (gs := ([gX9 E a v_now v_tried v_kept v_undos v_saved v_isSaved v_line v_lined v_text v_length v_at v_order v_told v_error v_reason v_detail v_answer v_thrown v_mixed v_conflicts v_firstConflict] : List va_W)) (gr := ([] : List va_W)) (gc := ([gX9 E a v_now v_tried v_kept v_undos v_saved v_isSaved v_line v_lined v_text v_length v_at v_order v_told v_error v_reason v_detail v_answer v_thrown v_mixed v_conflicts v_firstConflict] : List va_W)) (g1 := ([gX9 E a v_now v_tried v_kept v_undos v_saved v_isSaved v_line v_lined v_text v_length v_at v_order v_told v_error w26 w27 v_answer v_thrown v_mixed v_conflicts v_firstConflict] : List va_W)) (g2 := ([gX9 E a v_now v_tried v_kept v_undos v_saved v_isSaved v_line v_lined v_text v_length v_at v_order v_told v_error w26 w27 v_answer v_thrown v_mixed v_conflicts v_firstConflict] : List va_W)) ⟨hx, hb, hml, hown, hts⟩ (c9_refuses l E a  ((nI 10)) (x3) (v_now) (v_tried) (v_kept) (v_undos) (v_saved) (v_isSaved) (v_line) (v_lined) (v_text) (v_length) (v_at) (v_order) (v_told) (v_error) (v_reason) (v_detail) (v_answer) (v_thrown) (v_mixed) (v_conflicts) (v_firstConflict) r25 w26 w27 hr28) (cwV 2 hts (ws_v q1300 q1302 q23 q68 q1303) rfl rfl rfl hdV_X9_refuses (by rw [hR]; exact ⟨Nat.le_of_ble_eq_true rfl, Nat.le_of_ble_eq_true rfl⟩)) hK hN hP hD hS hA [] [0] [0] rfl rfl (by decide) (by decide) rfl (by decide) 0 9 rfl rfl rfl rfl hl.1 rfl (Nat.le_of_ble_eq_true rfl) dX9_puts_72 (by rw [hR]; exact ⟨Nat.le_of_ble_eq_true rfl, Nat.le_of_ble_eq_true rfl⟩) (fun H locs hP hD hS => ?_)
          refine W.eq (g2 := F0 m 75 ls [.int r25]) rfl ?_
          cases h
          exact px_eWi hA0 hQ hP hD hS hx hb hr hlocks dX9_puts_75
  intro H locs hP hS
  refine lv_iload_n hx hb dX9_puts_0 rfl (lv_at hl 1 rfl) ?_
  refine lv_iconst (v := (nI 0)) hx hb dX9_puts_1 (by decide) ?_
  refine lv_iconst (v := (nI 3)) hx hb dX9_puts_2 (by decide) ?_
  obtain ⟨r1, hr2, h⟩ := ob h
  refine px_Sp (As := [.int x1, .int (nI 0), .int (nI 3)]) (rest := []) (gs := ([gX9 E a v_now v_tried v_kept v_undos v_saved v_isSaved v_line v_lined v_text v_length v_at v_order v_told v_error v_reason v_detail v_answer v_thrown v_mixed v_conflicts v_firstConflict] : List va_W)) (gc := ([] : List va_W)) ⟨hx, hb, hml, hown, hts⟩ (c9_in l E   (x1) ((nI 0)) ((nI 3))  r1 hr2) (va_cwS 3 hts (ws_s q1282 q1283 q68 q1284) rfl rfl rfl hdS_X9_in (by rw [hR]; exact ⟨Nat.le_of_ble_eq_true rfl, Nat.le_of_ble_eq_true rfl⟩)) hK hN hP hD [] rfl (by decide) rfl hl.1 rfl (Nat.le_of_ble_eq_true rfl) dX9_puts_3 (by rw [hR]; exact ⟨Nat.le_of_ble_eq_true rfl, Nat.le_of_ble_eq_true rfl⟩) ?_
  refine W.eq (g2 := F0 m 6 ls [.int (b2i r1)]) rfl ?_
  refine lv_if_eq (tgt := 17) hx hb dX9_puts_6 (by decide) (fun c3 => ?_) (fun c3 => ?_)
  · rw [if_pos c3] at h
    refine lv_iconst (v := (nI 1)) hx hb dX9_puts_17 (by decide) ?_
    cases h
    exact px_eWi hA0 hQ hP hD hS hx hb hr hlocks dX9_puts_18
  · rw [if_neg c3] at h
    refine lv_aload_n hx hb dX9_puts_9 rfl (lv_at hl 0 rfl) ?_
    refine lv_iload_n hx hb dX9_puts_10 rfl (lv_at hl 2 rfl) ?_
    obtain ⟨r4, hr5, h⟩ := ob h
    refine px_Vp (As := [.int x2]) (rest := []) (gs := ([gX9 E a v_now v_tried v_kept v_undos v_saved v_isSaved v_line v_lined v_text v_length v_at v_order v_told v_error v_reason v_detail v_answer v_thrown v_mixed v_conflicts v_firstConflict] : List va_W)) (gc := ([gX9 E a v_now v_tried v_kept v_undos v_saved v_isSaved v_line v_lined v_text v_length v_at v_order v_told v_error v_reason v_detail v_answer v_thrown v_mixed v_conflicts v_firstConflict] : List va_W)) ⟨hx, hb, hml, hown, hts⟩ (c9_isCommit l E a  (x2) (v_now) (v_tried) (v_kept) (v_undos) (v_saved) (v_isSaved) (v_line) (v_lined) (v_text) (v_length) (v_at) (v_order) (v_told) (v_error) (v_reason) (v_detail) (v_answer) (v_thrown) (v_mixed) (v_conflicts) (v_firstConflict) r4 hr5) (cwV 1 hts (ws_v q1344 q1346 q32 q68 q1347) rfl rfl rfl hdV_X9_isCommit (by rw [hR]; exact ⟨Nat.le_of_ble_eq_true rfl, Nat.le_of_ble_eq_true rfl⟩)) hK hN hP hD [0] rfl (by decide) 0 9 rfl rfl rfl rfl hl.1 rfl (Nat.le_of_ble_eq_true rfl) dX9_puts_11 (by rw [hR]; exact ⟨Nat.le_of_ble_eq_true rfl, Nat.le_of_ble_eq_true rfl⟩) ?_
    refine W.eq (g2 := F0 m 14 ls [.int (b2i r4)]) rfl ?_
    refine lv_if_ne (tgt := 19) hx hb dX9_puts_14 (by decide) (fun c6 => ?_) (fun c6 => ?_)
    · rw [if_neg c6] at h
      refine lv_aload_n hx hb dX9_puts_19 rfl (lv_at hl 0 rfl) ?_
      refine va_get (D := E.1) (ci := 9) (v := .ref (a 1)) (C := RX9) (T := TX9) (N := 21) hx hb hts iX9 hown hK hP 0 rfl rfl 0 (by decide) (hts _ q1198) (fun _ h9 => h9) rfl dX9_puts_20 ?_
      refine lv_iconst (v := (nI 2)) hx hb dX9_puts_23 (by decide) ?_
      refine va_iald (f := v_now) hx hb hK hP 1 0 rfl rfl (inb_in (i := (nI 2)) (n := 228) (by decide)) dX9_puts_24 ?_
      refine lv_aload_n hx hb dX9_puts_25 rfl (lv_at hl 0 rfl) ?_
      refine lv_iload_n hx hb dX9_puts_26 rfl (lv_at hl 2 rfl) ?_
      refine lv_iconst (v := (nI 0)) hx hb dX9_puts_27 (by decide) ?_
      obtain ⟨r7, hr8, h⟩ := ob h
      refine px_Vp (As := [.int x2, .int (nI 0)]) (rest := [.int (v_now ((nI 2)).toNatClampNeg)]) (gs := ([gX9 E a v_now v_tried v_kept v_undos v_saved v_isSaved v_line v_lined v_text v_length v_at v_order v_told v_error v_reason v_detail v_answer v_thrown v_mixed v_conflicts v_firstConflict] : List va_W)) (gc := ([gX9 E a v_now v_tried v_kept v_undos v_saved v_isSaved v_line v_lined v_text v_length v_at v_order v_told v_error v_reason v_detail v_answer v_thrown v_mixed v_conflicts v_firstConflict] : List va_W)) ⟨hx, hb, hml, hown, hts⟩ (c9_of l E a  (x2) ((nI 0)) (v_now) (v_tried) (v_kept) (v_undos) (v_saved) (v_isSaved) (v_line) (v_lined) (v_text) (v_length) (v_at) (v_order) (v_told) (v_error) (v_reason) (v_detail) (v_answer) (v_thrown) (v_mixed) (v_conflicts) (v_firstConflict) r7 hr8) (cwV 2 hts (ws_v q1296 q1298 q22 q68 q1299) rfl rfl rfl hdV_X9_of (by rw [hR]; exact ⟨Nat.le_of_ble_eq_true rfl, Nat.le_of_ble_eq_true rfl⟩)) hK hN hP hD [0] rfl (by decide) 0 9 rfl rfl rfl rfl hl.1 rfl (Nat.le_of_ble_eq_true rfl) dX9_puts_28 (by rw [hR]; exact ⟨Nat.le_of_ble_eq_true rfl, Nat.le_of_ble_eq_true rfl⟩) ?_
      refine W.eq (g2 := F0 m 31 ls [.int r7, .int (v_now ((nI 2)).toNatClampNeg)]) rfl ?_
      refine lv_icmp_eq (tgt := 47) hx hb dX9_puts_31 (by decide) (fun c9 => ?_) (fun c9 => ?_)
      · rw [if_pos c9] at h
        refine lv_iconst (v := (nI 0)) hx hb dX9_puts_47 (by decide) ?_
        refine lv_istore_n (lv' := [(3, .int (nI 0)), (0, .ref (a 0)), (1, .int x1), (2, .int x2)]) hx hb dX9_puts_48 rfl hl (by decide) rfl (fun ls hl => ?_)
        exact L49 fuel ((nI 0)) (v_now) (v_reason) (v_detail) (v_answer) H locs ls hP hD hS (lv_sub hl [1, 2, 3, 0] rfl) h
      · rw [if_neg c9] at h
        refine lv_aload_n hx hb dX9_puts_34 rfl (lv_at hl 0 rfl) ?_
        refine lv_bipush (v := (nI 9)) hx hb dX9_puts_35 (by decide) ?_
        refine lv_aload_n hx hb dX9_puts_37 rfl (lv_at hl 0 rfl) ?_
        refine va_get (D := E.1) (ci := 9) (v := .ref (a 1)) (C := RX9) (T := TX9) (N := 21) hx hb hts iX9 hown hK hP 0 rfl rfl 0 (by decide) (hts _ q1198) (fun _ h9 => h9) rfl dX9_puts_38 ?_
        refine lv_iconst (v := (nI 2)) hx hb dX9_puts_41 (by decide) ?_
        refine va_iald (f := v_now) hx hb hK hP 1 0 rfl rfl (inb_in (i := (nI 2)) (n := 228) (by decide)) dX9_puts_42 ?_
        obtain ⟨⟨r10, w11, w12⟩, hr13, h⟩ := ob h
        dsimp only at h
        refine px_V (As := [.int (nI 9), .int (v_now ((nI 2)).toNatClampNeg)]) (rest := []) (gs := ([gX9 E a v_now v_tried v_kept v_undos v_saved v_isSaved v_line v_lined v_text v_length v_at v_order v_told v_error v_reason v_detail v_answer v_thrown v_mixed v_conflicts v_firstConflict] : List va_W)) (gr := ([] : List va_W)) (gc := ([gX9 E a v_now v_tried v_kept v_undos v_saved v_isSaved v_line v_lined v_text v_length v_at v_order v_told v_error v_reason v_detail v_answer v_thrown v_mixed v_conflicts v_firstConflict] : List va_W)) (g1 := ([gX9 E a v_now v_tried v_kept v_undos v_saved v_isSaved v_line v_lined v_text v_length v_at v_order v_told v_error w11 w12 v_answer v_thrown v_mixed v_conflicts v_firstConflict] : List va_W)) (g2 := ([gX9 E a v_now v_tried v_kept v_undos v_saved v_isSaved v_line v_lined v_text v_length v_at v_order v_told v_error w11 w12 v_answer v_thrown v_mixed v_conflicts v_firstConflict] : List va_W)) ⟨hx, hb, hml, hown, hts⟩ (c9_refuses l E a  ((nI 9)) ((v_now ((nI 2)).toNatClampNeg)) (v_now) (v_tried) (v_kept) (v_undos) (v_saved) (v_isSaved) (v_line) (v_lined) (v_text) (v_length) (v_at) (v_order) (v_told) (v_error) (v_reason) (v_detail) (v_answer) (v_thrown) (v_mixed) (v_conflicts) (v_firstConflict) r10 w11 w12 hr13) (cwV 2 hts (ws_v q1300 q1302 q23 q68 q1303) rfl rfl rfl hdV_X9_refuses (by rw [hR]; exact ⟨Nat.le_of_ble_eq_true rfl, Nat.le_of_ble_eq_true rfl⟩)) hK hN hP hD hS hA [] [0] [0] rfl rfl (by decide) (by decide) rfl (by decide) 0 9 rfl rfl rfl rfl hl.1 rfl (Nat.le_of_ble_eq_true rfl) dX9_puts_43 (by rw [hR]; exact ⟨Nat.le_of_ble_eq_true rfl, Nat.le_of_ble_eq_true rfl⟩) (fun H locs hP hD hS => ?_)
        refine W.eq (g2 := F0 m 46 ls [.int r10]) rfl ?_
        cases h
        exact px_eWi hA0 hQ hP hD hS hx hb hr hlocks dX9_puts_46
    · rw [if_pos c6] at h
      refine lv_iconst (v := (nI 1)) hx hb dX9_puts_17 (by decide) ?_
      cases h
      exact px_eWi hA0 hQ hP hD hS hx hb hr hlocks dX9_puts_18
def f9_put (x1 : Int32) (x2 : Int32) (v_now : AI) (v_tried : AI) (v_kept : AI) (v_undos : Int32) (v_reason : Int32) (v_detail : Int32) (v_answer : Int32) (v_thrown : Int32) : Option (Int32 × AI × AI × AI × Int32 × Int32 × Int32 × Int32 × Int32) := ((f9_tries (v_now) (v_tried) (v_thrown)).bind fun (w1, w2) => ((f9_puts (x1) (x2) (v_now) (v_reason) (v_detail) (v_answer)).bind fun (r4, w5, w6, w7, w8) => ((f9_endsAt (r4) (w1) (v_kept) (v_undos) (w8) (w2)).bind fun (r10, w11, w12, w13) => (some (r10, w5, w1, w11, w12, w6, w7, w8, w13)))))
set_option maxHeartbeats 4000000 in
set_option maxRecDepth 100000 in
theorem c9_put (l : Launch) (E : PE) (a : Nat → Nat)  (x1 : Int32) (x2 : Int32) (v_now : AI) (v_tried : AI) (v_kept : AI) (v_undos : Int32) (v_saved : AI) (v_isSaved : Int32) (v_line : AI) (v_lined : Int32) (v_text : AI) (v_length : Int32) (v_at : Int32) (v_order : Int32) (v_told : AI) (v_error : Int32) (v_reason : Int32) (v_detail : Int32) (v_answer : Int32) (v_thrown : Int32) (v_mixed : AI) (v_conflicts : Int32) (v_firstConflict : Int32) (r : Int32) (z_this_now : AI) (z_this_tried : AI) (z_this_kept : AI) (z_this_undos : Int32) (z_this_reason : Int32) (z_this_detail : Int32) (z_this_answer : Int32) (z_this_thrown : Int32) (h : f9_put x1 x2 v_now v_tried v_kept v_undos v_reason v_detail v_answer v_thrown = some (r, z_this_now, z_this_tried, z_this_kept, z_this_undos, z_this_reason, z_this_detail, z_this_answer, z_this_thrown)) : MW l yX9_put cX9_put 3 (some .int) { frames := 3, cells := 0, slots := 0, locals := 66 } E [.ref (a 0), .int x1, .int x2] ([gX9 E a v_now v_tried v_kept v_undos v_saved v_isSaved v_line v_lined v_text v_length v_at v_order v_told v_error v_reason v_detail v_answer v_thrown v_mixed v_conflicts v_firstConflict] : List va_W).flatten 0 0 (some (.int r)) ([gX9 E a z_this_now z_this_tried z_this_kept z_this_undos v_saved v_isSaved v_line v_lined v_text v_length v_at v_order v_told v_error z_this_reason z_this_detail z_this_answer z_this_thrown v_mixed v_conflicts v_firstConflict] : List va_W).flatten := by
  refine px_startW (by decide +kernel) (Nat.le_of_ble_eq_true rfl) ?_
  intro p e s m args below meth c R Q A ls hC hA0 hQ
  obtain ⟨hx, hb, hr, hml, hts, hown, hlocks, hR, hK, hN, hP, hD, hA, hl, hin⟩ := hC
  have hl : lv_has ls 3 [(0, .ref (a 0)), (1, .int x1), (2, .int x2)] := hl
  suffices key : ∀ (H : Heap) (locs : List Loc), va_P E.1 vwCl ([gX9 E a v_now v_tried v_kept v_undos v_saved v_isSaved v_line v_lined v_text v_length v_at v_order v_told v_error v_reason v_detail v_answer v_thrown v_mixed v_conflicts v_firstConflict] : List va_W).flatten H → va_S A s.heap H locs → W p l e R s m args below meth c H locs 0 0 Q (F0 m 0 ls []) from key s.heap [] hP va_S.rf
  unfold f9_put at h
  intro H locs hP hS
  refine lv_aload_n hx hb dX9_put_0 rfl (lv_at hl 0 rfl) ?_
  obtain ⟨⟨w1, w2⟩, hr3, h⟩ := ob h
  dsimp only at h
  refine px_V (As := []) (rest := []) (gs := ([gX9 E a v_now v_tried v_kept v_undos v_saved v_isSaved v_line v_lined v_text v_length v_at v_order v_told v_error v_reason v_detail v_answer v_thrown v_mixed v_conflicts v_firstConflict] : List va_W)) (gr := ([] : List va_W)) (gc := ([gX9 E a v_now v_tried v_kept v_undos v_saved v_isSaved v_line v_lined v_text v_length v_at v_order v_told v_error v_reason v_detail v_answer v_thrown v_mixed v_conflicts v_firstConflict] : List va_W)) (g1 := ([gX9 E a v_now w1 v_kept v_undos v_saved v_isSaved v_line v_lined v_text v_length v_at v_order v_told v_error v_reason v_detail v_answer w2 v_mixed v_conflicts v_firstConflict] : List va_W)) (g2 := ([gX9 E a v_now w1 v_kept v_undos v_saved v_isSaved v_line v_lined v_text v_length v_at v_order v_told v_error v_reason v_detail v_answer w2 v_mixed v_conflicts v_firstConflict] : List va_W)) ⟨hx, hb, hml, hown, hts⟩ (c9_tries l E a   (v_now) (v_tried) (v_kept) (v_undos) (v_saved) (v_isSaved) (v_line) (v_lined) (v_text) (v_length) (v_at) (v_order) (v_told) (v_error) (v_reason) (v_detail) (v_answer) (v_thrown) (v_mixed) (v_conflicts) (v_firstConflict) w1 w2 hr3) (cwV 0 hts (ws_v q1270 q1272 q17 q68 q1273) rfl rfl rfl hdV_X9_tries (by rw [hR]; exact ⟨Nat.le_of_ble_eq_true rfl, Nat.le_of_ble_eq_true rfl⟩)) hK hN hP hD hS hA [] [0] [0] rfl rfl (by decide) (by decide) rfl (by decide) 0 9 rfl rfl rfl rfl hl.1 rfl (Nat.le_of_ble_eq_true rfl) dX9_put_1 (by rw [hR]; exact ⟨Nat.le_of_ble_eq_true rfl, Nat.le_of_ble_eq_true rfl⟩) (fun H locs hP hD hS => ?_)
  refine W.eq (g2 := F0 m 4 ls []) rfl ?_
  refine lv_aload_n hx hb dX9_put_4 rfl (lv_at hl 0 rfl) ?_
  refine lv_aload_n hx hb dX9_put_5 rfl (lv_at hl 0 rfl) ?_
  refine lv_iload_n hx hb dX9_put_6 rfl (lv_at hl 1 rfl) ?_
  refine lv_iload_n hx hb dX9_put_7 rfl (lv_at hl 2 rfl) ?_
  obtain ⟨⟨r4, w5, w6, w7, w8⟩, hr9, h⟩ := ob h
  dsimp only at h
  refine px_V (As := [.int x1, .int x2]) (rest := [.ref (a 0)]) (gs := ([gX9 E a v_now w1 v_kept v_undos v_saved v_isSaved v_line v_lined v_text v_length v_at v_order v_told v_error v_reason v_detail v_answer w2 v_mixed v_conflicts v_firstConflict] : List va_W)) (gr := ([] : List va_W)) (gc := ([gX9 E a v_now w1 v_kept v_undos v_saved v_isSaved v_line v_lined v_text v_length v_at v_order v_told v_error v_reason v_detail v_answer w2 v_mixed v_conflicts v_firstConflict] : List va_W)) (g1 := ([gX9 E a w5 w1 v_kept v_undos v_saved v_isSaved v_line v_lined v_text v_length v_at v_order v_told v_error w6 w7 w8 w2 v_mixed v_conflicts v_firstConflict] : List va_W)) (g2 := ([gX9 E a w5 w1 v_kept v_undos v_saved v_isSaved v_line v_lined v_text v_length v_at v_order v_told v_error w6 w7 w8 w2 v_mixed v_conflicts v_firstConflict] : List va_W)) ⟨hx, hb, hml, hown, hts⟩ (c9_puts l E a  (x1) (x2) (v_now) (w1) (v_kept) (v_undos) (v_saved) (v_isSaved) (v_line) (v_lined) (v_text) (v_length) (v_at) (v_order) (v_told) (v_error) (v_reason) (v_detail) (v_answer) (w2) (v_mixed) (v_conflicts) (v_firstConflict) r4 w5 w6 w7 w8 hr9) (cwV 2 hts (ws_v q1507 q1509 q49 q68 q1510) rfl rfl rfl hdV_X9_puts (by rw [hR]; exact ⟨Nat.le_of_ble_eq_true rfl, Nat.le_of_ble_eq_true rfl⟩)) hK hN hP hD hS hA [] [0] [0] rfl rfl (by decide) (by decide) rfl (by decide) 0 9 rfl rfl rfl rfl hl.1 rfl (Nat.le_of_ble_eq_true rfl) dX9_put_8 (by rw [hR]; exact ⟨Nat.le_of_ble_eq_true rfl, Nat.le_of_ble_eq_true rfl⟩) (fun H locs hP hD hS => ?_)
  refine W.eq (g2 := F0 m 11 ls [.int r4, .ref (a 0)]) rfl ?_
  obtain ⟨⟨r10, w11, w12, w13⟩, hr14, h⟩ := ob h
  dsimp only at h
  refine px_V (As := [.int r4]) (rest := []) (gs := ([gX9 E a w5 w1 v_kept v_undos v_saved v_isSaved v_line v_lined v_text v_length v_at v_order v_told v_error w6 w7 w8 w2 v_mixed v_conflicts v_firstConflict] : List va_W)) (gr := ([] : List va_W)) (gc := ([gX9 E a w5 w1 v_kept v_undos v_saved v_isSaved v_line v_lined v_text v_length v_at v_order v_told v_error w6 w7 w8 w2 v_mixed v_conflicts v_firstConflict] : List va_W)) (g1 := ([gX9 E a w5 w1 w11 w12 v_saved v_isSaved v_line v_lined v_text v_length v_at v_order v_told v_error w6 w7 w8 w13 v_mixed v_conflicts v_firstConflict] : List va_W)) (g2 := ([gX9 E a w5 w1 w11 w12 v_saved v_isSaved v_line v_lined v_text v_length v_at v_order v_told v_error w6 w7 w8 w13 v_mixed v_conflicts v_firstConflict] : List va_W)) ⟨hx, hb, hml, hown, hts⟩ (c9_endsAt l E a  (r4) (w5) (w1) (v_kept) (v_undos) (v_saved) (v_isSaved) (v_line) (v_lined) (v_text) (v_length) (v_at) (v_order) (v_told) (v_error) (w6) (w7) (w8) (w2) (v_mixed) (v_conflicts) (v_firstConflict) r10 w11 w12 w13 hr14) (cwV 1 hts (ws_v q1332 q1334 q30 q68 q1335) rfl rfl rfl hdV_X9_endsAt (by rw [hR]; exact ⟨Nat.le_of_ble_eq_true rfl, Nat.le_of_ble_eq_true rfl⟩)) hK hN hP hD hS hA [] [0] [0] rfl rfl (by decide) (by decide) rfl (by decide) 0 9 rfl rfl rfl rfl hl.1 rfl (Nat.le_of_ble_eq_true rfl) dX9_put_11 (by rw [hR]; exact ⟨Nat.le_of_ble_eq_true rfl, Nat.le_of_ble_eq_true rfl⟩) (fun H locs hP hD hS => ?_)
  refine W.eq (g2 := F0 m 14 ls [.int r10]) rfl ?_
  cases h
  exact px_eWi hA0 hQ hP hD hS hx hb hr hlocks dX9_put_14
def f9_inBundle_ (x1 : Int32) (v_now : AI) (v_thrown : Int32) : Option (Int32 × Int32) := ((f9_in (x1) ((nI 0)) ((nI 3))).bind fun r1 => (if (b2i r1) = 0 then ((f9_raises ((nI 1)) ((nI 0))).bind fun (r10, w11) => (some (r10, w11))) else (if inb ((nI 3) + x1) 228 = true then (if (v_now (((nI 3) + x1)).toNatClampNeg) = 0 then ((f9_raises ((nI 2)) ((nI 0))).bind fun (r7, w8) => (some (r7, w8))) else (if inb ((nI 3) + x1) 228 = true then (some (((v_now (((nI 3) + x1)).toNatClampNeg) - (nI 1)), (nI 0))) else none)) else none)))
set_option maxHeartbeats 4000000 in
set_option maxRecDepth 100000 in
theorem c9_inBundle_ (l : Launch) (E : PE) (a : Nat → Nat)  (x1 : Int32) (v_now : AI) (v_tried : AI) (v_kept : AI) (v_undos : Int32) (v_saved : AI) (v_isSaved : Int32) (v_line : AI) (v_lined : Int32) (v_text : AI) (v_length : Int32) (v_at : Int32) (v_order : Int32) (v_told : AI) (v_error : Int32) (v_reason : Int32) (v_detail : Int32) (v_answer : Int32) (v_thrown : Int32) (v_mixed : AI) (v_conflicts : Int32) (v_firstConflict : Int32) (r : Int32) (z_this_thrown : Int32) (h : f9_inBundle_ x1 v_now v_thrown = some (r, z_this_thrown)) : MW l yX9_inBundle_ cX9_inBundle_ 2 (some .int) { frames := 1, cells := 0, slots := 0, locals := 22 } E [.ref (a 0), .int x1] ([gX9 E a v_now v_tried v_kept v_undos v_saved v_isSaved v_line v_lined v_text v_length v_at v_order v_told v_error v_reason v_detail v_answer v_thrown v_mixed v_conflicts v_firstConflict] : List va_W).flatten 0 0 (some (.int r)) ([gX9 E a v_now v_tried v_kept v_undos v_saved v_isSaved v_line v_lined v_text v_length v_at v_order v_told v_error v_reason v_detail v_answer z_this_thrown v_mixed v_conflicts v_firstConflict] : List va_W).flatten := by
  refine px_startW (by decide +kernel) (Nat.le_of_ble_eq_true rfl) ?_
  intro p e s m args below meth c R Q A ls hC hA0 hQ
  obtain ⟨hx, hb, hr, hml, hts, hown, hlocks, hR, hK, hN, hP, hD, hA, hl, hin⟩ := hC
  have hl : lv_has ls 2 [(0, .ref (a 0)), (1, .int x1)] := hl
  suffices key : ∀ (H : Heap) (locs : List Loc), va_P E.1 vwCl ([gX9 E a v_now v_tried v_kept v_undos v_saved v_isSaved v_line v_lined v_text v_length v_at v_order v_told v_error v_reason v_detail v_answer v_thrown v_mixed v_conflicts v_firstConflict] : List va_W).flatten H → va_S A s.heap H locs → W p l e R s m args below meth c H locs 0 0 Q (F0 m 0 ls []) from key s.heap [] hP va_S.rf
  unfold f9_inBundle_ at h
  intro H locs hP hS
  refine lv_aload_n hx hb dX9_inBundle__0 rfl (lv_at hl 0 rfl) ?_
  refine lv_iconst (v := (nI 0)) hx hb dX9_inBundle__1 (by decide) ?_
  refine va_put (D := E.1) (ci := 9) (v := .int (nI 0)) (ty := .int) (C := RX9) (T := TX9) (N := 21) hx hb hts iX9 tyX9 tyX9_ok nmX9 hown hK hP hD hS 0 rfl rfl 17 (by decide) (hts _ q1215) (fun _ h9 => h9) rfl (tyX9_ok 17 (by decide)) rfl rfl (Nat.le_of_ble_eq_true rfl) dX9_inBundle__2 (fun H locs hP hD hS => ?_)
  have hP : va_P E.1 vwCl ([gX9 E a v_now v_tried v_kept v_undos v_saved v_isSaved v_line v_lined v_text v_length v_at v_order v_told v_error v_reason v_detail v_answer (nI 0) v_mixed v_conflicts v_firstConflict] : List va_W).flatten H := hP
  have hD : va_D A ([gX9 E a v_now v_tried v_kept v_undos v_saved v_isSaved v_line v_lined v_text v_length v_at v_order v_told v_error v_reason v_detail v_answer (nI 0) v_mixed v_conflicts v_firstConflict] : List va_W).flatten := hD
  refine lv_iload_n hx hb dX9_inBundle__5 rfl (lv_at hl 1 rfl) ?_
  refine lv_iconst (v := (nI 0)) hx hb dX9_inBundle__6 (by decide) ?_
  refine lv_iconst (v := (nI 3)) hx hb dX9_inBundle__7 (by decide) ?_
  obtain ⟨r1, hr2, h⟩ := ob h
  refine px_Sp (As := [.int x1, .int (nI 0), .int (nI 3)]) (rest := []) (gs := ([gX9 E a v_now v_tried v_kept v_undos v_saved v_isSaved v_line v_lined v_text v_length v_at v_order v_told v_error v_reason v_detail v_answer (nI 0) v_mixed v_conflicts v_firstConflict] : List va_W)) (gc := ([] : List va_W)) ⟨hx, hb, hml, hown, hts⟩ (c9_in l E   (x1) ((nI 0)) ((nI 3))  r1 hr2) (va_cwS 3 hts (ws_s q1282 q1283 q68 q1284) rfl rfl rfl hdS_X9_in (by rw [hR]; exact ⟨Nat.le_of_ble_eq_true rfl, Nat.le_of_ble_eq_true rfl⟩)) hK hN hP hD [] rfl (by decide) rfl hl.1 rfl (Nat.le_of_ble_eq_true rfl) dX9_inBundle__8 (by rw [hR]; exact ⟨Nat.le_of_ble_eq_true rfl, Nat.le_of_ble_eq_true rfl⟩) ?_
  refine W.eq (g2 := F0 m 11 ls [.int (b2i r1)]) rfl ?_
  refine lv_if_ne (tgt := 20) hx hb dX9_inBundle__11 (by decide) (fun c3 => ?_) (fun c3 => ?_)
  · rw [if_neg c3] at h
    refine lv_aload_n hx hb dX9_inBundle__20 rfl (lv_at hl 0 rfl) ?_
    refine va_get (D := E.1) (ci := 9) (v := .ref (a 1)) (C := RX9) (T := TX9) (N := 21) hx hb hts iX9 hown hK hP 0 rfl rfl 0 (by decide) (hts _ q1198) (fun _ h9 => h9) rfl dX9_inBundle__21 ?_
    refine lv_iconst (v := (nI 3)) hx hb dX9_inBundle__24 (by decide) ?_
    refine lv_iload_n hx hb dX9_inBundle__25 rfl (lv_at hl 1 rfl) ?_
    refine lv_iadd hx hb dX9_inBundle__26 ?_
    obtain ⟨i4, h⟩ := o_t h
    refine va_iald (f := v_now) hx hb hK hP 1 0 rfl rfl (inb_in i4) dX9_inBundle__27 ?_
    refine lv_if_ne (tgt := 39) hx hb dX9_inBundle__28 (by decide) (fun c5 => ?_) (fun c5 => ?_)
    · rw [if_neg c5] at h
      refine lv_aload_n hx hb dX9_inBundle__39 rfl (lv_at hl 0 rfl) ?_
      refine va_get (D := E.1) (ci := 9) (v := .ref (a 1)) (C := RX9) (T := TX9) (N := 21) hx hb hts iX9 hown hK hP 0 rfl rfl 0 (by decide) (hts _ q1198) (fun _ h9 => h9) rfl dX9_inBundle__40 ?_
      refine lv_iconst (v := (nI 3)) hx hb dX9_inBundle__43 (by decide) ?_
      refine lv_iload_n hx hb dX9_inBundle__44 rfl (lv_at hl 1 rfl) ?_
      refine lv_iadd hx hb dX9_inBundle__45 ?_
      obtain ⟨i6, h⟩ := o_t h
      refine va_iald (f := v_now) hx hb hK hP 1 0 rfl rfl (inb_in i6) dX9_inBundle__46 ?_
      refine lv_iconst (v := (nI 1)) hx hb dX9_inBundle__47 (by decide) ?_
      refine lv_isub hx hb dX9_inBundle__48 ?_
      cases h
      exact px_eWi hA0 hQ hP hD hS hx hb hr hlocks dX9_inBundle__49
    · rw [if_pos c5] at h
      refine lv_aload_n hx hb dX9_inBundle__31 rfl (lv_at hl 0 rfl) ?_
      refine lv_iconst (v := (nI 2)) hx hb dX9_inBundle__32 (by decide) ?_
      obtain ⟨⟨r7, w8⟩, hr9, h⟩ := ob h
      dsimp only at h
      refine px_V (As := [.int (nI 2)]) (rest := []) (gs := ([gX9 E a v_now v_tried v_kept v_undos v_saved v_isSaved v_line v_lined v_text v_length v_at v_order v_told v_error v_reason v_detail v_answer (nI 0) v_mixed v_conflicts v_firstConflict] : List va_W)) (gr := ([] : List va_W)) (gc := ([gX9 E a v_now v_tried v_kept v_undos v_saved v_isSaved v_line v_lined v_text v_length v_at v_order v_told v_error v_reason v_detail v_answer (nI 0) v_mixed v_conflicts v_firstConflict] : List va_W)) (g1 := ([gX9 E a v_now v_tried v_kept v_undos v_saved v_isSaved v_line v_lined v_text v_length v_at v_order v_told v_error v_reason v_detail v_answer w8 v_mixed v_conflicts v_firstConflict] : List va_W)) (g2 := ([gX9 E a v_now v_tried v_kept v_undos v_saved v_isSaved v_line v_lined v_text v_length v_at v_order v_told v_error v_reason v_detail v_answer w8 v_mixed v_conflicts v_firstConflict] : List va_W)) ⟨hx, hb, hml, hown, hts⟩ (c9_raises l E a  ((nI 2)) (v_now) (v_tried) (v_kept) (v_undos) (v_saved) (v_isSaved) (v_line) (v_lined) (v_text) (v_length) (v_at) (v_order) (v_told) (v_error) (v_reason) (v_detail) (v_answer) ((nI 0)) (v_mixed) (v_conflicts) (v_firstConflict) r7 w8 hr9) (cwV 1 hts (ws_v q1320 q1322 q28 q68 q1323) rfl rfl rfl hdV_X9_raises (by rw [hR]; exact ⟨Nat.le_of_ble_eq_true rfl, Nat.le_of_ble_eq_true rfl⟩)) hK hN hP hD hS hA [] [0] [0] rfl rfl (by decide) (by decide) rfl (by decide) 0 9 rfl rfl rfl rfl hl.1 rfl (Nat.le_of_ble_eq_true rfl) dX9_inBundle__33 (by rw [hR]; exact ⟨Nat.le_of_ble_eq_true rfl, Nat.le_of_ble_eq_true rfl⟩) (fun H locs hP hD hS => ?_)
      refine W.eq (g2 := F0 m 36 ls [.int r7]) rfl ?_
      refine lv_goto (tgt := 49) hx hb dX9_inBundle__36 (by decide) ?_
      cases h
      exact px_eWi hA0 hQ hP hD hS hx hb hr hlocks dX9_inBundle__49
  · rw [if_pos c3] at h
    refine lv_aload_n hx hb dX9_inBundle__14 rfl (lv_at hl 0 rfl) ?_
    refine lv_iconst (v := (nI 1)) hx hb dX9_inBundle__15 (by decide) ?_
    obtain ⟨⟨r10, w11⟩, hr12, h⟩ := ob h
    dsimp only at h
    refine px_V (As := [.int (nI 1)]) (rest := []) (gs := ([gX9 E a v_now v_tried v_kept v_undos v_saved v_isSaved v_line v_lined v_text v_length v_at v_order v_told v_error v_reason v_detail v_answer (nI 0) v_mixed v_conflicts v_firstConflict] : List va_W)) (gr := ([] : List va_W)) (gc := ([gX9 E a v_now v_tried v_kept v_undos v_saved v_isSaved v_line v_lined v_text v_length v_at v_order v_told v_error v_reason v_detail v_answer (nI 0) v_mixed v_conflicts v_firstConflict] : List va_W)) (g1 := ([gX9 E a v_now v_tried v_kept v_undos v_saved v_isSaved v_line v_lined v_text v_length v_at v_order v_told v_error v_reason v_detail v_answer w11 v_mixed v_conflicts v_firstConflict] : List va_W)) (g2 := ([gX9 E a v_now v_tried v_kept v_undos v_saved v_isSaved v_line v_lined v_text v_length v_at v_order v_told v_error v_reason v_detail v_answer w11 v_mixed v_conflicts v_firstConflict] : List va_W)) ⟨hx, hb, hml, hown, hts⟩ (c9_raises l E a  ((nI 1)) (v_now) (v_tried) (v_kept) (v_undos) (v_saved) (v_isSaved) (v_line) (v_lined) (v_text) (v_length) (v_at) (v_order) (v_told) (v_error) (v_reason) (v_detail) (v_answer) ((nI 0)) (v_mixed) (v_conflicts) (v_firstConflict) r10 w11 hr12) (cwV 1 hts (ws_v q1320 q1322 q28 q68 q1323) rfl rfl rfl hdV_X9_raises (by rw [hR]; exact ⟨Nat.le_of_ble_eq_true rfl, Nat.le_of_ble_eq_true rfl⟩)) hK hN hP hD hS hA [] [0] [0] rfl rfl (by decide) (by decide) rfl (by decide) 0 9 rfl rfl rfl rfl hl.1 rfl (Nat.le_of_ble_eq_true rfl) dX9_inBundle__16 (by rw [hR]; exact ⟨Nat.le_of_ble_eq_true rfl, Nat.le_of_ble_eq_true rfl⟩) (fun H locs hP hD hS => ?_)
    refine W.eq (g2 := F0 m 19 ls [.int r10]) rfl ?_
    cases h
    exact px_eWi hA0 hQ hP hD hS hx hb hr hlocks dX9_inBundle__19
def f9_plays_L46 (x1 : Int32) (x2 : Int32) : Nat → Int32 → Int32 → AI → Int32 → Int32 → Int32 → AI → Int32 → Int32 → Option (Int32 × AI × Int32 × Int32 × Int32 × AI × Int32 × Int32)
  | 0, _, _, _, _, _, _, _, _, _ => none
  | n + 1, x3, x4, v_now, v_reason, v_detail, v_answer, v_mixed, v_conflicts, v_firstConflict => (if (nI 4) ≤ x4 then ((f9_does (x3) (v_answer)).bind fun (r15, w16) => (some (r15, v_now, v_reason, v_detail, w16, v_mixed, v_conflicts, v_firstConflict))) else (if inb ((nI 3) + x4) 228 = true then (if (v_now (((nI 3) + x4)).toNatClampNeg) = 0 then (f9_plays_L46 x1 x2 n (x3) ((x4 + nI 1)) (v_now) (v_reason) (v_detail) (v_answer) (v_mixed) (v_conflicts) (v_firstConflict)) else (if inb ((nI 3) + x4) 228 = true then ((f9_picks (x1) (((v_now (((nI 3) + x4)).toNatClampNeg) - (nI 1))) (x2) (v_now) (v_reason) (v_detail) (v_answer) (v_mixed) (v_conflicts) (v_firstConflict)).bind fun (r21, w22, w23, w24, w25, w26, w27, w28) => (if r21 = 0 then (f9_plays_L46 x1 x2 n ((x3 + nI 1)) ((x4 + nI 1)) (w22) (w23) (w24) (w25) (w26) (w27) (w28)) else (some (r21, w22, w23, w24, w25, w26, w27, w28)))) else none)) else none))
def f9_plays (x1 : Int32) (x2 : Int32) (v_now : AI) (v_reason : Int32) (v_detail : Int32) (v_answer : Int32) (v_mixed : AI) (v_conflicts : Int32) (v_firstConflict : Int32) : Option (Int32 × AI × Int32 × Int32 × Int32 × AI × Int32 × Int32) := ((f9_isBranch (x1) (v_now)).bind fun r1 => (if (b2i r1) = 0 then (some ((nI 1), v_now, v_reason, v_detail, v_answer, v_mixed, v_conflicts, v_firstConflict)) else ((f9_in (x2) ((nI 0)) ((nI 3))).bind fun r4 => (if (b2i r4) = 0 then (some ((nI 2), v_now, v_reason, v_detail, v_answer, v_mixed, v_conflicts, v_firstConflict)) else ((f9_inBundle (v_now)).bind fun r7 => (if r7 = 0 then ((f9_refuses ((nI 11)) ((v_now ((nI 2)).toNatClampNeg)) (v_reason) (v_detail)).bind fun (r10, w11, w12) => (some (r10, v_now, w11, w12, v_answer, v_mixed, v_conflicts, v_firstConflict))) else (f9_plays_L46 x1 x2 fuel ((nI 0)) ((nI 0)) (v_now) (v_reason) (v_detail) (v_answer) (v_mixed) (v_conflicts) (v_firstConflict))))))))
set_option maxHeartbeats 4000000 in
set_option maxRecDepth 100000 in
theorem c9_plays (l : Launch) (E : PE) (a : Nat → Nat)  (x1 : Int32) (x2 : Int32) (v_now : AI) (v_tried : AI) (v_kept : AI) (v_undos : Int32) (v_saved : AI) (v_isSaved : Int32) (v_line : AI) (v_lined : Int32) (v_text : AI) (v_length : Int32) (v_at : Int32) (v_order : Int32) (v_told : AI) (v_error : Int32) (v_reason : Int32) (v_detail : Int32) (v_answer : Int32) (v_thrown : Int32) (v_mixed : AI) (v_conflicts : Int32) (v_firstConflict : Int32) (r : Int32) (z_this_now : AI) (z_this_reason : Int32) (z_this_detail : Int32) (z_this_answer : Int32) (z_this_mixed : AI) (z_this_conflicts : Int32) (z_this_firstConflict : Int32) (h : f9_plays x1 x2 v_now v_reason v_detail v_answer v_mixed v_conflicts v_firstConflict = some (r, z_this_now, z_this_reason, z_this_detail, z_this_answer, z_this_mixed, z_this_conflicts, z_this_firstConflict)) : MW l yX9_plays cX9_plays 6 (some .int) { frames := 5, cells := 0, slots := 0, locals := 116 } E [.ref (a 0), .int x1, .int x2] ([gX9 E a v_now v_tried v_kept v_undos v_saved v_isSaved v_line v_lined v_text v_length v_at v_order v_told v_error v_reason v_detail v_answer v_thrown v_mixed v_conflicts v_firstConflict] : List va_W).flatten 0 0 (some (.int r)) ([gX9 E a z_this_now v_tried v_kept v_undos v_saved v_isSaved v_line v_lined v_text v_length v_at v_order v_told v_error z_this_reason z_this_detail z_this_answer v_thrown z_this_mixed z_this_conflicts z_this_firstConflict] : List va_W).flatten := by
  refine px_startW (by decide +kernel) (Nat.le_of_ble_eq_true rfl) ?_
  intro p e s m args below meth c R Q A ls hC hA0 hQ
  obtain ⟨hx, hb, hr, hml, hts, hown, hlocks, hR, hK, hN, hP, hD, hA, hl, hin⟩ := hC
  have hl : lv_has ls 6 [(0, .ref (a 0)), (1, .int x1), (2, .int x2)] := hl
  suffices key : ∀ (H : Heap) (locs : List Loc), va_P E.1 vwCl ([gX9 E a v_now v_tried v_kept v_undos v_saved v_isSaved v_line v_lined v_text v_length v_at v_order v_told v_error v_reason v_detail v_answer v_thrown v_mixed v_conflicts v_firstConflict] : List va_W).flatten H → va_S A s.heap H locs → W p l e R s m args below meth c H locs 0 0 Q (F0 m 0 ls []) from key s.heap [] hP va_S.rf
  unfold f9_plays at h
  have L46 : ∀ (n : Nat) (x3 : Int32) (x4 : Int32) (v_now : AI) (v_reason : Int32) (v_detail : Int32) (v_answer : Int32) (v_mixed : AI) (v_conflicts : Int32) (v_firstConflict : Int32) (H : Heap) (locs : List Loc) (ls : Array Slot), va_P E.1 vwCl ([gX9 E a v_now v_tried v_kept v_undos v_saved v_isSaved v_line v_lined v_text v_length v_at v_order v_told v_error v_reason v_detail v_answer v_thrown v_mixed v_conflicts v_firstConflict] : List va_W).flatten H → va_D A ([gX9 E a v_now v_tried v_kept v_undos v_saved v_isSaved v_line v_lined v_text v_length v_at v_order v_told v_error v_reason v_detail v_answer v_thrown v_mixed v_conflicts v_firstConflict] : List va_W).flatten → va_S A s.heap H locs → lv_has ls 6 [(0, .ref (a 0)), (1, .int x1), (2, .int x2), (3, .int x3), (4, .int x4)] → f9_plays_L46 x1 x2 n x3 x4 v_now v_reason v_detail v_answer v_mixed v_conflicts v_firstConflict = some (r, z_this_now, z_this_reason, z_this_detail, z_this_answer, z_this_mixed, z_this_conflicts, z_this_firstConflict) → W p l e R s m args below meth c H locs 0 0 Q (F0 m 46 ls []) := by
    intro n
    induction n with
    | zero =>
      intro x3 x4 v_now v_reason v_detail v_answer v_mixed v_conflicts v_firstConflict H locs ls hP hD hS hl h
      unfold f9_plays_L46 at h; cases h
    | succ n ih =>
      intro x3 x4 v_now v_reason v_detail v_answer v_mixed v_conflicts v_firstConflict H locs ls hP hD hS hl h
      unfold f9_plays_L46 at h
      refine lv_iload hx hb dX9_plays_46 (lv_at hl 4 rfl) ?_
      refine lv_iconst (v := (nI 4)) hx hb dX9_plays_48 (by decide) ?_
      refine lv_icmp_ge (tgt := 103) hx hb dX9_plays_49 (by decide) (fun c14 => ?_) (fun c14 => ?_)
      · rw [if_pos c14] at h
        refine lv_aload_n hx hb dX9_plays_103 rfl (lv_at hl 0 rfl) ?_
        refine lv_iload_n hx hb dX9_plays_104 rfl (lv_at hl 3 rfl) ?_
        obtain ⟨⟨r15, w16⟩, hr17, h⟩ := ob h
        dsimp only at h
        refine px_V (As := [.int x3]) (rest := []) (gs := ([gX9 E a v_now v_tried v_kept v_undos v_saved v_isSaved v_line v_lined v_text v_length v_at v_order v_told v_error v_reason v_detail v_answer v_thrown v_mixed v_conflicts v_firstConflict] : List va_W)) (gr := ([] : List va_W)) (gc := ([gX9 E a v_now v_tried v_kept v_undos v_saved v_isSaved v_line v_lined v_text v_length v_at v_order v_told v_error v_reason v_detail v_answer v_thrown v_mixed v_conflicts v_firstConflict] : List va_W)) (g1 := ([gX9 E a v_now v_tried v_kept v_undos v_saved v_isSaved v_line v_lined v_text v_length v_at v_order v_told v_error v_reason v_detail w16 v_thrown v_mixed v_conflicts v_firstConflict] : List va_W)) (g2 := ([gX9 E a v_now v_tried v_kept v_undos v_saved v_isSaved v_line v_lined v_text v_length v_at v_order v_told v_error v_reason v_detail w16 v_thrown v_mixed v_conflicts v_firstConflict] : List va_W)) ⟨hx, hb, hml, hown, hts⟩ (c9_does l E a  (x3) (v_now) (v_tried) (v_kept) (v_undos) (v_saved) (v_isSaved) (v_line) (v_lined) (v_text) (v_length) (v_at) (v_order) (v_told) (v_error) (v_reason) (v_detail) (v_answer) (v_thrown) (v_mixed) (v_conflicts) (v_firstConflict) r15 w16 hr17) (cwV 1 hts (ws_v q1308 q1310 q25 q68 q1311) rfl rfl rfl hdV_X9_does (by rw [hR]; exact ⟨Nat.le_of_ble_eq_true rfl, Nat.le_of_ble_eq_true rfl⟩)) hK hN hP hD hS hA [] [0] [0] rfl rfl (by decide) (by decide) rfl (by decide) 0 9 rfl rfl rfl rfl hl.1 rfl (Nat.le_of_ble_eq_true rfl) dX9_plays_105 (by rw [hR]; exact ⟨Nat.le_of_ble_eq_true rfl, Nat.le_of_ble_eq_true rfl⟩) (fun H locs hP hD hS => ?_)
        refine W.eq (g2 := F0 m 108 ls [.int r15]) rfl ?_
        cases h
        exact px_eWi hA0 hQ hP hD hS hx hb hr hlocks dX9_plays_108
      · rw [if_neg c14] at h
        refine lv_aload_n hx hb dX9_plays_52 rfl (lv_at hl 0 rfl) ?_
        refine va_get (D := E.1) (ci := 9) (v := .ref (a 1)) (C := RX9) (T := TX9) (N := 21) hx hb hts iX9 hown hK hP 0 rfl rfl 0 (by decide) (hts _ q1198) (fun _ h9 => h9) rfl dX9_plays_53 ?_
        refine lv_iconst (v := (nI 3)) hx hb dX9_plays_56 (by decide) ?_
        refine lv_iload hx hb dX9_plays_57 (lv_at hl 4 rfl) ?_
        refine lv_iadd hx hb dX9_plays_59 ?_
        obtain ⟨i18, h⟩ := o_t h
        refine va_iald (f := v_now) hx hb hK hP 1 0 rfl rfl (inb_in i18) dX9_plays_60 ?_
        refine lv_if_ne (tgt := 67) hx hb dX9_plays_61 (by decide) (fun c19 => ?_) (fun c19 => ?_)
        · rw [if_neg c19] at h
          refine lv_aload_n hx hb dX9_plays_67 rfl (lv_at hl 0 rfl) ?_
          refine lv_iload_n hx hb dX9_plays_68 rfl (lv_at hl 1 rfl) ?_
          refine lv_aload_n hx hb dX9_plays_69 rfl (lv_at hl 0 rfl) ?_
          refine va_get (D := E.1) (ci := 9) (v := .ref (a 1)) (C := RX9) (T := TX9) (N := 21) hx hb hts iX9 hown hK hP 0 rfl rfl 0 (by decide) (hts _ q1198) (fun _ h9 => h9) rfl dX9_plays_70 ?_
          refine lv_iconst (v := (nI 3)) hx hb dX9_plays_73 (by decide) ?_
          refine lv_iload hx hb dX9_plays_74 (lv_at hl 4 rfl) ?_
          refine lv_iadd hx hb dX9_plays_76 ?_
          obtain ⟨i20, h⟩ := o_t h
          refine va_iald (f := v_now) hx hb hK hP 1 0 rfl rfl (inb_in i20) dX9_plays_77 ?_
          refine lv_iconst (v := (nI 1)) hx hb dX9_plays_78 (by decide) ?_
          refine lv_isub hx hb dX9_plays_79 ?_
          refine lv_iload_n hx hb dX9_plays_80 rfl (lv_at hl 2 rfl) ?_
          obtain ⟨⟨r21, w22, w23, w24, w25, w26, w27, w28⟩, hr29, h⟩ := ob h
          dsimp only at h
          refine px_V (As := [.int x1, .int ((v_now (((nI 3) + x4)).toNatClampNeg) - (nI 1)), .int x2]) (rest := []) (gs := ([gX9 E a v_now v_tried v_kept v_undos v_saved v_isSaved v_line v_lined v_text v_length v_at v_order v_told v_error v_reason v_detail v_answer v_thrown v_mixed v_conflicts v_firstConflict] : List va_W)) (gr := ([] : List va_W)) (gc := ([gX9 E a v_now v_tried v_kept v_undos v_saved v_isSaved v_line v_lined v_text v_length v_at v_order v_told v_error v_reason v_detail v_answer v_thrown v_mixed v_conflicts v_firstConflict] : List va_W)) (g1 := ([gX9 E a w22 v_tried v_kept v_undos v_saved v_isSaved v_line v_lined v_text v_length v_at v_order v_told v_error w23 w24 w25 v_thrown w26 w27 w28] : List va_W)) (g2 := ([gX9 E a w22 v_tried v_kept v_undos v_saved v_isSaved v_line v_lined v_text v_length v_at v_order v_told v_error w23 w24 w25 v_thrown w26 w27 w28] : List va_W)) ⟨hx, hb, hml, hown, hts⟩ (c9_picks l E a  (x1) (((v_now (((nI 3) + x4)).toNatClampNeg) - (nI 1))) (x2) (v_now) (v_tried) (v_kept) (v_undos) (v_saved) (v_isSaved) (v_line) (v_lined) (v_text) (v_length) (v_at) (v_order) (v_told) (v_error) (v_reason) (v_detail) (v_answer) (v_thrown) (v_mixed) (v_conflicts) (v_firstConflict) r21 w22 w23 w24 w25 w26 w27 w28 hr29) (cwV 3 hts (ws_v q1402 q1404 q41 q68 q1405) rfl rfl rfl hdV_X9_picks (by rw [hR]; exact ⟨Nat.le_of_ble_eq_true rfl, Nat.le_of_ble_eq_true rfl⟩)) hK hN hP hD hS hA [] [0] [0] rfl rfl (by decide) (by decide) rfl (by decide) 0 9 rfl rfl rfl rfl hl.1 rfl (Nat.le_of_ble_eq_true rfl) dX9_plays_81 (by rw [hR]; exact ⟨Nat.le_of_ble_eq_true rfl, Nat.le_of_ble_eq_true rfl⟩) (fun H locs hP hD hS => ?_)
          refine W.eq (g2 := F0 m 84 ls [.int r21]) rfl ?_
          refine lv_istore (lv' := [(5, .int r21), (0, .ref (a 0)), (1, .int x1), (2, .int x2), (3, .int x3), (4, .int x4)]) hx hb dX9_plays_84 hl (by decide) rfl (fun ls hl => ?_)
          refine lv_iload hx hb dX9_plays_86 (lv_at hl 0 rfl) ?_
          refine lv_if_eq (tgt := 94) hx hb dX9_plays_88 (by decide) (fun c30 => ?_) (fun c30 => ?_)
          · rw [if_pos c30] at h
            refine lv_iinc (v := (x3 + nI 1)) (lv' := [(3, .int (x3 + nI 1)), (5, .int r21), (0, .ref (a 0)), (1, .int x1), (2, .int x2), (4, .int x4)]) hx hb dX9_plays_94 hl (k := 4) rfl rfl (by decide) rfl (fun ls hl => ?_)
            refine lv_iinc (v := (x4 + nI 1)) (lv' := [(4, .int (x4 + nI 1)), (3, .int (x3 + nI 1)), (5, .int r21), (0, .ref (a 0)), (1, .int x1), (2, .int x2)]) hx hb dX9_plays_97 hl (k := 5) rfl rfl (by decide) rfl (fun ls hl => ?_)
            refine lv_goto (tgt := 46) hx hb dX9_plays_100 (by decide) ?_
            exact ih ((x3 + nI 1)) ((x4 + nI 1)) (w22) (w23) (w24) (w25) (w26) (w27) (w28) H locs ls hP hD hS (lv_sub hl [3, 4, 5, 1, 0] rfl) h
          · rw [if_neg c30] at h
            refine lv_iload hx hb dX9_plays_91 (lv_at hl 0 rfl) ?_
            cases h
            exact px_eWi hA0 hQ hP hD hS hx hb hr hlocks dX9_plays_93
        · rw [if_pos c19] at h
          refine lv_goto (tgt := 97) hx hb dX9_plays_64 (by decide) ?_
          refine lv_iinc (v := (x4 + nI 1)) (lv' := [(4, .int (x4 + nI 1)), (0, .ref (a 0)), (1, .int x1), (2, .int x2), (3, .int x3)]) hx hb dX9_plays_97 hl (k := 4) rfl rfl (by decide) rfl (fun ls hl => ?_)
          refine lv_goto (tgt := 46) hx hb dX9_plays_100 (by decide) ?_
          exact ih (x3) ((x4 + nI 1)) (v_now) (v_reason) (v_detail) (v_answer) (v_mixed) (v_conflicts) (v_firstConflict) H locs ls hP hD hS (lv_sub hl [1, 2, 3, 4, 0] rfl) h
  intro H locs hP hS
  refine lv_aload_n hx hb dX9_plays_0 rfl (lv_at hl 0 rfl) ?_
  refine lv_iload_n hx hb dX9_plays_1 rfl (lv_at hl 1 rfl) ?_
  obtain ⟨r1, hr2, h⟩ := ob h
  refine px_Vp (As := [.int x1]) (rest := []) (gs := ([gX9 E a v_now v_tried v_kept v_undos v_saved v_isSaved v_line v_lined v_text v_length v_at v_order v_told v_error v_reason v_detail v_answer v_thrown v_mixed v_conflicts v_firstConflict] : List va_W)) (gc := ([gX9 E a v_now v_tried v_kept v_undos v_saved v_isSaved v_line v_lined v_text v_length v_at v_order v_told v_error v_reason v_detail v_answer v_thrown v_mixed v_conflicts v_firstConflict] : List va_W)) ⟨hx, hb, hml, hown, hts⟩ (c9_isBranch l E a  (x1) (v_now) (v_tried) (v_kept) (v_undos) (v_saved) (v_isSaved) (v_line) (v_lined) (v_text) (v_length) (v_at) (v_order) (v_told) (v_error) (v_reason) (v_detail) (v_answer) (v_thrown) (v_mixed) (v_conflicts) (v_firstConflict) r1 hr2) (cwV 1 hts (ws_v q1278 q1280 q19 q68 q1281) rfl rfl rfl hdV_X9_isBranch (by rw [hR]; exact ⟨Nat.le_of_ble_eq_true rfl, Nat.le_of_ble_eq_true rfl⟩)) hK hN hP hD [0] rfl (by decide) 0 9 rfl rfl rfl rfl hl.1 rfl (Nat.le_of_ble_eq_true rfl) dX9_plays_2 (by rw [hR]; exact ⟨Nat.le_of_ble_eq_true rfl, Nat.le_of_ble_eq_true rfl⟩) ?_
  refine W.eq (g2 := F0 m 5 ls [.int (b2i r1)]) rfl ?_
  refine lv_if_ne (tgt := 10) hx hb dX9_plays_5 (by decide) (fun c3 => ?_) (fun c3 => ?_)
  · rw [if_neg c3] at h
    refine lv_iload_n hx hb dX9_plays_10 rfl (lv_at hl 2 rfl) ?_
    refine lv_iconst (v := (nI 0)) hx hb dX9_plays_11 (by decide) ?_
    refine lv_iconst (v := (nI 3)) hx hb dX9_plays_12 (by decide) ?_
    obtain ⟨r4, hr5, h⟩ := ob h
    refine px_Sp (As := [.int x2, .int (nI 0), .int (nI 3)]) (rest := []) (gs := ([gX9 E a v_now v_tried v_kept v_undos v_saved v_isSaved v_line v_lined v_text v_length v_at v_order v_told v_error v_reason v_detail v_answer v_thrown v_mixed v_conflicts v_firstConflict] : List va_W)) (gc := ([] : List va_W)) ⟨hx, hb, hml, hown, hts⟩ (c9_in l E   (x2) ((nI 0)) ((nI 3))  r4 hr5) (va_cwS 3 hts (ws_s q1282 q1283 q68 q1284) rfl rfl rfl hdS_X9_in (by rw [hR]; exact ⟨Nat.le_of_ble_eq_true rfl, Nat.le_of_ble_eq_true rfl⟩)) hK hN hP hD [] rfl (by decide) rfl hl.1 rfl (Nat.le_of_ble_eq_true rfl) dX9_plays_13 (by rw [hR]; exact ⟨Nat.le_of_ble_eq_true rfl, Nat.le_of_ble_eq_true rfl⟩) ?_
    refine W.eq (g2 := F0 m 16 ls [.int (b2i r4)]) rfl ?_
    refine lv_if_ne (tgt := 21) hx hb dX9_plays_16 (by decide) (fun c6 => ?_) (fun c6 => ?_)
    · rw [if_neg c6] at h
      refine lv_aload_n hx hb dX9_plays_21 rfl (lv_at hl 0 rfl) ?_
      obtain ⟨r7, hr8, h⟩ := ob h
      refine px_Vp (As := []) (rest := []) (gs := ([gX9 E a v_now v_tried v_kept v_undos v_saved v_isSaved v_line v_lined v_text v_length v_at v_order v_told v_error v_reason v_detail v_answer v_thrown v_mixed v_conflicts v_firstConflict] : List va_W)) (gc := ([gX9 E a v_now v_tried v_kept v_undos v_saved v_isSaved v_line v_lined v_text v_length v_at v_order v_told v_error v_reason v_detail v_answer v_thrown v_mixed v_conflicts v_firstConflict] : List va_W)) ⟨hx, hb, hml, hown, hts⟩ (c9_inBundle l E a   (v_now) (v_tried) (v_kept) (v_undos) (v_saved) (v_isSaved) (v_line) (v_lined) (v_text) (v_length) (v_at) (v_order) (v_told) (v_error) (v_reason) (v_detail) (v_answer) (v_thrown) (v_mixed) (v_conflicts) (v_firstConflict) r7 hr8) (cwV 0 hts (ws_v q1499 q1501 q48 q68 q1502) rfl rfl rfl hdV_X9_inBundle (by rw [hR]; exact ⟨Nat.le_of_ble_eq_true rfl, Nat.le_of_ble_eq_true rfl⟩)) hK hN hP hD [0] rfl (by decide) 0 9 rfl rfl rfl rfl hl.1 rfl (Nat.le_of_ble_eq_true rfl) dX9_plays_22 (by rw [hR]; exact ⟨Nat.le_of_ble_eq_true rfl, Nat.le_of_ble_eq_true rfl⟩) ?_
      refine W.eq (g2 := F0 m 25 ls [.int r7]) rfl ?_
      refine lv_if_ne (tgt := 41) hx hb dX9_plays_25 (by decide) (fun c9 => ?_) (fun c9 => ?_)
      · rw [if_neg c9] at h
        refine lv_iconst (v := (nI 0)) hx hb dX9_plays_41 (by decide) ?_
        refine lv_istore_n (lv' := [(3, .int (nI 0)), (0, .ref (a 0)), (1, .int x1), (2, .int x2)]) hx hb dX9_plays_42 rfl hl (by decide) rfl (fun ls hl => ?_)
        refine lv_iconst (v := (nI 0)) hx hb dX9_plays_43 (by decide) ?_
        refine lv_istore (lv' := [(4, .int (nI 0)), (3, .int (nI 0)), (0, .ref (a 0)), (1, .int x1), (2, .int x2)]) hx hb dX9_plays_44 hl (by decide) rfl (fun ls hl => ?_)
        exact L46 fuel ((nI 0)) ((nI 0)) (v_now) (v_reason) (v_detail) (v_answer) (v_mixed) (v_conflicts) (v_firstConflict) H locs ls hP hD hS (lv_sub hl [2, 3, 4, 1, 0] rfl) h
      · rw [if_pos c9] at h
        refine lv_aload_n hx hb dX9_plays_28 rfl (lv_at hl 0 rfl) ?_
        refine lv_bipush (v := (nI 11)) hx hb dX9_plays_29 (by decide) ?_
        refine lv_aload_n hx hb dX9_plays_31 rfl (lv_at hl 0 rfl) ?_
        refine va_get (D := E.1) (ci := 9) (v := .ref (a 1)) (C := RX9) (T := TX9) (N := 21) hx hb hts iX9 hown hK hP 0 rfl rfl 0 (by decide) (hts _ q1198) (fun _ h9 => h9) rfl dX9_plays_32 ?_
        refine lv_iconst (v := (nI 2)) hx hb dX9_plays_35 (by decide) ?_
        refine va_iald (f := v_now) hx hb hK hP 1 0 rfl rfl (inb_in (i := (nI 2)) (n := 228) (by decide)) dX9_plays_36 ?_
        obtain ⟨⟨r10, w11, w12⟩, hr13, h⟩ := ob h
        dsimp only at h
        refine px_V (As := [.int (nI 11), .int (v_now ((nI 2)).toNatClampNeg)]) (rest := []) (gs := ([gX9 E a v_now v_tried v_kept v_undos v_saved v_isSaved v_line v_lined v_text v_length v_at v_order v_told v_error v_reason v_detail v_answer v_thrown v_mixed v_conflicts v_firstConflict] : List va_W)) (gr := ([] : List va_W)) (gc := ([gX9 E a v_now v_tried v_kept v_undos v_saved v_isSaved v_line v_lined v_text v_length v_at v_order v_told v_error v_reason v_detail v_answer v_thrown v_mixed v_conflicts v_firstConflict] : List va_W)) (g1 := ([gX9 E a v_now v_tried v_kept v_undos v_saved v_isSaved v_line v_lined v_text v_length v_at v_order v_told v_error w11 w12 v_answer v_thrown v_mixed v_conflicts v_firstConflict] : List va_W)) (g2 := ([gX9 E a v_now v_tried v_kept v_undos v_saved v_isSaved v_line v_lined v_text v_length v_at v_order v_told v_error w11 w12 v_answer v_thrown v_mixed v_conflicts v_firstConflict] : List va_W)) ⟨hx, hb, hml, hown, hts⟩ (c9_refuses l E a  ((nI 11)) ((v_now ((nI 2)).toNatClampNeg)) (v_now) (v_tried) (v_kept) (v_undos) (v_saved) (v_isSaved) (v_line) (v_lined) (v_text) (v_length) (v_at) (v_order) (v_told) (v_error) (v_reason) (v_detail) (v_answer) (v_thrown) (v_mixed) (v_conflicts) (v_firstConflict) r10 w11 w12 hr13) (cwV 2 hts (ws_v q1300 q1302 q23 q68 q1303) rfl rfl rfl hdV_X9_refuses (by rw [hR]; exact ⟨Nat.le_of_ble_eq_true rfl, Nat.le_of_ble_eq_true rfl⟩)) hK hN hP hD hS hA [] [0] [0] rfl rfl (by decide) (by decide) rfl (by decide) 0 9 rfl rfl rfl rfl hl.1 rfl (Nat.le_of_ble_eq_true rfl) dX9_plays_37 (by rw [hR]; exact ⟨Nat.le_of_ble_eq_true rfl, Nat.le_of_ble_eq_true rfl⟩) (fun H locs hP hD hS => ?_)
        refine W.eq (g2 := F0 m 40 ls [.int r10]) rfl ?_
        cases h
        exact px_eWi hA0 hQ hP hD hS hx hb hr hlocks dX9_plays_40
    · rw [if_pos c6] at h
      refine lv_iconst (v := (nI 2)) hx hb dX9_plays_19 (by decide) ?_
      cases h
      exact px_eWi hA0 hQ hP hD hS hx hb hr hlocks dX9_plays_20
  · rw [if_pos c3] at h
    refine lv_iconst (v := (nI 1)) hx hb dX9_plays_8 (by decide) ?_
    cases h
    exact px_eWi hA0 hQ hP hD hS hx hb hr hlocks dX9_plays_9
def f9_play (x1 : Int32) (x2 : Int32) (v_now : AI) (v_tried : AI) (v_kept : AI) (v_undos : Int32) (v_reason : Int32) (v_detail : Int32) (v_answer : Int32) (v_thrown : Int32) (v_mixed : AI) (v_conflicts : Int32) (v_firstConflict : Int32) : Option (Int32 × AI × AI × AI × Int32 × Int32 × Int32 × Int32 × Int32 × AI × Int32 × Int32) := ((f9_tries (v_now) (v_tried) (v_thrown)).bind fun (w1, w2) => ((f9_plays (x1) (x2) (v_now) (v_reason) (v_detail) (v_answer) (v_mixed) (v_conflicts) (v_firstConflict)).bind fun (r4, w5, w6, w7, w8, w9, w10, w11) => (if r4 = 0 then ((f9_ends (r4) (w1) (v_kept) (v_undos) (w8) (w2)).bind fun (r14, w15, w16, w17) => (some (r14, w5, w1, w15, w16, w6, w7, w8, w17, w9, w10, w11))) else ((f9_comesBack (w5) (w1)).bind fun w19 => ((f9_ends (r4) (w1) (v_kept) (v_undos) (w8) (w2)).bind fun (r21, w22, w23, w24) => (some (r21, w19, w1, w22, w23, w6, w7, w8, w24, w9, w10, w11)))))))
set_option maxHeartbeats 4000000 in
set_option maxRecDepth 100000 in
theorem c9_play (l : Launch) (E : PE) (a : Nat → Nat)  (x1 : Int32) (x2 : Int32) (v_now : AI) (v_tried : AI) (v_kept : AI) (v_undos : Int32) (v_saved : AI) (v_isSaved : Int32) (v_line : AI) (v_lined : Int32) (v_text : AI) (v_length : Int32) (v_at : Int32) (v_order : Int32) (v_told : AI) (v_error : Int32) (v_reason : Int32) (v_detail : Int32) (v_answer : Int32) (v_thrown : Int32) (v_mixed : AI) (v_conflicts : Int32) (v_firstConflict : Int32) (r : Int32) (z_this_now : AI) (z_this_tried : AI) (z_this_kept : AI) (z_this_undos : Int32) (z_this_reason : Int32) (z_this_detail : Int32) (z_this_answer : Int32) (z_this_thrown : Int32) (z_this_mixed : AI) (z_this_conflicts : Int32) (z_this_firstConflict : Int32) (h : f9_play x1 x2 v_now v_tried v_kept v_undos v_reason v_detail v_answer v_thrown v_mixed v_conflicts v_firstConflict = some (r, z_this_now, z_this_tried, z_this_kept, z_this_undos, z_this_reason, z_this_detail, z_this_answer, z_this_thrown, z_this_mixed, z_this_conflicts, z_this_firstConflict)) : MW l yX9_play cX9_play 4 (some .int) { frames := 6, cells := 0, slots := 0, locals := 141 } E [.ref (a 0), .int x1, .int x2] ([gX9 E a v_now v_tried v_kept v_undos v_saved v_isSaved v_line v_lined v_text v_length v_at v_order v_told v_error v_reason v_detail v_answer v_thrown v_mixed v_conflicts v_firstConflict] : List va_W).flatten 0 0 (some (.int r)) ([gX9 E a z_this_now z_this_tried z_this_kept z_this_undos v_saved v_isSaved v_line v_lined v_text v_length v_at v_order v_told v_error z_this_reason z_this_detail z_this_answer z_this_thrown z_this_mixed z_this_conflicts z_this_firstConflict] : List va_W).flatten := by
  refine px_startW (by decide +kernel) (Nat.le_of_ble_eq_true rfl) ?_
  intro p e s m args below meth c R Q A ls hC hA0 hQ
  obtain ⟨hx, hb, hr, hml, hts, hown, hlocks, hR, hK, hN, hP, hD, hA, hl, hin⟩ := hC
  have hl : lv_has ls 4 [(0, .ref (a 0)), (1, .int x1), (2, .int x2)] := hl
  suffices key : ∀ (H : Heap) (locs : List Loc), va_P E.1 vwCl ([gX9 E a v_now v_tried v_kept v_undos v_saved v_isSaved v_line v_lined v_text v_length v_at v_order v_told v_error v_reason v_detail v_answer v_thrown v_mixed v_conflicts v_firstConflict] : List va_W).flatten H → va_S A s.heap H locs → W p l e R s m args below meth c H locs 0 0 Q (F0 m 0 ls []) from key s.heap [] hP va_S.rf
  unfold f9_play at h
  intro H locs hP hS
  refine lv_aload_n hx hb dX9_play_0 rfl (lv_at hl 0 rfl) ?_
  obtain ⟨⟨w1, w2⟩, hr3, h⟩ := ob h
  dsimp only at h
  refine px_V (As := []) (rest := []) (gs := ([gX9 E a v_now v_tried v_kept v_undos v_saved v_isSaved v_line v_lined v_text v_length v_at v_order v_told v_error v_reason v_detail v_answer v_thrown v_mixed v_conflicts v_firstConflict] : List va_W)) (gr := ([] : List va_W)) (gc := ([gX9 E a v_now v_tried v_kept v_undos v_saved v_isSaved v_line v_lined v_text v_length v_at v_order v_told v_error v_reason v_detail v_answer v_thrown v_mixed v_conflicts v_firstConflict] : List va_W)) (g1 := ([gX9 E a v_now w1 v_kept v_undos v_saved v_isSaved v_line v_lined v_text v_length v_at v_order v_told v_error v_reason v_detail v_answer w2 v_mixed v_conflicts v_firstConflict] : List va_W)) (g2 := ([gX9 E a v_now w1 v_kept v_undos v_saved v_isSaved v_line v_lined v_text v_length v_at v_order v_told v_error v_reason v_detail v_answer w2 v_mixed v_conflicts v_firstConflict] : List va_W)) ⟨hx, hb, hml, hown, hts⟩ (c9_tries l E a   (v_now) (v_tried) (v_kept) (v_undos) (v_saved) (v_isSaved) (v_line) (v_lined) (v_text) (v_length) (v_at) (v_order) (v_told) (v_error) (v_reason) (v_detail) (v_answer) (v_thrown) (v_mixed) (v_conflicts) (v_firstConflict) w1 w2 hr3) (cwV 0 hts (ws_v q1270 q1272 q17 q68 q1273) rfl rfl rfl hdV_X9_tries (by rw [hR]; exact ⟨Nat.le_of_ble_eq_true rfl, Nat.le_of_ble_eq_true rfl⟩)) hK hN hP hD hS hA [] [0] [0] rfl rfl (by decide) (by decide) rfl (by decide) 0 9 rfl rfl rfl rfl hl.1 rfl (Nat.le_of_ble_eq_true rfl) dX9_play_1 (by rw [hR]; exact ⟨Nat.le_of_ble_eq_true rfl, Nat.le_of_ble_eq_true rfl⟩) (fun H locs hP hD hS => ?_)
  refine W.eq (g2 := F0 m 4 ls []) rfl ?_
  refine lv_aload_n hx hb dX9_play_4 rfl (lv_at hl 0 rfl) ?_
  refine lv_iload_n hx hb dX9_play_5 rfl (lv_at hl 1 rfl) ?_
  refine lv_iload_n hx hb dX9_play_6 rfl (lv_at hl 2 rfl) ?_
  obtain ⟨⟨r4, w5, w6, w7, w8, w9, w10, w11⟩, hr12, h⟩ := ob h
  dsimp only at h
  refine px_V (As := [.int x1, .int x2]) (rest := []) (gs := ([gX9 E a v_now w1 v_kept v_undos v_saved v_isSaved v_line v_lined v_text v_length v_at v_order v_told v_error v_reason v_detail v_answer w2 v_mixed v_conflicts v_firstConflict] : List va_W)) (gr := ([] : List va_W)) (gc := ([gX9 E a v_now w1 v_kept v_undos v_saved v_isSaved v_line v_lined v_text v_length v_at v_order v_told v_error v_reason v_detail v_answer w2 v_mixed v_conflicts v_firstConflict] : List va_W)) (g1 := ([gX9 E a w5 w1 v_kept v_undos v_saved v_isSaved v_line v_lined v_text v_length v_at v_order v_told v_error w6 w7 w8 w2 w9 w10 w11] : List va_W)) (g2 := ([gX9 E a w5 w1 v_kept v_undos v_saved v_isSaved v_line v_lined v_text v_length v_at v_order v_told v_error w6 w7 w8 w2 w9 w10 w11] : List va_W)) ⟨hx, hb, hml, hown, hts⟩ (c9_plays l E a  (x1) (x2) (v_now) (w1) (v_kept) (v_undos) (v_saved) (v_isSaved) (v_line) (v_lined) (v_text) (v_length) (v_at) (v_order) (v_told) (v_error) (v_reason) (v_detail) (v_answer) (w2) (v_mixed) (v_conflicts) (v_firstConflict) r4 w5 w6 w7 w8 w9 w10 w11 hr12) (cwV 2 hts (ws_v q1519 q1521 q50 q68 q1522) rfl rfl rfl hdV_X9_plays (by rw [hR]; exact ⟨Nat.le_of_ble_eq_true rfl, Nat.le_of_ble_eq_true rfl⟩)) hK hN hP hD hS hA [] [0] [0] rfl rfl (by decide) (by decide) rfl (by decide) 0 9 rfl rfl rfl rfl hl.1 rfl (Nat.le_of_ble_eq_true rfl) dX9_play_7 (by rw [hR]; exact ⟨Nat.le_of_ble_eq_true rfl, Nat.le_of_ble_eq_true rfl⟩) (fun H locs hP hD hS => ?_)
  refine W.eq (g2 := F0 m 10 ls [.int r4]) rfl ?_
  refine lv_istore_n (lv' := [(3, .int r4), (0, .ref (a 0)), (1, .int x1), (2, .int x2)]) hx hb dX9_play_10 rfl hl (by decide) rfl (fun ls hl => ?_)
  refine lv_iload_n hx hb dX9_play_11 rfl (lv_at hl 0 rfl) ?_
  refine lv_if_eq (tgt := 19) hx hb dX9_play_12 (by decide) (fun c13 => ?_) (fun c13 => ?_)
  · rw [if_pos c13] at h
    refine lv_aload_n hx hb dX9_play_19 rfl (lv_at hl 1 rfl) ?_
    refine lv_iload_n hx hb dX9_play_20 rfl (lv_at hl 0 rfl) ?_
    obtain ⟨⟨r14, w15, w16, w17⟩, hr18, h⟩ := ob h
    dsimp only at h
    refine px_V (As := [.int r4]) (rest := []) (gs := ([gX9 E a w5 w1 v_kept v_undos v_saved v_isSaved v_line v_lined v_text v_length v_at v_order v_told v_error w6 w7 w8 w2 w9 w10 w11] : List va_W)) (gr := ([] : List va_W)) (gc := ([gX9 E a w5 w1 v_kept v_undos v_saved v_isSaved v_line v_lined v_text v_length v_at v_order v_told v_error w6 w7 w8 w2 w9 w10 w11] : List va_W)) (g1 := ([gX9 E a w5 w1 w15 w16 v_saved v_isSaved v_line v_lined v_text v_length v_at v_order v_told v_error w6 w7 w8 w17 w9 w10 w11] : List va_W)) (g2 := ([gX9 E a w5 w1 w15 w16 v_saved v_isSaved v_line v_lined v_text v_length v_at v_order v_told v_error w6 w7 w8 w17 w9 w10 w11] : List va_W)) ⟨hx, hb, hml, hown, hts⟩ (c9_ends l E a  (r4) (w5) (w1) (v_kept) (v_undos) (v_saved) (v_isSaved) (v_line) (v_lined) (v_text) (v_length) (v_at) (v_order) (v_told) (v_error) (w6) (w7) (w8) (w2) (w9) (w10) (w11) r14 w15 w16 w17 hr18) (cwV 1 hts (ws_v q1312 q1314 q26 q68 q1315) rfl rfl rfl hdV_X9_ends (by rw [hR]; exact ⟨Nat.le_of_ble_eq_true rfl, Nat.le_of_ble_eq_true rfl⟩)) hK hN hP hD hS hA [] [0] [0] rfl rfl (by decide) (by decide) rfl (by decide) 0 9 rfl rfl rfl rfl hl.1 rfl (Nat.le_of_ble_eq_true rfl) dX9_play_21 (by rw [hR]; exact ⟨Nat.le_of_ble_eq_true rfl, Nat.le_of_ble_eq_true rfl⟩) (fun H locs hP hD hS => ?_)
    refine W.eq (g2 := F0 m 24 ls [.int r14]) rfl ?_
    cases h
    exact px_eWi hA0 hQ hP hD hS hx hb hr hlocks dX9_play_24
  · rw [if_neg c13] at h
    refine lv_aload_n hx hb dX9_play_15 rfl (lv_at hl 1 rfl) ?_
    obtain ⟨w19, hr20, h⟩ := ob h
    refine px_V (As := []) (rest := []) (gs := ([gX9 E a w5 w1 v_kept v_undos v_saved v_isSaved v_line v_lined v_text v_length v_at v_order v_told v_error w6 w7 w8 w2 w9 w10 w11] : List va_W)) (gr := ([] : List va_W)) (gc := ([gX9 E a w5 w1 v_kept v_undos v_saved v_isSaved v_line v_lined v_text v_length v_at v_order v_told v_error w6 w7 w8 w2 w9 w10 w11] : List va_W)) (g1 := ([gX9 E a w19 w1 v_kept v_undos v_saved v_isSaved v_line v_lined v_text v_length v_at v_order v_told v_error w6 w7 w8 w2 w9 w10 w11] : List va_W)) (g2 := ([gX9 E a w19 w1 v_kept v_undos v_saved v_isSaved v_line v_lined v_text v_length v_at v_order v_told v_error w6 w7 w8 w2 w9 w10 w11] : List va_W)) ⟨hx, hb, hml, hown, hts⟩ (c9_comesBack l E a   (w5) (w1) (v_kept) (v_undos) (v_saved) (v_isSaved) (v_line) (v_lined) (v_text) (v_length) (v_at) (v_order) (v_told) (v_error) (w6) (w7) (w8) (w2) (w9) (w10) (w11) w19 hr20) (cwV 0 hts (ws_v q1523 q1525 q51 q68 q1526) rfl rfl rfl hdV_X9_comesBack (by rw [hR]; exact ⟨Nat.le_of_ble_eq_true rfl, Nat.le_of_ble_eq_true rfl⟩)) hK hN hP hD hS hA [] [0] [0] rfl rfl (by decide) (by decide) rfl (by decide) 0 9 rfl rfl rfl rfl hl.1 rfl (Nat.le_of_ble_eq_true rfl) dX9_play_16 (by rw [hR]; exact ⟨Nat.le_of_ble_eq_true rfl, Nat.le_of_ble_eq_true rfl⟩) (fun H locs hP hD hS => ?_)
    refine W.eq (g2 := F0 m 19 ls []) rfl ?_
    refine lv_aload_n hx hb dX9_play_19 rfl (lv_at hl 1 rfl) ?_
    refine lv_iload_n hx hb dX9_play_20 rfl (lv_at hl 0 rfl) ?_
    obtain ⟨⟨r21, w22, w23, w24⟩, hr25, h⟩ := ob h
    dsimp only at h
    refine px_V (As := [.int r4]) (rest := []) (gs := ([gX9 E a w19 w1 v_kept v_undos v_saved v_isSaved v_line v_lined v_text v_length v_at v_order v_told v_error w6 w7 w8 w2 w9 w10 w11] : List va_W)) (gr := ([] : List va_W)) (gc := ([gX9 E a w19 w1 v_kept v_undos v_saved v_isSaved v_line v_lined v_text v_length v_at v_order v_told v_error w6 w7 w8 w2 w9 w10 w11] : List va_W)) (g1 := ([gX9 E a w19 w1 w22 w23 v_saved v_isSaved v_line v_lined v_text v_length v_at v_order v_told v_error w6 w7 w8 w24 w9 w10 w11] : List va_W)) (g2 := ([gX9 E a w19 w1 w22 w23 v_saved v_isSaved v_line v_lined v_text v_length v_at v_order v_told v_error w6 w7 w8 w24 w9 w10 w11] : List va_W)) ⟨hx, hb, hml, hown, hts⟩ (c9_ends l E a  (r4) (w19) (w1) (v_kept) (v_undos) (v_saved) (v_isSaved) (v_line) (v_lined) (v_text) (v_length) (v_at) (v_order) (v_told) (v_error) (w6) (w7) (w8) (w2) (w9) (w10) (w11) r21 w22 w23 w24 hr25) (cwV 1 hts (ws_v q1312 q1314 q26 q68 q1315) rfl rfl rfl hdV_X9_ends (by rw [hR]; exact ⟨Nat.le_of_ble_eq_true rfl, Nat.le_of_ble_eq_true rfl⟩)) hK hN hP hD hS hA [] [0] [0] rfl rfl (by decide) (by decide) rfl (by decide) 0 9 rfl rfl rfl rfl hl.1 rfl (Nat.le_of_ble_eq_true rfl) dX9_play_21 (by rw [hR]; exact ⟨Nat.le_of_ble_eq_true rfl, Nat.le_of_ble_eq_true rfl⟩) (fun H locs hP hD hS => ?_)
    refine W.eq (g2 := F0 m 24 ls [.int r21]) rfl ?_
    cases h
    exact px_eWi hA0 hQ hP hD hS hx hb hr hlocks dX9_play_24
def f9_character (x1 : Int32) (v_line : AI) (v_lined : Int32) (v_thrown : Int32) : Option (Int32 × Int32) := ((f9_in (x1) ((nI 0)) ((v_lined - (nI 1)))).bind fun r1 => (if (b2i r1) = 0 then (if (nI 1) = 0 then (if inb x1 40 = true then (some ((v_line (x1).toNatClampNeg), (nI 1))) else none) else (some ((nI 97), (nI 1)))) else (if (nI 0) = 0 then (if inb x1 40 = true then (some ((v_line (x1).toNatClampNeg), (nI 0))) else none) else (some ((nI 97), (nI 0))))))
set_option maxHeartbeats 4000000 in
set_option maxRecDepth 100000 in
theorem c9_character (l : Launch) (E : PE) (a : Nat → Nat)  (x1 : Int32) (v_now : AI) (v_tried : AI) (v_kept : AI) (v_undos : Int32) (v_saved : AI) (v_isSaved : Int32) (v_line : AI) (v_lined : Int32) (v_text : AI) (v_length : Int32) (v_at : Int32) (v_order : Int32) (v_told : AI) (v_error : Int32) (v_reason : Int32) (v_detail : Int32) (v_answer : Int32) (v_thrown : Int32) (v_mixed : AI) (v_conflicts : Int32) (v_firstConflict : Int32) (r : Int32) (z_this_thrown : Int32) (h : f9_character x1 v_line v_lined v_thrown = some (r, z_this_thrown)) : MW l yX9_character cX9_character 2 (some .char) { frames := 1, cells := 0, slots := 0, locals := 22 } E [.ref (a 0), .int x1] ([gX9 E a v_now v_tried v_kept v_undos v_saved v_isSaved v_line v_lined v_text v_length v_at v_order v_told v_error v_reason v_detail v_answer v_thrown v_mixed v_conflicts v_firstConflict] : List va_W).flatten 0 0 (some (.int (ch r))) ([gX9 E a v_now v_tried v_kept v_undos v_saved v_isSaved v_line v_lined v_text v_length v_at v_order v_told v_error v_reason v_detail v_answer z_this_thrown v_mixed v_conflicts v_firstConflict] : List va_W).flatten := by
  refine px_startW (by decide +kernel) (Nat.le_of_ble_eq_true rfl) ?_
  intro p e s m args below meth c R Q A ls hC hA0 hQ
  obtain ⟨hx, hb, hr, hml, hts, hown, hlocks, hR, hK, hN, hP, hD, hA, hl, hin⟩ := hC
  have hl : lv_has ls 2 [(0, .ref (a 0)), (1, .int x1)] := hl
  suffices key : ∀ (H : Heap) (locs : List Loc), va_P E.1 vwCl ([gX9 E a v_now v_tried v_kept v_undos v_saved v_isSaved v_line v_lined v_text v_length v_at v_order v_told v_error v_reason v_detail v_answer v_thrown v_mixed v_conflicts v_firstConflict] : List va_W).flatten H → va_S A s.heap H locs → W p l e R s m args below meth c H locs 0 0 Q (F0 m 0 ls []) from key s.heap [] hP va_S.rf
  unfold f9_character at h
  intro H locs hP hS
  refine lv_aload_n hx hb dX9_character_0 rfl (lv_at hl 0 rfl) ?_
  refine lv_iload_n hx hb dX9_character_1 rfl (lv_at hl 1 rfl) ?_
  refine lv_iconst (v := (nI 0)) hx hb dX9_character_2 (by decide) ?_
  refine lv_aload_n hx hb dX9_character_3 rfl (lv_at hl 0 rfl) ?_
  refine va_get (D := E.1) (ci := 9) (v := .int v_lined) (C := RX9) (T := TX9) (N := 21) hx hb hts iX9 hown hK hP 0 rfl rfl 7 (by decide) (hts _ q1205) (fun _ h9 => h9) rfl dX9_character_4 ?_
  refine lv_iconst (v := (nI 1)) hx hb dX9_character_7 (by decide) ?_
  refine lv_isub hx hb dX9_character_8 ?_
  obtain ⟨r1, hr2, h⟩ := ob h
  refine px_Sp (As := [.int x1, .int (nI 0), .int (v_lined - (nI 1))]) (rest := [.ref (a 0)]) (gs := ([gX9 E a v_now v_tried v_kept v_undos v_saved v_isSaved v_line v_lined v_text v_length v_at v_order v_told v_error v_reason v_detail v_answer v_thrown v_mixed v_conflicts v_firstConflict] : List va_W)) (gc := ([] : List va_W)) ⟨hx, hb, hml, hown, hts⟩ (c9_in l E   (x1) ((nI 0)) ((v_lined - (nI 1)))  r1 hr2) (va_cwS 3 hts (ws_s q1282 q1283 q68 q1284) rfl rfl rfl hdS_X9_in (by rw [hR]; exact ⟨Nat.le_of_ble_eq_true rfl, Nat.le_of_ble_eq_true rfl⟩)) hK hN hP hD [] rfl (by decide) rfl hl.1 rfl (Nat.le_of_ble_eq_true rfl) dX9_character_9 (by rw [hR]; exact ⟨Nat.le_of_ble_eq_true rfl, Nat.le_of_ble_eq_true rfl⟩) ?_
  refine W.eq (g2 := F0 m 12 ls [.int (b2i r1), .ref (a 0)]) rfl ?_
  refine lv_if_eq (tgt := 19) hx hb dX9_character_12 (by decide) (fun c3 => ?_) (fun c3 => ?_)
  · rw [if_pos c3] at h
    refine lv_iconst (v := (nI 1)) hx hb dX9_character_19 (by decide) ?_
    refine va_put (D := E.1) (ci := 9) (v := .int (nI 1)) (ty := .int) (C := RX9) (T := TX9) (N := 21) hx hb hts iX9 tyX9 tyX9_ok nmX9 hown hK hP hD hS 0 rfl rfl 17 (by decide) (hts _ q1215) (fun _ h9 => h9) rfl (tyX9_ok 17 (by decide)) rfl rfl (Nat.le_of_ble_eq_true rfl) dX9_character_20 (fun H locs hP hD hS => ?_)
    have hP : va_P E.1 vwCl ([gX9 E a v_now v_tried v_kept v_undos v_saved v_isSaved v_line v_lined v_text v_length v_at v_order v_told v_error v_reason v_detail v_answer (nI 1) v_mixed v_conflicts v_firstConflict] : List va_W).flatten H := hP
    have hD : va_D A ([gX9 E a v_now v_tried v_kept v_undos v_saved v_isSaved v_line v_lined v_text v_length v_at v_order v_told v_error v_reason v_detail v_answer (nI 1) v_mixed v_conflicts v_firstConflict] : List va_W).flatten := hD
    refine lv_aload_n hx hb dX9_character_23 rfl (lv_at hl 0 rfl) ?_
    refine va_get (D := E.1) (ci := 9) (v := .int (nI 1)) (C := RX9) (T := TX9) (N := 21) hx hb hts iX9 hown hK hP 0 rfl rfl 17 (by decide) (hts _ q1215) (fun _ h9 => h9) rfl dX9_character_24 ?_
    refine lv_if_ne (tgt := 39) hx hb dX9_character_27 (by decide) (fun c4 => ?_) (fun c4 => ?_)
    · rw [if_neg c4] at h
      refine lv_bipush (v := (nI 97)) hx hb dX9_character_39 (by decide) ?_
      cases h
      refine W.eq (g2 := F0 m 41 ls [.int (ch (nI 97))]) rfl ?_
      exact px_eWz (ch_n _) hA0 hQ hP hD hS hx hb hr hlocks dX9_character_41
    · rw [if_pos c4] at h
      refine lv_aload_n hx hb dX9_character_30 rfl (lv_at hl 0 rfl) ?_
      refine va_get (D := E.1) (ci := 9) (v := .ref (a 5)) (C := RX9) (T := TX9) (N := 21) hx hb hts iX9 hown hK hP 0 rfl rfl 6 (by decide) (hts _ q1204) (fun _ h9 => h9) rfl dX9_character_31 ?_
      refine lv_iload_n hx hb dX9_character_34 rfl (lv_at hl 1 rfl) ?_
      obtain ⟨i5, h⟩ := o_t h
      refine va_cald (f := fun j => ch (v_line j)) hx hb hK hP 5 1 rfl rfl (inb_in i5) dX9_character_35 ?_
      refine W.eq (g2 := F0 m 36 ls [.int (ch (v_line (x1).toNatClampNeg))]) rfl ?_
      refine lv_goto (tgt := 41) hx hb dX9_character_36 (by decide) ?_
      cases h
      exact px_eWz (ch_n _) hA0 hQ hP hD hS hx hb hr hlocks dX9_character_41
  · rw [if_neg c3] at h
    refine lv_iconst (v := (nI 0)) hx hb dX9_character_15 (by decide) ?_
    refine lv_goto (tgt := 20) hx hb dX9_character_16 (by decide) ?_
    refine va_put (D := E.1) (ci := 9) (v := .int (nI 0)) (ty := .int) (C := RX9) (T := TX9) (N := 21) hx hb hts iX9 tyX9 tyX9_ok nmX9 hown hK hP hD hS 0 rfl rfl 17 (by decide) (hts _ q1215) (fun _ h9 => h9) rfl (tyX9_ok 17 (by decide)) rfl rfl (Nat.le_of_ble_eq_true rfl) dX9_character_20 (fun H locs hP hD hS => ?_)
    have hP : va_P E.1 vwCl ([gX9 E a v_now v_tried v_kept v_undos v_saved v_isSaved v_line v_lined v_text v_length v_at v_order v_told v_error v_reason v_detail v_answer (nI 0) v_mixed v_conflicts v_firstConflict] : List va_W).flatten H := hP
    have hD : va_D A ([gX9 E a v_now v_tried v_kept v_undos v_saved v_isSaved v_line v_lined v_text v_length v_at v_order v_told v_error v_reason v_detail v_answer (nI 0) v_mixed v_conflicts v_firstConflict] : List va_W).flatten := hD
    refine lv_aload_n hx hb dX9_character_23 rfl (lv_at hl 0 rfl) ?_
    refine va_get (D := E.1) (ci := 9) (v := .int (nI 0)) (C := RX9) (T := TX9) (N := 21) hx hb hts iX9 hown hK hP 0 rfl rfl 17 (by decide) (hts _ q1215) (fun _ h9 => h9) rfl dX9_character_24 ?_
    refine lv_if_ne (tgt := 39) hx hb dX9_character_27 (by decide) (fun c6 => ?_) (fun c6 => ?_)
    · rw [if_neg c6] at h
      refine lv_bipush (v := (nI 97)) hx hb dX9_character_39 (by decide) ?_
      cases h
      refine W.eq (g2 := F0 m 41 ls [.int (ch (nI 97))]) rfl ?_
      exact px_eWz (ch_n _) hA0 hQ hP hD hS hx hb hr hlocks dX9_character_41
    · rw [if_pos c6] at h
      refine lv_aload_n hx hb dX9_character_30 rfl (lv_at hl 0 rfl) ?_
      refine va_get (D := E.1) (ci := 9) (v := .ref (a 5)) (C := RX9) (T := TX9) (N := 21) hx hb hts iX9 hown hK hP 0 rfl rfl 6 (by decide) (hts _ q1204) (fun _ h9 => h9) rfl dX9_character_31 ?_
      refine lv_iload_n hx hb dX9_character_34 rfl (lv_at hl 1 rfl) ?_
      obtain ⟨i7, h⟩ := o_t h
      refine va_cald (f := fun j => ch (v_line j)) hx hb hK hP 5 1 rfl rfl (inb_in i7) dX9_character_35 ?_
      refine W.eq (g2 := F0 m 36 ls [.int (ch (v_line (x1).toNatClampNeg))]) rfl ?_
      refine lv_goto (tgt := 41) hx hb dX9_character_36 (by decide) ?_
      cases h
      exact px_eWz (ch_n _) hA0 hQ hP hD hS hx hb hr hlocks dX9_character_41
def f9_append (x1 : Int32) (v_text : AI) (v_length : Int32) (v_thrown : Int32) : Option (Int32 × AI × Int32 × Int32) := (if v_length = (nI 60) then ((f9_raises ((nI 1)) ((nI 0))).bind fun (r7, w8) => (some (r7, v_text, v_length, w8))) else (lt (v_length + (nI 1)) fun u2 => (if inb v_length 60 = true then (lt (upd v_text (v_length).toNatClampNeg (ch x1)) fun u5 => (some (u2, u5, u2, (nI 0)))) else none)))
set_option maxHeartbeats 4000000 in
set_option maxRecDepth 100000 in
theorem c9_append (l : Launch) (E : PE) (a : Nat → Nat)  (x1 : Int32) (v_now : AI) (v_tried : AI) (v_kept : AI) (v_undos : Int32) (v_saved : AI) (v_isSaved : Int32) (v_line : AI) (v_lined : Int32) (v_text : AI) (v_length : Int32) (v_at : Int32) (v_order : Int32) (v_told : AI) (v_error : Int32) (v_reason : Int32) (v_detail : Int32) (v_answer : Int32) (v_thrown : Int32) (v_mixed : AI) (v_conflicts : Int32) (v_firstConflict : Int32) (r : Int32) (z_this_text : AI) (z_this_length : Int32) (z_this_thrown : Int32) (h : f9_append x1 v_text v_length v_thrown = some (r, z_this_text, z_this_length, z_this_thrown)) : MW l yX9_append cX9_append 2 (some .int) { frames := 1, cells := 0, slots := 0, locals := 21 } E [.ref (a 0), .int (ch x1)] ([gX9 E a v_now v_tried v_kept v_undos v_saved v_isSaved v_line v_lined v_text v_length v_at v_order v_told v_error v_reason v_detail v_answer v_thrown v_mixed v_conflicts v_firstConflict] : List va_W).flatten 0 0 (some (.int r)) ([gX9 E a v_now v_tried v_kept v_undos v_saved v_isSaved v_line v_lined z_this_text z_this_length v_at v_order v_told v_error v_reason v_detail v_answer z_this_thrown v_mixed v_conflicts v_firstConflict] : List va_W).flatten := by
  refine px_startW (by decide +kernel) (Nat.le_of_ble_eq_true rfl) ?_
  intro p e s m args below meth c R Q A ls hC hA0 hQ
  obtain ⟨hx, hb, hr, hml, hts, hown, hlocks, hR, hK, hN, hP, hD, hA, hl, hin⟩ := hC
  have hl : lv_has ls 2 [(0, .ref (a 0)), (1, .int (ch x1))] := hl
  suffices key : ∀ (H : Heap) (locs : List Loc), va_P E.1 vwCl ([gX9 E a v_now v_tried v_kept v_undos v_saved v_isSaved v_line v_lined v_text v_length v_at v_order v_told v_error v_reason v_detail v_answer v_thrown v_mixed v_conflicts v_firstConflict] : List va_W).flatten H → va_S A s.heap H locs → W p l e R s m args below meth c H locs 0 0 Q (F0 m 0 ls []) from key s.heap [] hP va_S.rf
  unfold f9_append at h
  intro H locs hP hS
  refine lv_aload_n hx hb dX9_append_0 rfl (lv_at hl 0 rfl) ?_
  refine lv_iconst (v := (nI 0)) hx hb dX9_append_1 (by decide) ?_
  refine va_put (D := E.1) (ci := 9) (v := .int (nI 0)) (ty := .int) (C := RX9) (T := TX9) (N := 21) hx hb hts iX9 tyX9 tyX9_ok nmX9 hown hK hP hD hS 0 rfl rfl 17 (by decide) (hts _ q1215) (fun _ h9 => h9) rfl (tyX9_ok 17 (by decide)) rfl rfl (Nat.le_of_ble_eq_true rfl) dX9_append_2 (fun H locs hP hD hS => ?_)
  have hP : va_P E.1 vwCl ([gX9 E a v_now v_tried v_kept v_undos v_saved v_isSaved v_line v_lined v_text v_length v_at v_order v_told v_error v_reason v_detail v_answer (nI 0) v_mixed v_conflicts v_firstConflict] : List va_W).flatten H := hP
  have hD : va_D A ([gX9 E a v_now v_tried v_kept v_undos v_saved v_isSaved v_line v_lined v_text v_length v_at v_order v_told v_error v_reason v_detail v_answer (nI 0) v_mixed v_conflicts v_firstConflict] : List va_W).flatten := hD
  refine lv_aload_n hx hb dX9_append_5 rfl (lv_at hl 0 rfl) ?_
  refine va_get (D := E.1) (ci := 9) (v := .int v_length) (C := RX9) (T := TX9) (N := 21) hx hb hts iX9 hown hK hP 0 rfl rfl 9 (by decide) (hts _ q1207) (fun _ h9 => h9) rfl dX9_append_6 ?_
  refine lv_bipush (v := (nI 60)) hx hb dX9_append_9 (by decide) ?_
  refine lv_icmp_ne (tgt := 20) hx hb dX9_append_11 (by decide) (fun c1 => ?_) (fun c1 => ?_)
  · rw [if_neg c1] at h
    refine lv_aload_n hx hb dX9_append_20 rfl (lv_at hl 0 rfl) ?_
    refine va_get (D := E.1) (ci := 9) (v := .ref (a 6)) (C := RX9) (T := TX9) (N := 21) hx hb hts iX9 hown hK hP 0 rfl rfl 8 (by decide) (hts _ q1206) (fun _ h9 => h9) rfl dX9_append_21 ?_
    refine lv_aload_n hx hb dX9_append_24 rfl (lv_at hl 0 rfl) ?_
    refine lv_dup hx hb dX9_append_25 rfl ?_
    refine va_get (D := E.1) (ci := 9) (v := .int v_length) (C := RX9) (T := TX9) (N := 21) hx hb hts iX9 hown hK hP 0 rfl rfl 9 (by decide) (hts _ q1207) (fun _ h9 => h9) rfl dX9_append_26 ?_
    refine lv_dup_x1 hx hb dX9_append_29 rfl rfl ?_
    refine lv_iconst (v := (nI 1)) hx hb dX9_append_30 (by decide) ?_
    refine lv_iadd hx hb dX9_append_31 ?_
    refine va_put (D := E.1) (ci := 9) (v := .int (v_length + (nI 1))) (ty := .int) (C := RX9) (T := TX9) (N := 21) hx hb hts iX9 tyX9 tyX9_ok nmX9 hown hK hP hD hS 0 rfl rfl 9 (by decide) (hts _ q1207) (fun _ h9 => h9) rfl (tyX9_ok 9 (by decide)) rfl rfl (Nat.le_of_ble_eq_true rfl) dX9_append_32 (fun H locs hP hD hS => ?_)
    have hP : va_P E.1 vwCl ([gX9 E a v_now v_tried v_kept v_undos v_saved v_isSaved v_line v_lined v_text (v_length + (nI 1)) v_at v_order v_told v_error v_reason v_detail v_answer (nI 0) v_mixed v_conflicts v_firstConflict] : List va_W).flatten H := hP
    have hD : va_D A ([gX9 E a v_now v_tried v_kept v_undos v_saved v_isSaved v_line v_lined v_text (v_length + (nI 1)) v_at v_order v_told v_error v_reason v_detail v_answer (nI 0) v_mixed v_conflicts v_firstConflict] : List va_W).flatten := hD
    obtain ⟨u2, e3, h⟩ := lt_e h
    rw [← e3] at hP hD
    refine lv_iload_n hx hb dX9_append_35 rfl (lv_at hl 1 rfl) ?_
    obtain ⟨i4, h⟩ := o_t h
    refine va_cast (f := fun j => ch (v_text j)) hx hb hK hP hD hS 6 1 rfl rfl (inb_in i4) dX9_append_36 (fun H locs hP hD hS => ?_)
    rw [ch_u] at hP hD
    have hP : va_P E.1 vwCl ([gX9 E a v_now v_tried v_kept v_undos v_saved v_isSaved v_line v_lined (upd v_text (v_length).toNatClampNeg (ch x1)) u2 v_at v_order v_told v_error v_reason v_detail v_answer (nI 0) v_mixed v_conflicts v_firstConflict] : List va_W).flatten H := hP
    have hD : va_D A ([gX9 E a v_now v_tried v_kept v_undos v_saved v_isSaved v_line v_lined (upd v_text (v_length).toNatClampNeg (ch x1)) u2 v_at v_order v_told v_error v_reason v_detail v_answer (nI 0) v_mixed v_conflicts v_firstConflict] : List va_W).flatten := hD
    obtain ⟨u5, e6, h⟩ := lt_e h
    rw [← e6] at hP hD
    refine lv_aload_n hx hb dX9_append_37 rfl (lv_at hl 0 rfl) ?_
    refine va_get (D := E.1) (ci := 9) (v := .int u2) (C := RX9) (T := TX9) (N := 21) hx hb hts iX9 hown hK hP 0 rfl rfl 9 (by decide) (hts _ q1207) (fun _ h9 => h9) rfl dX9_append_38 ?_
    cases h
    exact px_eWi hA0 hQ hP hD hS hx hb hr hlocks dX9_append_41
  · rw [if_pos c1] at h
    refine lv_aload_n hx hb dX9_append_14 rfl (lv_at hl 0 rfl) ?_
    refine lv_iconst (v := (nI 1)) hx hb dX9_append_15 (by decide) ?_
    obtain ⟨⟨r7, w8⟩, hr9, h⟩ := ob h
    dsimp only at h
    refine px_V (As := [.int (nI 1)]) (rest := []) (gs := ([gX9 E a v_now v_tried v_kept v_undos v_saved v_isSaved v_line v_lined v_text v_length v_at v_order v_told v_error v_reason v_detail v_answer (nI 0) v_mixed v_conflicts v_firstConflict] : List va_W)) (gr := ([] : List va_W)) (gc := ([gX9 E a v_now v_tried v_kept v_undos v_saved v_isSaved v_line v_lined v_text v_length v_at v_order v_told v_error v_reason v_detail v_answer (nI 0) v_mixed v_conflicts v_firstConflict] : List va_W)) (g1 := ([gX9 E a v_now v_tried v_kept v_undos v_saved v_isSaved v_line v_lined v_text v_length v_at v_order v_told v_error v_reason v_detail v_answer w8 v_mixed v_conflicts v_firstConflict] : List va_W)) (g2 := ([gX9 E a v_now v_tried v_kept v_undos v_saved v_isSaved v_line v_lined v_text v_length v_at v_order v_told v_error v_reason v_detail v_answer w8 v_mixed v_conflicts v_firstConflict] : List va_W)) ⟨hx, hb, hml, hown, hts⟩ (c9_raises l E a  ((nI 1)) (v_now) (v_tried) (v_kept) (v_undos) (v_saved) (v_isSaved) (v_line) (v_lined) (v_text) (v_length) (v_at) (v_order) (v_told) (v_error) (v_reason) (v_detail) (v_answer) ((nI 0)) (v_mixed) (v_conflicts) (v_firstConflict) r7 w8 hr9) (cwV 1 hts (ws_v q1320 q1322 q28 q68 q1323) rfl rfl rfl hdV_X9_raises (by rw [hR]; exact ⟨Nat.le_of_ble_eq_true rfl, Nat.le_of_ble_eq_true rfl⟩)) hK hN hP hD hS hA [] [0] [0] rfl rfl (by decide) (by decide) rfl (by decide) 0 9 rfl rfl rfl rfl hl.1 rfl (Nat.le_of_ble_eq_true rfl) dX9_append_16 (by rw [hR]; exact ⟨Nat.le_of_ble_eq_true rfl, Nat.le_of_ble_eq_true rfl⟩) (fun H locs hP hD hS => ?_)
    refine W.eq (g2 := F0 m 19 ls [.int r7]) rfl ?_
    cases h
    exact px_eWi hA0 hQ hP hD hS hx hb hr hlocks dX9_append_19
def f9_sign (x1 : Int32) (v_text : AI) (v_length : Int32) (v_at : Int32) : Option (Bool × Int32) := (if v_at = v_length then (some (false, v_at)) else (if inb v_at 60 = true then (if (ch (v_text (v_at).toNatClampNeg)) = (ch x1) then (lt (v_at + (nI 1)) fun u4 => (some (true, u4))) else (some (false, v_at))) else none))
set_option maxHeartbeats 4000000 in
set_option maxRecDepth 100000 in
theorem c9_sign (l : Launch) (E : PE) (a : Nat → Nat)  (x1 : Int32) (v_now : AI) (v_tried : AI) (v_kept : AI) (v_undos : Int32) (v_saved : AI) (v_isSaved : Int32) (v_line : AI) (v_lined : Int32) (v_text : AI) (v_length : Int32) (v_at : Int32) (v_order : Int32) (v_told : AI) (v_error : Int32) (v_reason : Int32) (v_detail : Int32) (v_answer : Int32) (v_thrown : Int32) (v_mixed : AI) (v_conflicts : Int32) (v_firstConflict : Int32) (r : Bool) (z_this_at : Int32) (h : f9_sign x1 v_text v_length v_at = some (r, z_this_at)) : MW l yX9_sign cX9_sign 2 (some .boolean) { frames := 0, cells := 0, slots := 0, locals := 0 } E [.ref (a 0), .int (ch x1)] ([gX9 E a v_now v_tried v_kept v_undos v_saved v_isSaved v_line v_lined v_text v_length v_at v_order v_told v_error v_reason v_detail v_answer v_thrown v_mixed v_conflicts v_firstConflict] : List va_W).flatten 0 0 (some (.int (b2i r))) ([gX9 E a v_now v_tried v_kept v_undos v_saved v_isSaved v_line v_lined v_text v_length z_this_at v_order v_told v_error v_reason v_detail v_answer v_thrown v_mixed v_conflicts v_firstConflict] : List va_W).flatten := by
  refine px_startW (by decide +kernel) (Nat.le_of_ble_eq_true rfl) ?_
  intro p e s m args below meth c R Q A ls hC hA0 hQ
  obtain ⟨hx, hb, hr, hml, hts, hown, hlocks, hR, hK, hN, hP, hD, hA, hl, hin⟩ := hC
  have hl : lv_has ls 2 [(0, .ref (a 0)), (1, .int (ch x1))] := hl
  suffices key : ∀ (H : Heap) (locs : List Loc), va_P E.1 vwCl ([gX9 E a v_now v_tried v_kept v_undos v_saved v_isSaved v_line v_lined v_text v_length v_at v_order v_told v_error v_reason v_detail v_answer v_thrown v_mixed v_conflicts v_firstConflict] : List va_W).flatten H → va_S A s.heap H locs → W p l e R s m args below meth c H locs 0 0 Q (F0 m 0 ls []) from key s.heap [] hP va_S.rf
  unfold f9_sign at h
  intro H locs hP hS
  refine lv_aload_n hx hb dX9_sign_0 rfl (lv_at hl 0 rfl) ?_
  refine va_get (D := E.1) (ci := 9) (v := .int v_at) (C := RX9) (T := TX9) (N := 21) hx hb hts iX9 hown hK hP 0 rfl rfl 10 (by decide) (hts _ q1208) (fun _ h9 => h9) rfl dX9_sign_1 ?_
  refine lv_aload_n hx hb dX9_sign_4 rfl (lv_at hl 0 rfl) ?_
  refine va_get (D := E.1) (ci := 9) (v := .int v_length) (C := RX9) (T := TX9) (N := 21) hx hb hts iX9 hown hK hP 0 rfl rfl 9 (by decide) (hts _ q1207) (fun _ h9 => h9) rfl dX9_sign_5 ?_
  refine lv_icmp_eq (tgt := 24) hx hb dX9_sign_8 (by decide) (fun c1 => ?_) (fun c1 => ?_)
  · rw [if_pos c1] at h
    refine lv_iconst (v := (nI 0)) hx hb dX9_sign_24 (by decide) ?_
    cases h
    refine W.eq (g2 := F0 m 25 ls [.int (b2i false)]) rfl ?_
    exact px_eWz (b2i_n _) hA0 hQ hP hD hS hx hb hr hlocks dX9_sign_25
  · rw [if_neg c1] at h
    refine lv_aload_n hx hb dX9_sign_11 rfl (lv_at hl 0 rfl) ?_
    refine va_get (D := E.1) (ci := 9) (v := .ref (a 6)) (C := RX9) (T := TX9) (N := 21) hx hb hts iX9 hown hK hP 0 rfl rfl 8 (by decide) (hts _ q1206) (fun _ h9 => h9) rfl dX9_sign_12 ?_
    refine lv_aload_n hx hb dX9_sign_15 rfl (lv_at hl 0 rfl) ?_
    refine va_get (D := E.1) (ci := 9) (v := .int v_at) (C := RX9) (T := TX9) (N := 21) hx hb hts iX9 hown hK hP 0 rfl rfl 10 (by decide) (hts _ q1208) (fun _ h9 => h9) rfl dX9_sign_16 ?_
    obtain ⟨i2, h⟩ := o_t h
    refine va_cald (f := fun j => ch (v_text j)) hx hb hK hP 6 1 rfl rfl (inb_in i2) dX9_sign_19 ?_
    refine W.eq (g2 := F0 m 20 ls [.int (ch (v_text (v_at).toNatClampNeg))]) rfl ?_
    refine lv_iload_n hx hb dX9_sign_20 rfl (lv_at hl 1 rfl) ?_
    refine lv_icmp_eq (tgt := 26) hx hb dX9_sign_21 (by decide) (fun c3 => ?_) (fun c3 => ?_)
    · rw [if_pos c3] at h
      refine lv_aload_n hx hb dX9_sign_26 rfl (lv_at hl 0 rfl) ?_
      refine lv_dup hx hb dX9_sign_27 rfl ?_
      refine va_get (D := E.1) (ci := 9) (v := .int v_at) (C := RX9) (T := TX9) (N := 21) hx hb hts iX9 hown hK hP 0 rfl rfl 10 (by decide) (hts _ q1208) (fun _ h9 => h9) rfl dX9_sign_28 ?_
      refine lv_iconst (v := (nI 1)) hx hb dX9_sign_31 (by decide) ?_
      refine lv_iadd hx hb dX9_sign_32 ?_
      refine va_put (D := E.1) (ci := 9) (v := .int (v_at + (nI 1))) (ty := .int) (C := RX9) (T := TX9) (N := 21) hx hb hts iX9 tyX9 tyX9_ok nmX9 hown hK hP hD hS 0 rfl rfl 10 (by decide) (hts _ q1208) (fun _ h9 => h9) rfl (tyX9_ok 10 (by decide)) rfl rfl (Nat.le_of_ble_eq_true rfl) dX9_sign_33 (fun H locs hP hD hS => ?_)
      have hP : va_P E.1 vwCl ([gX9 E a v_now v_tried v_kept v_undos v_saved v_isSaved v_line v_lined v_text v_length (v_at + (nI 1)) v_order v_told v_error v_reason v_detail v_answer v_thrown v_mixed v_conflicts v_firstConflict] : List va_W).flatten H := hP
      have hD : va_D A ([gX9 E a v_now v_tried v_kept v_undos v_saved v_isSaved v_line v_lined v_text v_length (v_at + (nI 1)) v_order v_told v_error v_reason v_detail v_answer v_thrown v_mixed v_conflicts v_firstConflict] : List va_W).flatten := hD
      obtain ⟨u4, e5, h⟩ := lt_e h
      rw [← e5] at hP hD
      refine lv_iconst (v := (nI 1)) hx hb dX9_sign_36 (by decide) ?_
      cases h
      refine W.eq (g2 := F0 m 37 ls [.int (b2i true)]) rfl ?_
      exact px_eWz (b2i_n _) hA0 hQ hP hD hS hx hb hr hlocks dX9_sign_37
    · rw [if_neg c3] at h
      refine lv_iconst (v := (nI 0)) hx hb dX9_sign_24 (by decide) ?_
      cases h
      refine W.eq (g2 := F0 m 25 ls [.int (b2i false)]) rfl ?_
      exact px_eWz (b2i_n _) hA0 hQ hP hD hS hx hb hr hlocks dX9_sign_25
def f9_digits_L9 (x1 : Int32) (x2 : Int32) (v_text : AI) (v_length : Int32) : Nat → Int32 → Int32 → AI → Option (Bool × Int32 × AI)
  | 0, _, _, _ => none
  | n + 1, x3, v_at, v_told => (if x2 ≤ x3 then (if x3 ≤ 0 then (some (false, v_at, v_told)) else (some (true, v_at, v_told))) else (if v_length ≤ v_at then (if x3 ≤ 0 then (some (false, v_at, v_told)) else (some (true, v_at, v_told))) else (if inb v_at 60 = true then ((f9_in ((ch (v_text (v_at).toNatClampNeg))) ((nI 48)) ((nI 57))).bind fun r9 => (if (b2i r9) = 0 then (if x3 ≤ 0 then (some (false, v_at, v_told)) else (some (true, v_at, v_told))) else (if inb x1 3 = true then (lt (v_at + (nI 1)) fun u14 => (if inb v_at 60 = true then (if inb x1 3 = true then (lt (upd v_told (x1).toNatClampNeg ((((nI 10) * (v_told (x1).toNatClampNeg)) + (ch (v_text (v_at).toNatClampNeg))) - (nI 48))) fun u18 => (f9_digits_L9 x1 x2 v_text v_length n ((x3 + nI 1)) (u14) (u18))) else none) else none)) else none))) else none)))
def f9_digits (x1 : Int32) (x2 : Int32) (v_text : AI) (v_length : Int32) (v_at : Int32) (v_told : AI) : Option (Bool × Int32 × AI) := (if inb x1 3 = true then (lt (upd v_told (x1).toNatClampNeg (nI 0)) fun u2 => (f9_digits_L9 x1 x2 v_text v_length fuel ((nI 0)) (v_at) (u2))) else none)
set_option maxHeartbeats 4000000 in
set_option maxRecDepth 100000 in
theorem c9_digits (l : Launch) (E : PE) (a : Nat → Nat)  (x1 : Int32) (x2 : Int32) (v_now : AI) (v_tried : AI) (v_kept : AI) (v_undos : Int32) (v_saved : AI) (v_isSaved : Int32) (v_line : AI) (v_lined : Int32) (v_text : AI) (v_length : Int32) (v_at : Int32) (v_order : Int32) (v_told : AI) (v_error : Int32) (v_reason : Int32) (v_detail : Int32) (v_answer : Int32) (v_thrown : Int32) (v_mixed : AI) (v_conflicts : Int32) (v_firstConflict : Int32) (r : Bool) (z_this_at : Int32) (z_this_told : AI) (h : f9_digits x1 x2 v_text v_length v_at v_told = some (r, z_this_at, z_this_told)) : MW l yX9_digits cX9_digits 4 (some .boolean) { frames := 1, cells := 0, slots := 0, locals := 22 } E [.ref (a 0), .int x1, .int x2] ([gX9 E a v_now v_tried v_kept v_undos v_saved v_isSaved v_line v_lined v_text v_length v_at v_order v_told v_error v_reason v_detail v_answer v_thrown v_mixed v_conflicts v_firstConflict] : List va_W).flatten 0 0 (some (.int (b2i r))) ([gX9 E a v_now v_tried v_kept v_undos v_saved v_isSaved v_line v_lined v_text v_length z_this_at v_order z_this_told v_error v_reason v_detail v_answer v_thrown v_mixed v_conflicts v_firstConflict] : List va_W).flatten := by
  refine px_startW (by decide +kernel) (Nat.le_of_ble_eq_true rfl) ?_
  intro p e s m args below meth c R Q A ls hC hA0 hQ
  obtain ⟨hx, hb, hr, hml, hts, hown, hlocks, hR, hK, hN, hP, hD, hA, hl, hin⟩ := hC
  have hl : lv_has ls 4 [(0, .ref (a 0)), (1, .int x1), (2, .int x2)] := hl
  suffices key : ∀ (H : Heap) (locs : List Loc), va_P E.1 vwCl ([gX9 E a v_now v_tried v_kept v_undos v_saved v_isSaved v_line v_lined v_text v_length v_at v_order v_told v_error v_reason v_detail v_answer v_thrown v_mixed v_conflicts v_firstConflict] : List va_W).flatten H → va_S A s.heap H locs → W p l e R s m args below meth c H locs 0 0 Q (F0 m 0 ls []) from key s.heap [] hP va_S.rf
  unfold f9_digits at h
  have L9 : ∀ (n : Nat) (x3 : Int32) (v_at : Int32) (v_told : AI) (H : Heap) (locs : List Loc) (ls : Array Slot), va_P E.1 vwCl ([gX9 E a v_now v_tried v_kept v_undos v_saved v_isSaved v_line v_lined v_text v_length v_at v_order v_told v_error v_reason v_detail v_answer v_thrown v_mixed v_conflicts v_firstConflict] : List va_W).flatten H → va_D A ([gX9 E a v_now v_tried v_kept v_undos v_saved v_isSaved v_line v_lined v_text v_length v_at v_order v_told v_error v_reason v_detail v_answer v_thrown v_mixed v_conflicts v_firstConflict] : List va_W).flatten → va_S A s.heap H locs → lv_has ls 4 [(0, .ref (a 0)), (1, .int x1), (2, .int x2), (3, .int x3)] → f9_digits_L9 x1 x2 v_text v_length n x3 v_at v_told = some (r, z_this_at, z_this_told) → W p l e R s m args below meth c H locs 0 0 Q (F0 m 9 ls []) := by
    intro n
    induction n with
    | zero =>
      intro x3 v_at v_told H locs ls hP hD hS hl h
      unfold f9_digits_L9 at h; cases h
    | succ n ih =>
      intro x3 v_at v_told H locs ls hP hD hS hl h
      unfold f9_digits_L9 at h
      refine lv_iload_n hx hb dX9_digits_9 rfl (lv_at hl 3 rfl) ?_
      refine lv_iload_n hx hb dX9_digits_10 rfl (lv_at hl 2 rfl) ?_
      refine lv_icmp_ge (tgt := 85) hx hb dX9_digits_11 (by decide) (fun c4 => ?_) (fun c4 => ?_)
      · rw [if_pos c4] at h
        refine lv_iload_n hx hb dX9_digits_85 rfl (lv_at hl 3 rfl) ?_
        refine lv_if_le (tgt := 93) hx hb dX9_digits_86 (by decide) (fun c5 => ?_) (fun c5 => ?_)
        · rw [if_pos c5] at h
          refine lv_iconst (v := (nI 0)) hx hb dX9_digits_93 (by decide) ?_
          cases h
          refine W.eq (g2 := F0 m 94 ls [.int (b2i false)]) rfl ?_
          exact px_eWz (b2i_n _) hA0 hQ hP hD hS hx hb hr hlocks dX9_digits_94
        · rw [if_neg c5] at h
          refine lv_iconst (v := (nI 1)) hx hb dX9_digits_89 (by decide) ?_
          refine lv_goto (tgt := 94) hx hb dX9_digits_90 (by decide) ?_
          cases h
          refine W.eq (g2 := F0 m 94 ls [.int (b2i true)]) rfl ?_
          exact px_eWz (b2i_n _) hA0 hQ hP hD hS hx hb hr hlocks dX9_digits_94
      · rw [if_neg c4] at h
        refine lv_aload_n hx hb dX9_digits_14 rfl (lv_at hl 0 rfl) ?_
        refine va_get (D := E.1) (ci := 9) (v := .int v_at) (C := RX9) (T := TX9) (N := 21) hx hb hts iX9 hown hK hP 0 rfl rfl 10 (by decide) (hts _ q1208) (fun _ h9 => h9) rfl dX9_digits_15 ?_
        refine lv_aload_n hx hb dX9_digits_18 rfl (lv_at hl 0 rfl) ?_
        refine va_get (D := E.1) (ci := 9) (v := .int v_length) (C := RX9) (T := TX9) (N := 21) hx hb hts iX9 hown hK hP 0 rfl rfl 9 (by decide) (hts _ q1207) (fun _ h9 => h9) rfl dX9_digits_19 ?_
        refine lv_icmp_ge (tgt := 85) hx hb dX9_digits_22 (by decide) (fun c6 => ?_) (fun c6 => ?_)
        · rw [if_pos c6] at h
          refine lv_iload_n hx hb dX9_digits_85 rfl (lv_at hl 3 rfl) ?_
          refine lv_if_le (tgt := 93) hx hb dX9_digits_86 (by decide) (fun c7 => ?_) (fun c7 => ?_)
          · rw [if_pos c7] at h
            refine lv_iconst (v := (nI 0)) hx hb dX9_digits_93 (by decide) ?_
            cases h
            refine W.eq (g2 := F0 m 94 ls [.int (b2i false)]) rfl ?_
            exact px_eWz (b2i_n _) hA0 hQ hP hD hS hx hb hr hlocks dX9_digits_94
          · rw [if_neg c7] at h
            refine lv_iconst (v := (nI 1)) hx hb dX9_digits_89 (by decide) ?_
            refine lv_goto (tgt := 94) hx hb dX9_digits_90 (by decide) ?_
            cases h
            refine W.eq (g2 := F0 m 94 ls [.int (b2i true)]) rfl ?_
            exact px_eWz (b2i_n _) hA0 hQ hP hD hS hx hb hr hlocks dX9_digits_94
        · rw [if_neg c6] at h
          refine lv_aload_n hx hb dX9_digits_25 rfl (lv_at hl 0 rfl) ?_
          refine va_get (D := E.1) (ci := 9) (v := .ref (a 6)) (C := RX9) (T := TX9) (N := 21) hx hb hts iX9 hown hK hP 0 rfl rfl 8 (by decide) (hts _ q1206) (fun _ h9 => h9) rfl dX9_digits_26 ?_
          refine lv_aload_n hx hb dX9_digits_29 rfl (lv_at hl 0 rfl) ?_
          refine va_get (D := E.1) (ci := 9) (v := .int v_at) (C := RX9) (T := TX9) (N := 21) hx hb hts iX9 hown hK hP 0 rfl rfl 10 (by decide) (hts _ q1208) (fun _ h9 => h9) rfl dX9_digits_30 ?_
          obtain ⟨i8, h⟩ := o_t h
          refine va_cald (f := fun j => ch (v_text j)) hx hb hK hP 6 1 rfl rfl (inb_in i8) dX9_digits_33 ?_
          refine W.eq (g2 := F0 m 34 ls [.int (ch (v_text (v_at).toNatClampNeg))]) rfl ?_
          refine lv_bipush (v := (nI 48)) hx hb dX9_digits_34 (by decide) ?_
          refine lv_bipush (v := (nI 57)) hx hb dX9_digits_36 (by decide) ?_
          obtain ⟨r9, hr10, h⟩ := ob h
          refine px_Sp (As := [.int (ch (v_text (v_at).toNatClampNeg)), .int (nI 48), .int (nI 57)]) (rest := []) (gs := ([gX9 E a v_now v_tried v_kept v_undos v_saved v_isSaved v_line v_lined v_text v_length v_at v_order v_told v_error v_reason v_detail v_answer v_thrown v_mixed v_conflicts v_firstConflict] : List va_W)) (gc := ([] : List va_W)) ⟨hx, hb, hml, hown, hts⟩ (c9_in l E   ((ch (v_text (v_at).toNatClampNeg))) ((nI 48)) ((nI 57))  r9 hr10) (va_cwS 3 hts (ws_s q1282 q1283 q68 q1284) rfl rfl rfl hdS_X9_in (by rw [hR]; exact ⟨Nat.le_of_ble_eq_true rfl, Nat.le_of_ble_eq_true rfl⟩)) hK hN hP hD [] rfl (by decide) rfl hl.1 rfl (Nat.le_of_ble_eq_true rfl) dX9_digits_38 (by rw [hR]; exact ⟨Nat.le_of_ble_eq_true rfl, Nat.le_of_ble_eq_true rfl⟩) ?_
          refine W.eq (g2 := F0 m 41 ls [.int (b2i r9)]) rfl ?_
          refine lv_if_eq (tgt := 85) hx hb dX9_digits_41 (by decide) (fun c11 => ?_) (fun c11 => ?_)
          · rw [if_pos c11] at h
            refine lv_iload_n hx hb dX9_digits_85 rfl (lv_at hl 3 rfl) ?_
            refine lv_if_le (tgt := 93) hx hb dX9_digits_86 (by decide) (fun c12 => ?_) (fun c12 => ?_)
            · rw [if_pos c12] at h
              refine lv_iconst (v := (nI 0)) hx hb dX9_digits_93 (by decide) ?_
              cases h
              refine W.eq (g2 := F0 m 94 ls [.int (b2i false)]) rfl ?_
              exact px_eWz (b2i_n _) hA0 hQ hP hD hS hx hb hr hlocks dX9_digits_94
            · rw [if_neg c12] at h
              refine lv_iconst (v := (nI 1)) hx hb dX9_digits_89 (by decide) ?_
              refine lv_goto (tgt := 94) hx hb dX9_digits_90 (by decide) ?_
              cases h
              refine W.eq (g2 := F0 m 94 ls [.int (b2i true)]) rfl ?_
              exact px_eWz (b2i_n _) hA0 hQ hP hD hS hx hb hr hlocks dX9_digits_94
          · rw [if_neg c11] at h
            refine lv_aload_n hx hb dX9_digits_44 rfl (lv_at hl 0 rfl) ?_
            refine va_get (D := E.1) (ci := 9) (v := .ref (a 7)) (C := RX9) (T := TX9) (N := 21) hx hb hts iX9 hown hK hP 0 rfl rfl 12 (by decide) (hts _ q1210) (fun _ h9 => h9) rfl dX9_digits_45 ?_
            refine lv_iload_n hx hb dX9_digits_48 rfl (lv_at hl 1 rfl) ?_
            refine lv_bipush (v := (nI 10)) hx hb dX9_digits_49 (by decide) ?_
            refine lv_aload_n hx hb dX9_digits_51 rfl (lv_at hl 0 rfl) ?_
            refine va_get (D := E.1) (ci := 9) (v := .ref (a 7)) (C := RX9) (T := TX9) (N := 21) hx hb hts iX9 hown hK hP 0 rfl rfl 12 (by decide) (hts _ q1210) (fun _ h9 => h9) rfl dX9_digits_52 ?_
            refine lv_iload_n hx hb dX9_digits_55 rfl (lv_at hl 1 rfl) ?_
            obtain ⟨i13, h⟩ := o_t h
            refine va_iald (f := v_told) hx hb hK hP 7 0 rfl rfl (inb_in i13) dX9_digits_56 ?_
            refine lv_imul hx hb dX9_digits_57 ?_
            refine lv_aload_n hx hb dX9_digits_58 rfl (lv_at hl 0 rfl) ?_
            refine va_get (D := E.1) (ci := 9) (v := .ref (a 6)) (C := RX9) (T := TX9) (N := 21) hx hb hts iX9 hown hK hP 0 rfl rfl 8 (by decide) (hts _ q1206) (fun _ h9 => h9) rfl dX9_digits_59 ?_
            refine lv_aload_n hx hb dX9_digits_62 rfl (lv_at hl 0 rfl) ?_
            refine lv_dup hx hb dX9_digits_63 rfl ?_
            refine va_get (D := E.1) (ci := 9) (v := .int v_at) (C := RX9) (T := TX9) (N := 21) hx hb hts iX9 hown hK hP 0 rfl rfl 10 (by decide) (hts _ q1208) (fun _ h9 => h9) rfl dX9_digits_64 ?_
            refine lv_dup_x1 hx hb dX9_digits_67 rfl rfl ?_
            refine lv_iconst (v := (nI 1)) hx hb dX9_digits_68 (by decide) ?_
            refine lv_iadd hx hb dX9_digits_69 ?_
            refine va_put (D := E.1) (ci := 9) (v := .int (v_at + (nI 1))) (ty := .int) (C := RX9) (T := TX9) (N := 21) hx hb hts iX9 tyX9 tyX9_ok nmX9 hown hK hP hD hS 0 rfl rfl 10 (by decide) (hts _ q1208) (fun _ h9 => h9) rfl (tyX9_ok 10 (by decide)) rfl rfl (Nat.le_of_ble_eq_true rfl) dX9_digits_70 (fun H locs hP hD hS => ?_)
            have hP : va_P E.1 vwCl ([gX9 E a v_now v_tried v_kept v_undos v_saved v_isSaved v_line v_lined v_text v_length (v_at + (nI 1)) v_order v_told v_error v_reason v_detail v_answer v_thrown v_mixed v_conflicts v_firstConflict] : List va_W).flatten H := hP
            have hD : va_D A ([gX9 E a v_now v_tried v_kept v_undos v_saved v_isSaved v_line v_lined v_text v_length (v_at + (nI 1)) v_order v_told v_error v_reason v_detail v_answer v_thrown v_mixed v_conflicts v_firstConflict] : List va_W).flatten := hD
            obtain ⟨u14, e15, h⟩ := lt_e h
            rw [← e15] at hP hD
            obtain ⟨i16, h⟩ := o_t h
            refine va_cald (f := fun j => ch (v_text j)) hx hb hK hP 6 1 rfl rfl (inb_in i16) dX9_digits_73 ?_
            refine W.eq (g2 := F0 m 74 ls [.int (ch (v_text (v_at).toNatClampNeg)), .int ((nI 10) * (v_told (x1).toNatClampNeg)), .int x1, .ref (a 7)]) rfl ?_
            refine lv_iadd hx hb dX9_digits_74 ?_
            refine lv_bipush (v := (nI 48)) hx hb dX9_digits_75 (by decide) ?_
            refine lv_isub hx hb dX9_digits_77 ?_
            obtain ⟨i17, h⟩ := o_t h
            refine va_iast (f := v_told) hx hb hK hP hD hS 7 0 rfl rfl (inb_in i17) dX9_digits_78 (fun H locs hP hD hS => ?_)
            have hP : va_P E.1 vwCl ([gX9 E a v_now v_tried v_kept v_undos v_saved v_isSaved v_line v_lined v_text v_length u14 v_order (upd v_told (x1).toNatClampNeg ((((nI 10) * (v_told (x1).toNatClampNeg)) + (ch (v_text (v_at).toNatClampNeg))) - (nI 48))) v_error v_reason v_detail v_answer v_thrown v_mixed v_conflicts v_firstConflict] : List va_W).flatten H := hP
            have hD : va_D A ([gX9 E a v_now v_tried v_kept v_undos v_saved v_isSaved v_line v_lined v_text v_length u14 v_order (upd v_told (x1).toNatClampNeg ((((nI 10) * (v_told (x1).toNatClampNeg)) + (ch (v_text (v_at).toNatClampNeg))) - (nI 48))) v_error v_reason v_detail v_answer v_thrown v_mixed v_conflicts v_firstConflict] : List va_W).flatten := hD
            obtain ⟨u18, e19, h⟩ := lt_e h
            rw [← e19] at hP hD
            refine lv_iinc (v := (x3 + nI 1)) (lv' := [(3, .int (x3 + nI 1)), (0, .ref (a 0)), (1, .int x1), (2, .int x2)]) hx hb dX9_digits_79 hl (k := 3) rfl rfl (by decide) rfl (fun ls hl => ?_)
            refine lv_goto (tgt := 9) hx hb dX9_digits_82 (by decide) ?_
            exact ih ((x3 + nI 1)) (u14) (u18) H locs ls hP hD hS (lv_sub hl [1, 2, 3, 0] rfl) h
  intro H locs hP hS
  refine lv_iconst (v := (nI 0)) hx hb dX9_digits_0 (by decide) ?_
  refine lv_istore_n (lv' := [(3, .int (nI 0)), (0, .ref (a 0)), (1, .int x1), (2, .int x2)]) hx hb dX9_digits_1 rfl hl (by decide) rfl (fun ls hl => ?_)
  refine lv_aload_n hx hb dX9_digits_2 rfl (lv_at hl 1 rfl) ?_
  refine va_get (D := E.1) (ci := 9) (v := .ref (a 7)) (C := RX9) (T := TX9) (N := 21) hx hb hts iX9 hown hK hP 0 rfl rfl 12 (by decide) (hts _ q1210) (fun _ h9 => h9) rfl dX9_digits_3 ?_
  refine lv_iload_n hx hb dX9_digits_6 rfl (lv_at hl 2 rfl) ?_
  refine lv_iconst (v := (nI 0)) hx hb dX9_digits_7 (by decide) ?_
  obtain ⟨i1, h⟩ := o_t h
  refine va_iast (f := v_told) hx hb hK hP hD hS 7 0 rfl rfl (inb_in i1) dX9_digits_8 (fun H locs hP hD hS => ?_)
  have hP : va_P E.1 vwCl ([gX9 E a v_now v_tried v_kept v_undos v_saved v_isSaved v_line v_lined v_text v_length v_at v_order (upd v_told (x1).toNatClampNeg (nI 0)) v_error v_reason v_detail v_answer v_thrown v_mixed v_conflicts v_firstConflict] : List va_W).flatten H := hP
  have hD : va_D A ([gX9 E a v_now v_tried v_kept v_undos v_saved v_isSaved v_line v_lined v_text v_length v_at v_order (upd v_told (x1).toNatClampNeg (nI 0)) v_error v_reason v_detail v_answer v_thrown v_mixed v_conflicts v_firstConflict] : List va_W).flatten := hD
  obtain ⟨u2, e3, h⟩ := lt_e h
  rw [← e3] at hP hD
  exact L9 fuel ((nI 0)) (v_at) (u2) H locs ls hP hD hS (lv_sub hl [1, 2, 3, 0] rfl) h
