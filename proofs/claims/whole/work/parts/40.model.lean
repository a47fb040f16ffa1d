def f9_line_L94 (x1 : Int32) (v_now : AI) : Nat → Int32 → AI → Int32 → Int32 → Option (Int32 × AI × Int32 × Int32)
  | 0, _, _, _, _ => none
  | n + 1, x2, v_line, v_lined, v_thrown => (if (nI 6) ≤ x2 then (some (v_lined, v_line, v_lined, v_thrown)) else (lt (v_lined + (nI 1)) fun u30 => (if inb v_lined 40 = true then (lt (upd v_line (v_lined).toNatClampNeg (nI 32)) fun u33 => ((f9_has (x1) (x2) (v_now)).bind fun r35 => ((f9_writesNumber (r35) (u33) (u30)).bind fun (w37, w38) => (f9_line_L94 x1 v_now n ((x2 + nI 1)) (w37) (w38) (v_thrown))))) else none)))
def f9_line (x1 : Int32) (v_now : AI) (v_line : AI) (v_lined : Int32) (v_thrown : Int32) : Option (Int32 × AI × Int32 × Int32) := ((f9_isCommit (x1) (v_now)).bind fun r1 => (if (b2i r1) = 0 then ((f9_raises ((nI 1)) ((nI 0))).bind fun (r26, w27) => (some (r26, v_line, v_lined, w27))) else ((f9_writesNumber (x1) (v_line) ((nI 0))).bind fun (w4, w5) => (lt (w5 + (nI 1)) fun u7 => (if inb w5 40 = true then (lt (upd w4 (w5).toNatClampNeg (nI 32)) fun u10 => (lt (u7 + (nI 1)) fun u12 => ((f9_of (x1) ((nI 0)) (v_now)).bind fun r14 => (if 6 < 7 then (if inb r14 (sLen.getD 6 0) = true then (if inb u7 40 = true then (lt (upd u10 (u7).toNatClampNeg (ch (sCh 6 (r14).toNatClampNeg))) fun u19 => (lt (u12 + (nI 1)) fun u21 => (if inb u12 40 = true then (lt (upd u19 (u12).toNatClampNeg (nI 58)) fun u24 => (f9_line_L94 x1 v_now fuel ((nI 0)) (u24) (u21) ((nI 0)))) else none))) else none) else none) else none)))) else none)))))
set_option maxHeartbeats 4000000 in
set_option maxRecDepth 100000 in
theorem c9_line (l : Launch) (E : PE) (X : PX) (a : Nat → Nat)  (x1 : Int32) (v_now : AI) (v_tried : AI) (v_kept : AI) (v_undos : Int32) (v_saved : AI) (v_isSaved : Int32) (v_line : AI) (v_lined : Int32) (v_text : AI) (v_length : Int32) (v_at : Int32) (v_order : Int32) (v_told : AI) (v_error : Int32) (v_reason : Int32) (v_detail : Int32) (v_answer : Int32) (v_thrown : Int32) (v_mixed : AI) (v_conflicts : Int32) (v_firstConflict : Int32) (r : Int32) (z_this_line : AI) (z_this_lined : Int32) (z_this_thrown : Int32) (h : f9_line x1 v_now v_line v_lined v_thrown = some (r, z_this_line, z_this_lined, z_this_thrown)) : MWX l yX9_line cX9_line 3 (some .int) { frames := 4, cells := 0, slots := 0, locals := 85 } E X [.ref (a 0), .int x1] ([gX9 E a v_now v_tried v_kept v_undos v_saved v_isSaved v_line v_lined v_text v_length v_at v_order v_told v_error v_reason v_detail v_answer v_thrown v_mixed v_conflicts v_firstConflict] : List va_W).flatten 0 0 (some (.int r)) ([gX9 E a v_now v_tried v_kept v_undos v_saved v_isSaved z_this_line z_this_lined v_text v_length v_at v_order v_told v_error v_reason v_detail v_answer z_this_thrown v_mixed v_conflicts v_firstConflict] : List va_W).flatten := by
  refine px_startWX (by decide +kernel) (Nat.le_of_ble_eq_true rfl) ?_
  intro p e s m args below meth c R Q A ls hC hX hA0 hQ
  obtain ⟨hx, hb, hr, hml, hts, hown, hlocks, hR, hK, hN, hP, hD, hA, hl, hin⟩ := hC
  have hl : lv_has ls 3 [(0, .ref (a 0)), (1, .int x1)] := hl
  suffices key : ∀ (H : Heap) (locs : List Loc), va_P E.1 vwCl ([gX9 E a v_now v_tried v_kept v_undos v_saved v_isSaved v_line v_lined v_text v_length v_at v_order v_told v_error v_reason v_detail v_answer v_thrown v_mixed v_conflicts v_firstConflict] : List va_W).flatten H → va_S A s.heap H locs → W p l e R s m args below meth c H locs 0 0 Q (F0 m 0 ls []) from key s.heap [] hP va_S.rf
  unfold f9_line at h
  have L94 : ∀ (n : Nat) (x2 : Int32) (v_line : AI) (v_lined : Int32) (v_thrown : Int32) (H : Heap) (locs : List Loc) (ls : Array Slot), va_P E.1 vwCl ([gX9 E a v_now v_tried v_kept v_undos v_saved v_isSaved v_line v_lined v_text v_length v_at v_order v_told v_error v_reason v_detail v_answer v_thrown v_mixed v_conflicts v_firstConflict] : List va_W).flatten H → va_D A ([gX9 E a v_now v_tried v_kept v_undos v_saved v_isSaved v_line v_lined v_text v_length v_at v_order v_told v_error v_reason v_detail v_answer v_thrown v_mixed v_conflicts v_firstConflict] : List va_W).flatten → va_S A s.heap H locs → lv_has ls 3 [(0, .ref (a 0)), (1, .int x1), (2, .int x2)] → f9_line_L94 x1 v_now n x2 v_line v_lined v_thrown = some (r, z_this_line, z_this_lined, z_this_thrown) → W p l e R s m args below meth c H locs 0 0 Q (F0 m 94 ls []) := by
    intro n
    induction n with
    | zero =>
      intro x2 v_line v_lined v_thrown H locs ls hP hD hS hl h
      unfold f9_line_L94 at h; cases h
    | succ n ih =>
      intro x2 v_line v_lined v_thrown H locs ls hP hD hS hl h
      unfold f9_line_L94 at h
      refine lv_iload_n hx hb dX9_line_94 rfl (lv_at hl 2 rfl) ?_
      refine lv_bipush (v := (nI 6)) hx hb dX9_line_95 (by decide) ?_
      refine lv_icmp_ge (tgt := 134) hx hb dX9_line_97 (by decide) (fun c29 => ?_) (fun c29 => ?_)
      · rw [if_pos c29] at h
        refine lv_aload_n hx hb dX9_line_134 rfl (lv_at hl 0 rfl) ?_
        refine va_get (D := E.1) (ci := 9) (v := .int v_lined) (C := RX9) (T := TX9) (N := 21) hx hb hts iX9 hown hK hP 0 rfl rfl 7 (by decide) (hts _ q1205) (fun _ h9 => h9) rfl dX9_line_135 ?_
        cases h
        exact px_eWi hA0 hQ hP hD hS hx hb hr hlocks dX9_line_138
      · rw [if_neg c29] at h
        refine lv_aload_n hx hb dX9_line_100 rfl (lv_at hl 0 rfl) ?_
        refine va_get (D := E.1) (ci := 9) (v := .ref (a 5)) (C := RX9) (T := TX9) (N := 21) hx hb hts iX9 hown hK hP 0 rfl rfl 6 (by decide) (hts _ q1204) (fun _ h9 => h9) rfl dX9_line_101 ?_
        refine lv_aload_n hx hb dX9_line_104 rfl (lv_at hl 0 rfl) ?_
        refine lv_dup hx hb dX9_line_105 rfl ?_
        refine va_get (D := E.1) (ci := 9) (v := .int v_lined) (C := RX9) (T := TX9) (N := 21) hx hb hts iX9 hown hK hP 0 rfl rfl 7 (by decide) (hts _ q1205) (fun _ h9 => h9) rfl dX9_line_106 ?_
        refine lv_dup_x1 hx hb dX9_line_109 rfl rfl ?_
        refine lv_iconst (v := (nI 1)) hx hb dX9_line_110 (by decide) ?_
        refine lv_iadd hx hb dX9_line_111 ?_
        refine va_put (D := E.1) (ci := 9) (v := .int (v_lined + (nI 1))) (ty := .int) (C := RX9) (T := TX9) (N := 21) hx hb hts iX9 tyX9 tyX9_ok nmX9 hown hK hP hD hS 0 rfl rfl 7 (by decide) (hts _ q1205) (fun _ h9 => h9) rfl (tyX9_ok 7 (by decide)) rfl rfl (Nat.le_of_ble_eq_true rfl) dX9_line_112 (fun H locs hP hD hS => ?_)
        have hP : va_P E.1 vwCl ([gX9 E a v_now v_tried v_kept v_undos v_saved v_isSaved v_line (v_lined + (nI 1)) v_text v_length v_at v_order v_told v_error v_reason v_detail v_answer v_thrown v_mixed v_conflicts v_firstConflict] : List va_W).flatten H := hP
        have hD : va_D A ([gX9 E a v_now v_tried v_kept v_undos v_saved v_isSaved v_line (v_lined + (nI 1)) v_text v_length v_at v_order v_told v_error v_reason v_detail v_answer v_thrown v_mixed v_conflicts v_firstConflict] : List va_W).flatten := hD
        obtain ⟨u30, e31, h⟩ := lt_e h
        rw [← e31] at hP hD
        refine lv_bipush (v := (nI 32)) hx hb dX9_line_115 (by decide) ?_
        obtain ⟨i32, h⟩ := o_t h
        refine va_cast (f := fun j => ch (v_line j)) hx hb hK hP hD hS 5 1 rfl rfl (inb_in i32) dX9_line_117 (fun H locs hP hD hS => ?_)
        rw [ch_u] at hP hD
        have hP : va_P E.1 vwCl ([gX9 E a v_now v_tried v_kept v_undos v_saved v_isSaved (upd v_line (v_lined).toNatClampNeg (nI 32)) u30 v_text v_length v_at v_order v_told v_error v_reason v_detail v_answer v_thrown v_mixed v_conflicts v_firstConflict] : List va_W).flatten H := hP
        have hD : va_D A ([gX9 E a v_now v_tried v_kept v_undos v_saved v_isSaved (upd v_line (v_lined).toNatClampNeg (nI 32)) u30 v_text v_length v_at v_order v_told v_error v_reason v_detail v_answer v_thrown v_mixed v_conflicts v_firstConflict] : List va_W).flatten := hD
        obtain ⟨u33, e34, h⟩ := lt_e h
        rw [← e34] at hP hD
        refine lv_aload_n hx hb dX9_line_118 rfl (lv_at hl 0 rfl) ?_
        refine lv_aload_n hx hb dX9_line_119 rfl (lv_at hl 0 rfl) ?_
        refine lv_iload_n hx hb dX9_line_120 rfl (lv_at hl 1 rfl) ?_
        refine lv_iload_n hx hb dX9_line_121 rfl (lv_at hl 2 rfl) ?_
        obtain ⟨r35, hr36, h⟩ := ob h
        refine px_Vp (As := [.int x1, .int x2]) (rest := [.ref (a 0)]) (gs := ([gX9 E a v_now v_tried v_kept v_undos v_saved v_isSaved u33 u30 v_text v_length v_at v_order v_told v_error v_reason v_detail v_answer v_thrown v_mixed v_conflicts v_firstConflict] : List va_W)) (gc := ([gX9 E a v_now v_tried v_kept v_undos v_saved v_isSaved u33 u30 v_text v_length v_at v_order v_told v_error v_reason v_detail v_answer v_thrown v_mixed v_conflicts v_firstConflict] : List va_W)) ⟨hx, hb, hml, hown, hts⟩ (c9_has l E a  (x1) (x2) (v_now) (v_tried) (v_kept) (v_undos) (v_saved) (v_isSaved) (u33) (u30) (v_text) (v_length) (v_at) (v_order) (v_told) (v_error) (v_reason) (v_detail) (v_answer) (v_thrown) (v_mixed) (v_conflicts) (v_firstConflict) r35 hr36) (cwV 2 hts (ws_v q1292 q1294 q21 q68 q1295) rfl rfl rfl hdV_X9_has (by rw [hR]; exact ⟨Nat.le_of_ble_eq_true rfl, Nat.le_of_ble_eq_true rfl⟩)) hK hN hP hD [0] rfl (by decide) 0 9 rfl rfl rfl rfl hl.1 rfl (Nat.le_of_ble_eq_true rfl) dX9_line_122 (by rw [hR]; exact ⟨Nat.le_of_ble_eq_true rfl, Nat.le_of_ble_eq_true rfl⟩) ?_
        refine W.eq (g2 := F0 m 125 ls [.int r35, .ref (a 0)]) rfl ?_
        obtain ⟨⟨w37, w38⟩, hr39, h⟩ := ob h
        dsimp only at h
        refine px_V (As := [.int r35]) (rest := []) (gs := ([gX9 E a v_now v_tried v_kept v_undos v_saved v_isSaved u33 u30 v_text v_length v_at v_order v_told v_error v_reason v_detail v_answer v_thrown v_mixed v_conflicts v_firstConflict] : List va_W)) (gr := ([] : List va_W)) (gc := ([gX9 E a v_now v_tried v_kept v_undos v_saved v_isSaved u33 u30 v_text v_length v_at v_order v_told v_error v_reason v_detail v_answer v_thrown v_mixed v_conflicts v_firstConflict] : List va_W)) (g1 := ([gX9 E a v_now v_tried v_kept v_undos v_saved v_isSaved w37 w38 v_text v_length v_at v_order v_told v_error v_reason v_detail v_answer v_thrown v_mixed v_conflicts v_firstConflict] : List va_W)) (g2 := ([gX9 E a v_now v_tried v_kept v_undos v_saved v_isSaved w37 w38 v_text v_length v_at v_order v_told v_error v_reason v_detail v_answer v_thrown v_mixed v_conflicts v_firstConflict] : List va_W)) ⟨hx, hb, hml, hown, hts⟩ (c9_writesNumber l E a  (r35) (v_now) (v_tried) (v_kept) (v_undos) (v_saved) (v_isSaved) (u33) (u30) (v_text) (v_length) (v_at) (v_order) (v_told) (v_error) (v_reason) (v_detail) (v_answer) (v_thrown) (v_mixed) (v_conflicts) (v_firstConflict) w37 w38 hr39) (cwV 1 hts (ws_v q1531 q1533 q52 q68 q1534) rfl rfl rfl hdV_X9_writesNumber (by rw [hR]; exact ⟨Nat.le_of_ble_eq_true rfl, Nat.le_of_ble_eq_true rfl⟩)) hK hN hP hD hS hA [] [0] [0] rfl rfl (by decide) (by decide) rfl (by decide) 0 9 rfl rfl rfl rfl hl.1 rfl (Nat.le_of_ble_eq_true rfl) dX9_line_125 (by rw [hR]; exact ⟨Nat.le_of_ble_eq_true rfl, Nat.le_of_ble_eq_true rfl⟩) (fun H locs hP hD hS => ?_)
        refine W.eq (g2 := F0 m 128 ls []) rfl ?_
        refine lv_iinc (v := (x2 + nI 1)) (lv' := [(2, .int (x2 + nI 1)), (0, .ref (a 0)), (1, .int x1)]) hx hb dX9_line_128 hl (k := 2) rfl rfl (by decide) rfl (fun ls hl => ?_)
        refine lv_goto (tgt := 94) hx hb dX9_line_131 (by decide) ?_
        exact ih ((x2 + nI 1)) (w37) (w38) (v_thrown) H locs ls hP hD hS (lv_sub hl [1, 2, 0] rfl) h
  intro H locs hP hS
  refine lv_aload_n hx hb dX9_line_0 rfl (lv_at hl 0 rfl) ?_
  refine lv_iconst (v := (nI 0)) hx hb dX9_line_1 (by decide) ?_
  refine va_put (D := E.1) (ci := 9) (v := .int (nI 0)) (ty := .int) (C := RX9) (T := TX9) (N := 21) hx hb hts iX9 tyX9 tyX9_ok nmX9 hown hK hP hD hS 0 rfl rfl 17 (by decide) (hts _ q1215) (fun _ h9 => h9) rfl (tyX9_ok 17 (by decide)) rfl rfl (Nat.le_of_ble_eq_true rfl) dX9_line_2 (fun H locs hP hD hS => ?_)
  have hP : va_P E.1 vwCl ([gX9 E a v_now v_tried v_kept v_undos v_saved v_isSaved v_line v_lined v_text v_length v_at v_order v_told v_error v_reason v_detail v_answer (nI 0) v_mixed v_conflicts v_firstConflict] : List va_W).flatten H := hP
  have hD : va_D A ([gX9 E a v_now v_tried v_kept v_undos v_saved v_isSaved v_line v_lined v_text v_length v_at v_order v_told v_error v_reason v_detail v_answer (nI 0) v_mixed v_conflicts v_firstConflict] : List va_W).flatten := hD
  refine lv_aload_n hx hb dX9_line_5 rfl (lv_at hl 0 rfl) ?_
  refine lv_iload_n hx hb dX9_line_6 rfl (lv_at hl 1 rfl) ?_
  obtain ⟨r1, hr2, h⟩ := ob h
  refine px_Vp (As := [.int x1]) (rest := []) (gs := ([gX9 E a v_now v_tried v_kept v_undos v_saved v_isSaved v_line v_lined v_text v_length v_at v_order v_told v_error v_reason v_detail v_answer (nI 0) v_mixed v_conflicts v_firstConflict] : List va_W)) (gc := ([gX9 E a v_now v_tried v_kept v_undos v_saved v_isSaved v_line v_lined v_text v_length v_at v_order v_told v_error v_reason v_detail v_answer (nI 0) v_mixed v_conflicts v_firstConflict] : List va_W)) ⟨hx, hb, hml, hown, hts⟩ (c9_isCommit l E a  (x1) (v_now) (v_tried) (v_kept) (v_undos) (v_saved) (v_isSaved) (v_line) (v_lined) (v_text) (v_length) (v_at) (v_order) (v_told) (v_error) (v_reason) (v_detail) (v_answer) ((nI 0)) (v_mixed) (v_conflicts) (v_firstConflict) r1 hr2) (cwV 1 hts (ws_v q1344 q1346 q32 q68 q1347) rfl rfl rfl hdV_X9_isCommit (by rw [hR]; exact ⟨Nat.le_of_ble_eq_true rfl, Nat.le_of_ble_eq_true rfl⟩)) hK hN hP hD [0] rfl (by decide) 0 9 rfl rfl rfl rfl hl.1 rfl (Nat.le_of_ble_eq_true rfl) dX9_line_7 (by rw [hR]; exact ⟨Nat.le_of_ble_eq_true rfl, Nat.le_of_ble_eq_true rfl⟩) ?_
  refine W.eq (g2 := F0 m 10 ls [.int (b2i r1)]) rfl ?_
  refine lv_if_ne (tgt := 19) hx hb dX9_line_10 (by decide) (fun c3 => ?_) (fun c3 => ?_)
  · rw [if_neg c3] at h
    refine lv_aload_n hx hb dX9_line_19 rfl (lv_at hl 0 rfl) ?_
    refine lv_iconst (v := (nI 0)) hx hb dX9_line_20 (by decide) ?_
    refine va_put (D := E.1) (ci := 9) (v := .int (nI 0)) (ty := .int) (C := RX9) (T := TX9) (N := 21) hx hb hts iX9 tyX9 tyX9_ok nmX9 hown hK hP hD hS 0 rfl rfl 7 (by decide) (hts _ q1205) (fun _ h9 => h9) rfl (tyX9_ok 7 (by decide)) rfl rfl (Nat.le_of_ble_eq_true rfl) dX9_line_21 (fun H locs hP hD hS => ?_)
    have hP : va_P E.1 vwCl ([gX9 E a v_now v_tried v_kept v_undos v_saved v_isSaved v_line (nI 0) v_text v_length v_at v_order v_told v_error v_reason v_detail v_answer (nI 0) v_mixed v_conflicts v_firstConflict] : List va_W).flatten H := hP
    have hD : va_D A ([gX9 E a v_now v_tried v_kept v_undos v_saved v_isSaved v_line (nI 0) v_text v_length v_at v_order v_told v_error v_reason v_detail v_answer (nI 0) v_mixed v_conflicts v_firstConflict] : List va_W).flatten := hD
    refine lv_aload_n hx hb dX9_line_24 rfl (lv_at hl 0 rfl) ?_
    refine lv_iload_n hx hb dX9_line_25 rfl (lv_at hl 1 rfl) ?_
    obtain ⟨⟨w4, w5⟩, hr6, h⟩ := ob h
    dsimp only at h
    refine px_V (As := [.int x1]) (rest := []) (gs := ([gX9 E a v_now v_tried v_kept v_undos v_saved v_isSaved v_line (nI 0) v_text v_length v_at v_order v_told v_error v_reason v_detail v_answer (nI 0) v_mixed v_conflicts v_firstConflict] : List va_W)) (gr := ([] : List va_W)) (gc := ([gX9 E a v_now v_tried v_kept v_undos v_saved v_isSaved v_line (nI 0) v_text v_length v_at v_order v_told v_error v_reason v_detail v_answer (nI 0) v_mixed v_conflicts v_firstConflict] : List va_W)) (g1 := ([gX9 E a v_now v_tried v_kept v_undos v_saved v_isSaved w4 w5 v_text v_length v_at v_order v_told v_error v_reason v_detail v_answer (nI 0) v_mixed v_conflicts v_firstConflict] : List va_W)) (g2 := ([gX9 E a v_now v_tried v_kept v_undos v_saved v_isSaved w4 w5 v_text v_length v_at v_order v_told v_error v_reason v_detail v_answer (nI 0) v_mixed v_conflicts v_firstConflict] : List va_W)) ⟨hx, hb, hml, hown, hts⟩ (c9_writesNumber l E a  (x1) (v_now) (v_tried) (v_kept) (v_undos) (v_saved) (v_isSaved) (v_line) ((nI 0)) (v_text) (v_length) (v_at) (v_order) (v_told) (v_error) (v_reason) (v_detail) (v_answer) ((nI 0)) (v_mixed) (v_conflicts) (v_firstConflict) w4 w5 hr6) (cwV 1 hts (ws_v q1531 q1533 q52 q68 q1534) rfl rfl rfl hdV_X9_writesNumber (by rw [hR]; exact ⟨Nat.le_of_ble_eq_true rfl, Nat.le_of_ble_eq_true rfl⟩)) hK hN hP hD hS hA [] [0] [0] rfl rfl (by decide) (by decide) rfl (by decide) 0 9 rfl rfl rfl rfl hl.1 rfl (Nat.le_of_ble_eq_true rfl) dX9_line_26 (by rw [hR]; exact ⟨Nat.le_of_ble_eq_true rfl, Nat.le_of_ble_eq_true rfl⟩) (fun H locs hP hD hS => ?_)
    refine W.eq (g2 := F0 m 29 ls []) rfl ?_
    refine lv_aload_n hx hb dX9_line_29 rfl (lv_at hl 0 rfl) ?_
    refine va_get (D := E.1) (ci := 9) (v := .ref (a 5)) (C := RX9) (T := TX9) (N := 21) hx hb hts iX9 hown hK hP 0 rfl rfl 6 (by decide) (hts _ q1204) (fun _ h9 => h9) rfl dX9_line_30 ?_
    refine lv_aload_n hx hb dX9_line_33 rfl (lv_at hl 0 rfl) ?_
    refine lv_dup hx hb dX9_line_34 rfl ?_
    refine va_get (D := E.1) (ci := 9) (v := .int w5) (C := RX9) (T := TX9) (N := 21) hx hb hts iX9 hown hK hP 0 rfl rfl 7 (by decide) (hts _ q1205) (fun _ h9 => h9) rfl dX9_line_35 ?_
    refine lv_dup_x1 hx hb dX9_line_38 rfl rfl ?_
    refine lv_iconst (v := (nI 1)) hx hb dX9_line_39 (by decide) ?_
    refine lv_iadd hx hb dX9_line_40 ?_
    refine va_put (D := E.1) (ci := 9) (v := .int (w5 + (nI 1))) (ty := .int) (C := RX9) (T := TX9) (N := 21) hx hb hts iX9 tyX9 tyX9_ok nmX9 hown hK hP hD hS 0 rfl rfl 7 (by decide) (hts _ q1205) (fun _ h9 => h9) rfl (tyX9_ok 7 (by decide)) rfl rfl (Nat.le_of_ble_eq_true rfl) dX9_line_41 (fun H locs hP hD hS => ?_)
    have hP : va_P E.1 vwCl ([gX9 E a v_now v_tried v_kept v_undos v_saved v_isSaved w4 (w5 + (nI 1)) v_text v_length v_at v_order v_told v_error v_reason v_detail v_answer (nI 0) v_mixed v_conflicts v_firstConflict] : List va_W).flatten H := hP
    have hD : va_D A ([gX9 E a v_now v_tried v_kept v_undos v_saved v_isSaved w4 (w5 + (nI 1)) v_text v_length v_at v_order v_told v_error v_reason v_detail v_answer (nI 0) v_mixed v_conflicts v_firstConflict] : List va_W).flatten := hD
    obtain ⟨u7, e8, h⟩ := lt_e h
    rw [← e8] at hP hD
    refine lv_bipush (v := (nI 32)) hx hb dX9_line_44 (by decide) ?_
    obtain ⟨i9, h⟩ := o_t h
    refine va_cast (f := fun j => ch (w4 j)) hx hb hK hP hD hS 5 1 rfl rfl (inb_in i9) dX9_line_46 (fun H locs hP hD hS => ?_)
    rw [ch_u] at hP hD
    have hP : va_P E.1 vwCl ([gX9 E a v_now v_tried v_kept v_undos v_saved v_isSaved (upd w4 (w5).toNatClampNeg (nI 32)) u7 v_text v_length v_at v_order v_told v_error v_reason v_detail v_answer (nI 0) v_mixed v_conflicts v_firstConflict] : List va_W).flatten H := hP
    have hD : va_D A ([gX9 E a v_now v_tried v_kept v_undos v_saved v_isSaved (upd w4 (w5).toNatClampNeg (nI 32)) u7 v_text v_length v_at v_order v_told v_error v_reason v_detail v_answer (nI 0) v_mixed v_conflicts v_firstConflict] : List va_W).flatten := hD
    obtain ⟨u10, e11, h⟩ := lt_e h
    rw [← e11] at hP hD
    refine lv_aload_n hx hb dX9_line_47 rfl (lv_at hl 0 rfl) ?_
    refine va_get (D := E.1) (ci := 9) (v := .ref (a 5)) (C := RX9) (T := TX9) (N := 21) hx hb hts iX9 hown hK hP 0 rfl rfl 6 (by decide) (hts _ q1204) (fun _ h9 => h9) rfl dX9_line_48 ?_
    refine lv_aload_n hx hb dX9_line_51 rfl (lv_at hl 0 rfl) ?_
    refine lv_dup hx hb dX9_line_52 rfl ?_
    refine va_get (D := E.1) (ci := 9) (v := .int u7) (C := RX9) (T := TX9) (N := 21) hx hb hts iX9 hown hK hP 0 rfl rfl 7 (by decide) (hts _ q1205) (fun _ h9 => h9) rfl dX9_line_53 ?_
    refine lv_dup_x1 hx hb dX9_line_56 rfl rfl ?_
    refine lv_iconst (v := (nI 1)) hx hb dX9_line_57 (by decide) ?_
    refine lv_iadd hx hb dX9_line_58 ?_
    refine va_put (D := E.1) (ci := 9) (v := .int (u7 + (nI 1))) (ty := .int) (C := RX9) (T := TX9) (N := 21) hx hb hts iX9 tyX9 tyX9_ok nmX9 hown hK hP hD hS 0 rfl rfl 7 (by decide) (hts _ q1205) (fun _ h9 => h9) rfl (tyX9_ok 7 (by decide)) rfl rfl (Nat.le_of_ble_eq_true rfl) dX9_line_59 (fun H locs hP hD hS => ?_)
    have hP : va_P E.1 vwCl ([gX9 E a v_now v_tried v_kept v_undos v_saved v_isSaved u10 (u7 + (nI 1)) v_text v_length v_at v_order v_told v_error v_reason v_detail v_answer (nI 0) v_mixed v_conflicts v_firstConflict] : List va_W).flatten H := hP
    have hD : va_D A ([gX9 E a v_now v_tried v_kept v_undos v_saved v_isSaved u10 (u7 + (nI 1)) v_text v_length v_at v_order v_told v_error v_reason v_detail v_answer (nI 0) v_mixed v_conflicts v_firstConflict] : List va_W).flatten := hD
    obtain ⟨u12, e13, h⟩ := lt_e h
    rw [← e13] at hP hD
    refine px_ldcS (i := 6) (tx := "emp") hx hb hown hX rfl dX9_line_62 ?_
    refine lv_aload_n hx hb dX9_line_64 rfl (lv_at hl 0 rfl) ?_
    refine lv_iload_n hx hb dX9_line_65 rfl (lv_at hl 1 rfl) ?_
    refine lv_iconst (v := (nI 0)) hx hb dX9_line_66 (by decide) ?_
    obtain ⟨r14, hr15, h⟩ := ob h
    refine px_Vp (As := [.int x1, .int (nI 0)]) (rest := [.ref (X.1 6), .int u7, .ref (a 5)]) (gs := ([gX9 E a v_now v_tried v_kept v_undos v_saved v_isSaved u10 u12 v_text v_length v_at v_order v_told v_error v_reason v_detail v_answer (nI 0) v_mixed v_conflicts v_firstConflict] : List va_W)) (gc := ([gX9 E a v_now v_tried v_kept v_undos v_saved v_isSaved u10 u12 v_text v_length v_at v_order v_told v_error v_reason v_detail v_answer (nI 0) v_mixed v_conflicts v_firstConflict] : List va_W)) ⟨hx, hb, hml, hown, hts⟩ (c9_of l E a  (x1) ((nI 0)) (v_now) (v_tried) (v_kept) (v_undos) (v_saved) (v_isSaved) (u10) (u12) (v_text) (v_length) (v_at) (v_order) (v_told) (v_error) (v_reason) (v_detail) (v_answer) ((nI 0)) (v_mixed) (v_conflicts) (v_firstConflict) r14 hr15) (cwV 2 hts (ws_v q1296 q1298 q22 q68 q1299) rfl rfl rfl hdV_X9_of (by rw [hR]; exact ⟨Nat.le_of_ble_eq_true rfl, Nat.le_of_ble_eq_true rfl⟩)) hK hN hP hD [0] rfl (by decide) 0 9 rfl rfl rfl rfl hl.1 rfl (Nat.le_of_ble_eq_true rfl) dX9_line_67 (by rw [hR]; exact ⟨Nat.le_of_ble_eq_true rfl, Nat.le_of_ble_eq_true rfl⟩) ?_
    refine W.eq (g2 := F0 m 70 ls [.int r14, .ref (X.1 6), .int u7, .ref (a 5)]) rfl ?_
    obtain ⟨i16, h⟩ := o_t h
    obtain ⟨i17, h⟩ := o_t h
    refine px_VpX (As := [.int r14]) (rest := [.int u7, .ref (a 5)]) (gs := ([gX9 E a v_now v_tried v_kept v_undos v_saved v_isSaved u10 u12 v_text v_length v_at v_order v_told v_error v_reason v_detail v_answer (nI 0) v_mixed v_conflicts v_firstConflict] : List va_W)) (gc := []) ⟨hx, hb, hml, hown, hts⟩ (cJ0_charAt2 l E X 6 r14 i16 i17) (cwV 1 hts (ws_v q1536 q1057 q1058 q81 q1059) rfl rfl rfl hdV_J0_charAt_5068e (by rw [hR]; exact ⟨Nat.le_of_ble_eq_true rfl, Nat.le_of_ble_eq_true rfl⟩)) hK hN hX hP hD hS hA [] rfl (by decide) (px_strRecv hX hS i16) rfl hl.1 rfl (Nat.le_of_ble_eq_true rfl) dX9_line_70 (by rw [hR]; exact ⟨Nat.le_of_ble_eq_true rfl, Nat.le_of_ble_eq_true rfl⟩) ?_
    refine W.eq (g2 := F0 m 73 ls [.int (ch (sCh 6 (r14).toNatClampNeg)), .int u7, .ref (a 5)]) rfl ?_
    obtain ⟨i18, h⟩ := o_t h
    refine va_cast (f := fun j => ch (u10 j)) hx hb hK hP hD hS 5 1 rfl rfl (inb_in i18) dX9_line_73 (fun H locs hP hD hS => ?_)
    rw [ch_u] at hP hD
    have hP : va_P E.1 vwCl ([gX9 E a v_now v_tried v_kept v_undos v_saved v_isSaved (upd u10 (u7).toNatClampNeg (ch (sCh 6 (r14).toNatClampNeg))) u12 v_text v_length v_at v_order v_told v_error v_reason v_detail v_answer (nI 0) v_mixed v_conflicts v_firstConflict] : List va_W).flatten H := hP
    have hD : va_D A ([gX9 E a v_now v_tried v_kept v_undos v_saved v_isSaved (upd u10 (u7).toNatClampNeg (ch (sCh 6 (r14).toNatClampNeg))) u12 v_text v_length v_at v_order v_told v_error v_reason v_detail v_answer (nI 0) v_mixed v_conflicts v_firstConflict] : List va_W).flatten := hD
    obtain ⟨u19, e20, h⟩ := lt_e h
    rw [← e20] at hP hD
    refine lv_aload_n hx hb dX9_line_74 rfl (lv_at hl 0 rfl) ?_
    refine va_get (D := E.1) (ci := 9) (v := .ref (a 5)) (C := RX9) (T := TX9) (N := 21) hx hb hts iX9 hown hK hP 0 rfl rfl 6 (by decide) (hts _ q1204) (fun _ h9 => h9) rfl dX9_line_75 ?_
    refine lv_aload_n hx hb dX9_line_78 rfl (lv_at hl 0 rfl) ?_
    refine lv_dup hx hb dX9_line_79 rfl ?_
    refine va_get (D := E.1) (ci := 9) (v := .int u12) (C := RX9) (T := TX9) (N := 21) hx hb hts iX9 hown hK hP 0 rfl rfl 7 (by decide) (hts _ q1205) (fun _ h9 => h9) rfl dX9_line_80 ?_
    refine lv_dup_x1 hx hb dX9_line_83 rfl rfl ?_
    refine lv_iconst (v := (nI 1)) hx hb dX9_line_84 (by decide) ?_
    refine lv_iadd hx hb dX9_line_85 ?_
    refine va_put (D := E.1) (ci := 9) (v := .int (u12 + (nI 1))) (ty := .int) (C := RX9) (T := TX9) (N := 21) hx hb hts iX9 tyX9 tyX9_ok nmX9 hown hK hP hD hS 0 rfl rfl 7 (by decide) (hts _ q1205) (fun _ h9 => h9) rfl (tyX9_ok 7 (by decide)) rfl rfl (Nat.le_of_ble_eq_true rfl) dX9_line_86 (fun H locs hP hD hS => ?_)
    have hP : va_P E.1 vwCl ([gX9 E a v_now v_tried v_kept v_undos v_saved v_isSaved u19 (u12 + (nI 1)) v_text v_length v_at v_order v_told v_error v_reason v_detail v_answer (nI 0) v_mixed v_conflicts v_firstConflict] : List va_W).flatten H := hP
    have hD : va_D A ([gX9 E a v_now v_tried v_kept v_undos v_saved v_isSaved u19 (u12 + (nI 1)) v_text v_length v_at v_order v_told v_error v_reason v_detail v_answer (nI 0) v_mixed v_conflicts v_firstConflict] : List va_W).flatten := hD
    obtain ⟨u21, e22, h⟩ := lt_e h
    rw [← e22] at hP hD
    refine lv_bipush (v := (nI 58)) hx hb dX9_line_89 (by decide) ?_
    obtain ⟨i23, h⟩ := o_t h
    refine va_cast (f := fun j => ch (u19 j)) hx hb hK hP hD hS 5 1 rfl rfl (inb_in i23) dX9_line_91 (fun H locs hP hD hS => ?_)
    rw [ch_u] at hP hD
    have hP : va_P E.1 vwCl ([gX9 E a v_now v_tried v_kept v_undos v_saved v_isSaved (upd u19 (u12).toNatClampNeg (nI 58)) u21 v_text v_length v_at v_order v_told v_error v_reason v_detail v_answer (nI 0) v_mixed v_conflicts v_firstConflict] : List va_W).flatten H := hP
    have hD : va_D A ([gX9 E a v_now v_tried v_kept v_undos v_saved v_isSaved (upd u19 (u12).toNatClampNeg (nI 58)) u21 v_text v_length v_at v_order v_told v_error v_reason v_detail v_answer (nI 0) v_mixed v_conflicts v_firstConflict] : List va_W).flatten := hD
    obtain ⟨u24, e25, h⟩ := lt_e h
    rw [← e25] at hP hD
    refine lv_iconst (v := (nI 0)) hx hb dX9_line_92 (by decide) ?_
    refine lv_istore_n (lv' := [(2, .int (nI 0)), (0, .ref (a 0)), (1, .int x1)]) hx hb dX9_line_93 rfl hl (by decide) rfl (fun ls hl => ?_)
    exact L94 fuel ((nI 0)) (u24) (u21) ((nI 0)) H locs ls hP hD hS (lv_sub hl [1, 2, 0] rfl) h
  · rw [if_pos c3] at h
    refine lv_aload_n hx hb dX9_line_13 rfl (lv_at hl 0 rfl) ?_
    refine lv_iconst (v := (nI 1)) hx hb dX9_line_14 (by decide) ?_
    obtain ⟨⟨r26, w27⟩, hr28, h⟩ := ob h
    dsimp only at h
    refine px_V (As := [.int (nI 1)]) (rest := []) (gs := ([gX9 E a v_now v_tried v_kept v_undos v_saved v_isSaved v_line v_lined v_text v_length v_at v_order v_told v_error v_reason v_detail v_answer (nI 0) v_mixed v_conflicts v_firstConflict] : List va_W)) (gr := ([] : List va_W)) (gc := ([gX9 E a v_now v_tried v_kept v_undos v_saved v_isSaved v_line v_lined v_text v_length v_at v_order v_told v_error v_reason v_detail v_answer (nI 0) v_mixed v_conflicts v_firstConflict] : List va_W)) (g1 := ([gX9 E a v_now v_tried v_kept v_undos v_saved v_isSaved v_line v_lined v_text v_length v_at v_order v_told v_error v_reason v_detail v_answer w27 v_mixed v_conflicts v_firstConflict] : List va_W)) (g2 := ([gX9 E a v_now v_tried v_kept v_undos v_saved v_isSaved v_line v_lined v_text v_length v_at v_order v_told v_error v_reason v_detail v_answer w27 v_mixed v_conflicts v_firstConflict] : List va_W)) ⟨hx, hb, hml, hown, hts⟩ (c9_raises l E a  ((nI 1)) (v_now) (v_tried) (v_kept) (v_undos) (v_saved) (v_isSaved) (v_line) (v_lined) (v_text) (v_length) (v_at) (v_order) (v_told) (v_error) (v_reason) (v_detail) (v_answer) ((nI 0)) (v_mixed) (v_conflicts) (v_firstConflict) r26 w27 hr28) (cwV 1 hts (ws_v q1320 q1322 q28 q68 q1323) rfl rfl rfl hdV_X9_raises (by rw [hR]; exact ⟨Nat.le_of_ble_eq_true rfl, Nat.le_of_ble_eq_true rfl⟩)) hK hN hP hD hS hA [] [0] [0] rfl rfl (by decide) (by decide) rfl (by decide) 0 9 rfl rfl rfl rfl hl.1 rfl (Nat.le_of_ble_eq_true rfl) dX9_line_15 (by rw [hR]; exact ⟨Nat.le_of_ble_eq_true rfl, Nat.le_of_ble_eq_true rfl⟩) (fun H locs hP hD hS => ?_)
    refine W.eq (g2 := F0 m 18 ls [.int r26]) rfl ?_
    cases h
    exact px_eWi hA0 hQ hP hD hS hx hb hr hlocks dX9_line_18
