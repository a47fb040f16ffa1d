def f9_edits (x1 : Int32) (x2 : Int32) (x3 : Int32) (v_now : AI) (v_reason : Int32) (v_detail : Int32) (v_answer : Int32) : Option (Int32 × AI × Int32 × Int32 × Int32) := ((f9_isBranch (x1) (v_now)).bind fun r1 => (if (b2i r1) = 0 then (some ((nI 1), v_now, v_reason, v_detail, v_answer)) else ((f9_isKind (x2)).bind fun r4 => (if (b2i r4) = 0 then (some ((nI 1), v_now, v_reason, v_detail, v_answer)) else ((f9_in (x3) ((nI 0)) ((nI 99))).bind fun r7 => (if (b2i r7) = 0 then (some ((nI 2), v_now, v_reason, v_detail, v_answer)) else ((f9_top (x1) (v_now)).bind fun r10 => ((f9_has (r10) (x2) (v_now)).bind fun r12 => (if r12 = x3 then ((f9_refuses ((nI 2)) (x3) (v_reason) (v_detail)).bind fun (r29, w30, w31) => (some (r29, v_now, w30, w31, v_answer))) else (if (v_now ((nI 0)).toNatClampNeg) = (nI 24) then ((f9_refuses ((nI 1)) ((nI 24)) (v_reason) (v_detail)).bind fun (r25, w26, w27) => (some (r25, v_now, w26, w27, v_answer))) else ((f9_comes (x1) ((nI 0)) ((-1 : Int32)) (v_now)).bind fun (r16, w17) => (if inb ((((nI 12) + ((nI 9) * r16)) + (nI 3)) + x2) 228 = true then (lt (upd w17 (((((nI 12) + ((nI 9) * r16)) + (nI 3)) + x2)).toNatClampNeg x3) fun u20 => ((f9_does (r16) (v_answer)).bind fun (r22, w23) => (some (r22, u20, v_reason, v_detail, w23)))) else none))))))))))))
set_option maxHeartbeats 4000000 in
set_option maxRecDepth 100000 in
theorem c9_edits (l : Launch) (E : PE) (a : Nat → Nat)  (x1 : Int32) (x2 : Int32) (x3 : Int32) (v_now : AI) (v_tried : AI) (v_kept : AI) (v_undos : Int32) (v_saved : AI) (v_isSaved : Int32) (v_line : AI) (v_lined : Int32) (v_text : AI) (v_length : Int32) (v_at : Int32) (v_order : Int32) (v_told : AI) (v_error : Int32) (v_reason : Int32) (v_detail : Int32) (v_answer : Int32) (v_thrown : Int32) (v_mixed : AI) (v_conflicts : Int32) (v_firstConflict : Int32) (r : Int32) (z_this_now : AI) (z_this_reason : Int32) (z_this_detail : Int32) (z_this_answer : Int32) (h : f9_edits x1 x2 x3 v_now v_reason v_detail v_answer = some (r, z_this_now, z_this_reason, z_this_detail, z_this_answer)) : MW l yX9_edits cX9_edits 5 (some .int) { frames := 3, cells := 0, slots := 0, locals := 69 } E [.ref (a 0), .int x1, .int x2, .int x3] ([gX9 E a v_now v_tried v_kept v_undos v_saved v_isSaved v_line v_lined v_text v_length v_at v_order v_told v_error v_reason v_detail v_answer v_thrown v_mixed v_conflicts v_firstConflict] : List va_W).flatten 0 0 (some (.int r)) ([gX9 E a z_this_now v_tried v_kept v_undos v_saved v_isSaved v_line v_lined v_text v_length v_at v_order v_told v_error z_this_reason z_this_detail z_this_answer v_thrown v_mixed v_conflicts v_firstConflict] : List va_W).flatten := by
  refine px_startW (by decide +kernel) (Nat.le_of_ble_eq_true rfl) ?_
  intro p e s m args below meth c R Q A ls hC hA0 hQ
  obtain ⟨hx, hb, hr, hml, hts, hown, hlocks, hR, hK, hN, hP, hD, hA, hl, hin⟩ := hC
  have hl : lv_has ls 5 [(0, .ref (a 0)), (1, .int x1), (2, .int x2), (3, .int x3)] := hl
  suffices key : ∀ (H : Heap) (locs : List Loc), va_P E.1 vwCl ([gX9 E a v_now v_tried v_kept v_undos v_saved v_isSaved v_line v_lined v_text v_length v_at v_order v_told v_error v_reason v_detail v_answer v_thrown v_mixed v_conflicts v_firstConflict] : List va_W).flatten H → va_S A s.heap H locs → W p l e R s m args below meth c H locs 0 0 Q (F0 m 0 ls []) from key s.heap [] hP va_S.rf
  unfold f9_edits at h
  intro H locs hP hS
  refine lv_aload_n hx hb dX9_edits_0 rfl (lv_at hl 0 rfl) ?_
  refine lv_iload_n hx hb dX9_edits_1 rfl (lv_at hl 1 rfl) ?_
  obtain ⟨r1, hr2, h⟩ := ob h
  refine px_Vp (As := [.int x1]) (rest := []) (gs := ([gX9 E a v_now v_tried v_kept v_undos v_saved v_isSaved v_line v_lined v_text v_length v_at v_order v_told v_error v_reason v_detail v_answer v_thrown v_mixed v_conflicts v_firstConflict] : List va_W)) (gc := ([gX9 E a v_now v_tried v_kept v_undos v_saved v_isSaved v_line v_lined v_text v_length v_at v_order v_told v_error v_reason v_detail v_answer v_thrown v_mixed v_conflicts v_firstConflict] : List va_W)) ⟨hx, hb, hml, hown, hts⟩ (c9_isBranch l E a  (x1) (v_now) (v_tried) (v_kept) (v_undos) (v_saved) (v_isSaved) (v_line) (v_lined) (v_text) (v_length) (v_at) (v_order) (v_told) (v_error) (v_reason) (v_detail) (v_answer) (v_thrown) (v_mixed) (v_conflicts) (v_firstConflict) r1 hr2) (cwV 1 hts (ws_v q1278 q1280 q19 q68 q1281) rfl rfl rfl hdV_X9_isBranch (by rw [hR]; exact ⟨Nat.le_of_ble_eq_true rfl, Nat.le_of_ble_eq_true rfl⟩)) hK hN hP hD [0] rfl (by decide) 0 9 rfl rfl rfl rfl hl.1 rfl (Nat.le_of_ble_eq_true rfl) dX9_edits_2 (by rw [hR]; exact ⟨Nat.le_of_ble_eq_true rfl, Nat.le_of_ble_eq_true rfl⟩) ?_
  refine W.eq (g2 := F0 m 5 ls [.int (b2i r1)]) rfl ?_
  refine lv_if_eq (tgt := 15) hx hb dX9_edits_5 (by decide) (fun c3 => ?_) (fun c3 => ?_)
  · rw [if_pos c3] at h
    refine lv_iconst (v := (nI 1)) hx hb dX9_edits_15 (by decide) ?_
    cases h
    exact px_eWi hA0 hQ hP hD hS hx hb hr hlocks dX9_edits_16
  · rw [if_neg c3] at h
    refine lv_iload_n hx hb dX9_edits_8 rfl (lv_at hl 2 rfl) ?_
    obtain ⟨r4, hr5, h⟩ := ob h
    refine px_Sp (As := [.int x2]) (rest := []) (gs := ([gX9 E a v_now v_tried v_kept v_undos v_saved v_isSaved v_line v_lined v_text v_length v_at v_order v_told v_error v_reason v_detail v_answer v_thrown v_mixed v_conflicts v_firstConflict] : List va_W)) (gc := ([] : List va_W)) ⟨hx, hb, hml, hown, hts⟩ (c9_isKind l E   (x2)  r4 hr5) (va_cwS 1 hts (ws_s q1285 q1286 q68 q1287) rfl rfl rfl hdS_X9_isKind (by rw [hR]; exact ⟨Nat.le_of_ble_eq_true rfl, Nat.le_of_ble_eq_true rfl⟩)) hK hN hP hD [] rfl (by decide) rfl hl.1 rfl (Nat.le_of_ble_eq_true rfl) dX9_edits_9 (by rw [hR]; exact ⟨Nat.le_of_ble_eq_true rfl, Nat.le_of_ble_eq_true rfl⟩) ?_
    refine W.eq (g2 := F0 m 12 ls [.int (b2i r4)]) rfl ?_
    refine lv_if_ne (tgt := 17) hx hb dX9_edits_12 (by decide) (fun c6 => ?_) (fun c6 => ?_)
    · rw [if_neg c6] at h
      refine lv_iload_n hx hb dX9_edits_17 rfl (lv_at hl 3 rfl) ?_
      refine lv_iconst (v := (nI 0)) hx hb dX9_edits_18 (by decide) ?_
      refine lv_bipush (v := (nI 99)) hx hb dX9_edits_19 (by decide) ?_
      obtain ⟨r7, hr8, h⟩ := ob h
      refine px_Sp (As := [.int x3, .int (nI 0), .int (nI 99)]) (rest := []) (gs := ([gX9 E a v_now v_tried v_kept v_undos v_saved v_isSaved v_line v_lined v_text v_length v_at v_order v_told v_error v_reason v_detail v_answer v_thrown v_mixed v_conflicts v_firstConflict] : List va_W)) (gc := ([] : List va_W)) ⟨hx, hb, hml, hown, hts⟩ (c9_in l E   (x3) ((nI 0)) ((nI 99))  r7 hr8) (va_cwS 3 hts (ws_s q1282 q1283 q68 q1284) rfl rfl rfl hdS_X9_in (by rw [hR]; exact ⟨Nat.le_of_ble_eq_true rfl, Nat.le_of_ble_eq_true rfl⟩)) hK hN hP hD [] rfl (by decide) rfl hl.1 rfl (Nat.le_of_ble_eq_true rfl) dX9_edits_21 (by rw [hR]; exact ⟨Nat.le_of_ble_eq_true rfl, Nat.le_of_ble_eq_true rfl⟩) ?_
      refine W.eq (g2 := F0 m 24 ls [.int (b2i r7)]) rfl ?_
      refine lv_if_ne (tgt := 29) hx hb dX9_edits_24 (by decide) (fun c9 => ?_) (fun c9 => ?_)
      · rw [if_neg c9] at h
        refine lv_aload_n hx hb dX9_edits_29 rfl (lv_at hl 0 rfl) ?_
        refine lv_aload_n hx hb dX9_edits_30 rfl (lv_at hl 0 rfl) ?_
        refine lv_iload_n hx hb dX9_edits_31 rfl (lv_at hl 1 rfl) ?_
        obtain ⟨r10, hr11, h⟩ := ob h
        refine px_Vp (As := [.int x1]) (rest := [.ref (a 0)]) (gs := ([gX9 E a v_now v_tried v_kept v_undos v_saved v_isSaved v_line v_lined v_text v_length v_at v_order v_told v_error v_reason v_detail v_answer v_thrown v_mixed v_conflicts v_firstConflict] : List va_W)) (gc := ([gX9 E a v_now v_tried v_kept v_undos v_saved v_isSaved v_line v_lined v_text v_length v_at v_order v_told v_error v_reason v_detail v_answer v_thrown v_mixed v_conflicts v_firstConflict] : List va_W)) ⟨hx, hb, hml, hown, hts⟩ (c9_top l E a  (x1) (v_now) (v_tried) (v_kept) (v_undos) (v_saved) (v_isSaved) (v_line) (v_lined) (v_text) (v_length) (v_at) (v_order) (v_told) (v_error) (v_reason) (v_detail) (v_answer) (v_thrown) (v_mixed) (v_conflicts) (v_firstConflict) r10 hr11) (cwV 1 hts (ws_v q1288 q1290 q20 q68 q1291) rfl rfl rfl hdV_X9_top (by rw [hR]; exact ⟨Nat.le_of_ble_eq_true rfl, Nat.le_of_ble_eq_true rfl⟩)) hK hN hP hD [0] rfl (by decide) 0 9 rfl rfl rfl rfl hl.1 rfl (Nat.le_of_ble_eq_true rfl) dX9_edits_32 (by rw [hR]; exact ⟨Nat.le_of_ble_eq_true rfl, Nat.le_of_ble_eq_true rfl⟩) ?_
        refine W.eq (g2 := F0 m 35 ls [.int r10, .ref (a 0)]) rfl ?_
        refine lv_iload_n hx hb dX9_edits_35 rfl (lv_at hl 2 rfl) ?_
        obtain ⟨r12, hr13, h⟩ := ob h
        refine px_Vp (As := [.int r10, .int x2]) (rest := []) (gs := ([gX9 E a v_now v_tried v_kept v_undos v_saved v_isSaved v_line v_lined v_text v_length v_at v_order v_told v_error v_reason v_detail v_answer v_thrown v_mixed v_conflicts v_firstConflict] : List va_W)) (gc := ([gX9 E a v_now v_tried v_kept v_undos v_saved v_isSaved v_line v_lined v_text v_length v_at v_order v_told v_error v_reason v_detail v_answer v_thrown v_mixed v_conflicts v_firstConflict] : List va_W)) ⟨hx, hb, hml, hown, hts⟩ (c9_has l E a  (r10) (x2) (v_now) (v_tried) (v_kept) (v_undos) (v_saved) (v_isSaved) (v_line) (v_lined) (v_text) (v_length) (v_at) (v_order) (v_told) (v_error) (v_reason) (v_detail) (v_answer) (v_thrown) (v_mixed) (v_conflicts) (v_firstConflict) r12 hr13) (cwV 2 hts (ws_v q1292 q1294 q21 q68 q1295) rfl rfl rfl hdV_X9_has (by rw [hR]; exact ⟨Nat.le_of_ble_eq_true rfl, Nat.le_of_ble_eq_true rfl⟩)) hK hN hP hD [0] rfl (by decide) 0 9 rfl rfl rfl rfl hl.1 rfl (Nat.le_of_ble_eq_true rfl) dX9_edits_36 (by rw [hR]; exact ⟨Nat.le_of_ble_eq_true rfl, Nat.le_of_ble_eq_true rfl⟩) ?_
        refine W.eq (g2 := F0 m 39 ls [.int r12]) rfl ?_
        refine lv_iload_n hx hb dX9_edits_39 rfl (lv_at hl 3 rfl) ?_
        refine lv_icmp_ne (tgt := 50) hx hb dX9_edits_40 (by decide) (fun c14 => ?_) (fun c14 => ?_)
        · rw [if_neg c14] at h
          refine lv_aload_n hx hb dX9_edits_50 rfl (lv_at hl 0 rfl) ?_
          refine va_get (D := E.1) (ci := 9) (v := .ref (a 1)) (C := RX9) (T := TX9) (N := 21) hx hb hts iX9 hown hK hP 0 rfl rfl 0 (by decide) (hts _ q1198) (fun _ h9 => h9) rfl dX9_edits_51 ?_
          refine lv_iconst (v := (nI 0)) hx hb dX9_edits_54 (by decide) ?_
          refine va_iald (f := v_now) hx hb hK hP 1 0 rfl rfl (inb_in (i := (nI 0)) (n := 228) (by decide)) dX9_edits_55 ?_
          refine lv_bipush (v := (nI 24)) hx hb dX9_edits_56 (by decide) ?_
          refine lv_icmp_ne (tgt := 69) hx hb dX9_edits_58 (by decide) (fun c15 => ?_) (fun c15 => ?_)
          · rw [if_neg c15] at h
            refine lv_aload_n hx hb dX9_edits_69 rfl (lv_at hl 0 rfl) ?_
            refine lv_iload_n hx hb dX9_edits_70 rfl (lv_at hl 1 rfl) ?_
            refine lv_iconst (v := (nI 0)) hx hb dX9_edits_71 (by decide) ?_
            refine lv_iconst (v := (-1 : Int32)) hx hb dX9_edits_72 (by decide) ?_
            obtain ⟨⟨r16, w17⟩, hr18, h⟩ := ob h
            dsimp only at h
            refine px_V (As := [.int x1, .int (nI 0), .int (-1 : Int32)]) (rest := []) (gs := ([gX9 E a v_now v_tried v_kept v_undos v_saved v_isSaved v_line v_lined v_text v_length v_at v_order v_told v_error v_reason v_detail v_answer v_thrown v_mixed v_conflicts v_firstConflict] : List va_W)) (gr := ([] : List va_W)) (gc := ([gX9 E a v_now v_tried v_kept v_undos v_saved v_isSaved v_line v_lined v_text v_length v_at v_order v_told v_error v_reason v_detail v_answer v_thrown v_mixed v_conflicts v_firstConflict] : List va_W)) (g1 := ([gX9 E a w17 v_tried v_kept v_undos v_saved v_isSaved v_line v_lined v_text v_length v_at v_order v_told v_error v_reason v_detail v_answer v_thrown v_mixed v_conflicts v_firstConflict] : List va_W)) (g2 := ([gX9 E a w17 v_tried v_kept v_undos v_saved v_isSaved v_line v_lined v_text v_length v_at v_order v_told v_error v_reason v_detail v_answer v_thrown v_mixed v_conflicts v_firstConflict] : List va_W)) ⟨hx, hb, hml, hown, hts⟩ (c9_comes l E a  (x1) ((nI 0)) ((-1 : Int32)) (v_now) (v_tried) (v_kept) (v_undos) (v_saved) (v_isSaved) (v_line) (v_lined) (v_text) (v_length) (v_at) (v_order) (v_told) (v_error) (v_reason) (v_detail) (v_answer) (v_thrown) (v_mixed) (v_conflicts) (v_firstConflict) r16 w17 hr18) (cwV 3 hts (ws_v q1304 q1306 q24 q68 q1307) rfl rfl rfl hdV_X9_comes (by rw [hR]; exact ⟨Nat.le_of_ble_eq_true rfl, Nat.le_of_ble_eq_true rfl⟩)) hK hN hP hD hS hA [] [0] [0] rfl rfl (by decide) (by decide) rfl (by decide) 0 9 rfl rfl rfl rfl hl.1 rfl (Nat.le_of_ble_eq_true rfl) dX9_edits_73 (by rw [hR]; exact ⟨Nat.le_of_ble_eq_true rfl, Nat.le_of_ble_eq_true rfl⟩) (fun H locs hP hD hS => ?_)
            refine W.eq (g2 := F0 m 76 ls [.int r16]) rfl ?_
            refine lv_istore (lv' := [(4, .int r16), (0, .ref (a 0)), (1, .int x1), (2, .int x2), (3, .int x3)]) hx hb dX9_edits_76 hl (by decide) rfl (fun ls hl => ?_)
            refine lv_aload_n hx hb dX9_edits_78 rfl (lv_at hl 1 rfl) ?_
            refine va_get (D := E.1) (ci := 9) (v := .ref (a 1)) (C := RX9) (T := TX9) (N := 21) hx hb hts iX9 hown hK hP 0 rfl rfl 0 (by decide) (hts _ q1198) (fun _ h9 => h9) rfl dX9_edits_79 ?_
            refine lv_bipush (v := (nI 12)) hx hb dX9_edits_82 (by decide) ?_
            refine lv_bipush (v := (nI 9)) hx hb dX9_edits_84 (by decide) ?_
            refine lv_iload hx hb dX9_edits_86 (lv_at hl 0 rfl) ?_
            refine lv_imul hx hb dX9_edits_88 ?_
            refine lv_iadd hx hb dX9_edits_89 ?_
            refine lv_iconst (v := (nI 3)) hx hb dX9_edits_90 (by decide) ?_
            refine lv_iadd hx hb dX9_edits_91 ?_
            refine lv_iload_n hx hb dX9_edits_92 rfl (lv_at hl 3 rfl) ?_
            refine lv_iadd hx hb dX9_edits_93 ?_
            refine lv_iload_n hx hb dX9_edits_94 rfl (lv_at hl 4 rfl) ?_
            obtain ⟨i19, h⟩ := o_t h
            refine va_iast (f := w17) hx hb hK hP hD hS 1 0 rfl rfl (inb_in i19) dX9_edits_95 (fun H locs hP hD hS => ?_)
            have hP : va_P E.1 vwCl ([gX9 E a (upd w17 (((((nI 12) + ((nI 9) * r16)) + (nI 3)) + x2)).toNatClampNeg x3) v_tried v_kept v_undos v_saved v_isSaved v_line v_lined v_text v_length v_at v_order v_told v_error v_reason v_detail v_answer v_thrown v_mixed v_conflicts v_firstConflict] : List va_W).flatten H := hP
            have hD : va_D A ([gX9 E a (upd w17 (((((nI 12) + ((nI 9) * r16)) + (nI 3)) + x2)).toNatClampNeg x3) v_tried v_kept v_undos v_saved v_isSaved v_line v_lined v_text v_length v_at v_order v_told v_error v_reason v_detail v_answer v_thrown v_mixed v_conflicts v_firstConflict] : List va_W).flatten := hD
            obtain ⟨u20, e21, h⟩ := lt_e h
            rw [← e21] at hP hD
            refine lv_aload_n hx hb dX9_edits_96 rfl (lv_at hl 1 rfl) ?_
            refine lv_iload hx hb dX9_edits_97 (lv_at hl 0 rfl) ?_
            obtain ⟨⟨r22, w23⟩, hr24, h⟩ := ob h
            dsimp only at h
            refine px_V (As := [.int r16]) (rest := []) (gs := ([gX9 E a u20 v_tried v_kept v_undos v_saved v_isSaved v_line v_lined v_text v_length v_at v_order v_told v_error v_reason v_detail v_answer v_thrown v_mixed v_conflicts v_firstConflict] : List va_W)) (gr := ([] : List va_W)) (gc := ([gX9 E a u20 v_tried v_kept v_undos v_saved v_isSaved v_line v_lined v_text v_length v_at v_order v_told v_error v_reason v_detail v_answer v_thrown v_mixed v_conflicts v_firstConflict] : List va_W)) (g1 := ([gX9 E a u20 v_tried v_kept v_undos v_saved v_isSaved v_line v_lined v_text v_length v_at v_order v_told v_error v_reason v_detail w23 v_thrown v_mixed v_conflicts v_firstConflict] : List va_W)) (g2 := ([gX9 E a u20 v_tried v_kept v_undos v_saved v_isSaved v_line v_lined v_text v_length v_at v_order v_told v_error v_reason v_detail w23 v_thrown v_mixed v_conflicts v_firstConflict] : List va_W)) ⟨hx, hb, hml, hown, hts⟩ (c9_does l E a  (r16) (u20) (v_tried) (v_kept) (v_undos) (v_saved) (v_isSaved) (v_line) (v_lined) (v_text) (v_length) (v_at) (v_order) (v_told) (v_error) (v_reason) (v_detail) (v_answer) (v_thrown) (v_mixed) (v_conflicts) (v_firstConflict) r22 w23 hr24) (cwV 1 hts (ws_v q1308 q1310 q25 q68 q1311) rfl rfl rfl hdV_X9_does (by rw [hR]; exact ⟨Nat.le_of_ble_eq_true rfl, Nat.le_of_ble_eq_true rfl⟩)) hK hN hP hD hS hA [] [0] [0] rfl rfl (by decide) (by decide) rfl (by decide) 0 9 rfl rfl rfl rfl hl.1 rfl (Nat.le_of_ble_eq_true rfl) dX9_edits_99 (by rw [hR]; exact ⟨Nat.le_of_ble_eq_true rfl, Nat.le_of_ble_eq_true rfl⟩) (fun H locs hP hD hS => ?_)
            refine W.eq (g2 := F0 m 102 ls [.int r22]) rfl ?_
            cases h
            exact px_eWi hA0 hQ hP hD hS hx hb hr hlocks dX9_edits_102
          · rw [if_pos c15] at h
            refine lv_aload_n hx hb dX9_edits_61 rfl (lv_at hl 0 rfl) ?_
            refine lv_iconst (v := (nI 1)) hx hb dX9_edits_62 (by decide) ?_
            refine lv_bipush (v := (nI 24)) hx hb dX9_edits_63 (by decide) ?_
            obtain ⟨⟨r25, w26, w27⟩, hr28, h⟩ := ob h
            dsimp only at h
            refine px_V (As := [.int (nI 1), .int (nI 24)]) (rest := []) (gs := ([gX9 E a v_now v_tried v_kept v_undos v_saved v_isSaved v_line v_lined v_text v_length v_at v_order v_told v_error v_reason v_detail v_answer v_thrown v_mixed v_conflicts v_firstConflict] : List va_W)) (gr := ([] : List va_W)) (gc := ([gX9 E a v_now v_tried v_kept v_undos v_saved v_isSaved v_line v_lined v_text v_length v_at v_order v_told v_error v_reason v_detail v_answer v_thrown v_mixed v_conflicts v_firstConflict] : List va_W)) (g1 := ([gX9 E a v_now v_tried v_kept v_undos v_saved v_isSaved v_line v_lined v_text v_length v_at v_order v_told v_error w26 w27 v_answer v_thrown v_mixed v_conflicts v_firstConflict] : List va_W)) (g2 := ([gX9 E a v_now v_tried v_kept v_undos v_saved v_isSaved v_line v_lined v_text v_length v_at v_order v_told v_error w26 w27 v_answer v_thrown v_mixed v_conflicts v_firstConflict] : List va_W)) ⟨hx, hb, hml, hown, hts⟩ (c9_refuses l E a  ((nI 1)) ((nI 24)) (v_now) (v_tried) (v_kept) (v_undos) (v_saved) (v_isSaved) (v_line) (v_lined) (v_text) (v_length) (v_at) (v_order) (v_told) (v_error) (v_reason) (v_detail) (v_answer) (v_thrown) (v_mixed) (v_conflicts) (v_firstConflict) r25 w26 w27 hr28) (cwV 2 hts (ws_v q1300 q1302 q23 q68 q1303) rfl rfl rfl hdV_X9_refuses (by rw [hR]; exact ⟨Nat.le_of_ble_eq_true rfl, Nat.le_of_ble_eq_true rfl⟩)) hK hN hP hD hS hA [] [0] [0] rfl rfl (by decide) (by decide) rfl (by decide) 0 9 rfl rfl rfl rfl hl.1 rfl (Nat.le_of_ble_eq_true rfl) dX9_edits_65 (by rw [hR]; exact ⟨Nat.le_of_ble_eq_true rfl, Nat.le_of_ble_eq_true rfl⟩) (fun H locs hP hD hS => ?_)
            refine W.eq (g2 := F0 m 68 ls [.int r25]) rfl ?_
            cases h
            exact px_eWi hA0 hQ hP hD hS hx hb hr hlocks dX9_edits_68
        · rw [if_pos c14] at h
          refine lv_aload_n hx hb dX9_edits_43 rfl (lv_at hl 0 rfl) ?_
          refine lv_iconst (v := (nI 2)) hx hb dX9_edits_44 (by decide) ?_
          refine lv_iload_n hx hb dX9_edits_45 rfl (lv_at hl 3 rfl) ?_
          obtain ⟨⟨r29, w30, w31⟩, hr32, h⟩ := ob h
          dsimp only at h
          refine px_V (As := [.int (nI 2), .int x3]) (rest := []) (gs := ([gX9 E a v_now v_tried v_kept v_undos v_saved v_isSaved v_line v_lined v_text v_length v_at v_order v_told v_error v_reason v_detail v_answer v_thrown v_mixed v_conflicts v_firstConflict] : List va_W)) (gr := ([] : List va_W)) (gc := ([gX9 E a v_now v_tried v_kept v_undos v_saved v_isSaved v_line v_lined v_text v_length v_at v_order v_told v_error v_reason v_detail v_answer v_thrown v_mixed v_conflicts v_firstConflict] : List va_W)) (g1 := ([gX9 E a v_now v_tried v_kept v_undos v_saved v_isSaved v_line v_lined v_text v_length v_at v_order v_told v_error w30 w31 v_answer v_thrown v_mixed v_conflicts v_firstConflict] : List va_W)) (g2 := ([gX9 E a v_now v_tried v_kept v_undos v_saved v_isSaved v_line v_lined v_text v_length v_at v_order v_told v_error w30 w31 v_answer v_thrown v_mixed v_conflicts v_firstConflict] : List va_W)) ⟨hx, hb, hml, hown, hts⟩ (c9_refuses l E a  ((nI 2)) (x3) (v_now) (v_tried) (v_kept) (v_undos) (v_saved) (v_isSaved) (v_line) (v_lined) (v_text) (v_length) (v_at) (v_order) (v_told) (v_error) (v_reason) (v_detail) (v_answer) (v_thrown) (v_mixed) (v_conflicts) (v_firstConflict) r29 w30 w31 hr32) (cwV 2 hts (ws_v q1300 q1302 q23 q68 q1303) rfl rfl rfl hdV_X9_refuses (by rw [hR]; exact ⟨Nat.le_of_ble_eq_true rfl, Nat.le_of_ble_eq_true rfl⟩)) hK hN hP hD hS hA [] [0] [0] rfl rfl (by decide) (by decide) rfl (by decide) 0 9 rfl rfl rfl rfl hl.1 rfl (Nat.le_of_ble_eq_true rfl) dX9_edits_46 (by rw [hR]; exact ⟨Nat.le_of_ble_eq_true rfl, Nat.le_of_ble_eq_true rfl⟩) (fun H locs hP hD hS => ?_)
          refine W.eq (g2 := F0 m 49 ls [.int r29]) rfl ?_
          cases h
          exact px_eWi hA0 hQ hP hD hS hx hb hr hlocks dX9_edits_49
      · rw [if_pos c9] at h
        refine lv_iconst (v := (nI 2)) hx hb dX9_edits_27 (by decide) ?_
        cases h
        exact px_eWi hA0 hQ hP hD hS hx hb hr hlocks dX9_edits_28
    · rw [if_pos c6] at h
      refine lv_iconst (v := (nI 1)) hx hb dX9_edits_15 (by decide) ?_
      cases h
      exact px_eWi hA0 hQ hP hD hS hx hb hr hlocks dX9_edits_16
def f9_edit (x1 : Int32) (x2 : Int32) (x3 : Int32) (v_now : AI) (v_tried : AI) (v_kept : AI) (v_undos : Int32) (v_reason : Int32) (v_detail : Int32) (v_answer : Int32) (v_thrown : Int32) : Option (Int32 × AI × AI × AI × Int32 × Int32 × Int32 × Int32 × Int32) := ((f9_tries (v_now) (v_tried) (v_thrown)).bind fun (w1, w2) => ((f9_edits (x1) (x2) (x3) (v_now) (v_reason) (v_detail) (v_answer)).bind fun (r4, w5, w6, w7, w8) => ((f9_ends (r4) (w1) (v_kept) (v_undos) (w8) (w2)).bind fun (r10, w11, w12, w13) => (some (r10, w5, w1, w11, w12, w6, w7, w8, w13)))))
set_option maxHeartbeats 4000000 in
set_option maxRecDepth 100000 in
theorem c9_edit (l : Launch) (E : PE) (a : Nat → Nat)  (x1 : Int32) (x2 : Int32) (x3 : Int32) (v_now : AI) (v_tried : AI) (v_kept : AI) (v_undos : Int32) (v_saved : AI) (v_isSaved : Int32) (v_line : AI) (v_lined : Int32) (v_text : AI) (v_length : Int32) (v_at : Int32) (v_order : Int32) (v_told : AI) (v_error : Int32) (v_reason : Int32) (v_detail : Int32) (v_answer : Int32) (v_thrown : Int32) (v_mixed : AI) (v_conflicts : Int32) (v_firstConflict : Int32) (r : Int32) (z_this_now : AI) (z_this_tried : AI) (z_this_kept : AI) (z_this_undos : Int32) (z_this_reason : Int32) (z_this_detail : Int32) (z_this_answer : Int32) (z_this_thrown : Int32) (h : f9_edit x1 x2 x3 v_now v_tried v_kept v_undos v_reason v_detail v_answer v_thrown = some (r, z_this_now, z_this_tried, z_this_kept, z_this_undos, z_this_reason, z_this_detail, z_this_answer, z_this_thrown)) : MW l yX9_edit cX9_edit 4 (some .int) { frames := 4, cells := 0, slots := 0, locals := 93 } E [.ref (a 0), .int x1, .int x2, .int x3] ([gX9 E a v_now v_tried v_kept v_undos v_saved v_isSaved v_line v_lined v_text v_length v_at v_order v_told v_error v_reason v_detail v_answer v_thrown v_mixed v_conflicts v_firstConflict] : List va_W).flatten 0 0 (some (.int r)) ([gX9 E a z_this_now z_this_tried z_this_kept z_this_undos v_saved v_isSaved v_line v_lined v_text v_length v_at v_order v_told v_error z_this_reason z_this_detail z_this_answer z_this_thrown v_mixed v_conflicts v_firstConflict] : List va_W).flatten := by
  refine px_startW (by decide +kernel) (Nat.le_of_ble_eq_true rfl) ?_
  intro p e s m args below meth c R Q A ls hC hA0 hQ
  obtain ⟨hx, hb, hr, hml, hts, hown, hlocks, hR, hK, hN, hP, hD, hA, hl, hin⟩ := hC
  have hl : lv_has ls 4 [(0, .ref (a 0)), (1, .int x1), (2, .int x2), (3, .int x3)] := hl
  suffices key : ∀ (H : Heap) (locs : List Loc), va_P E.1 vwCl ([gX9 E a v_now v_tried v_kept v_undos v_saved v_isSaved v_line v_lined v_text v_length v_at v_order v_told v_error v_reason v_detail v_answer v_thrown v_mixed v_conflicts v_firstConflict] : List va_W).flatten H → va_S A s.heap H locs → W p l e R s m args below meth c H locs 0 0 Q (F0 m 0 ls []) from key s.heap [] hP va_S.rf
  unfold f9_edit at h
  intro H locs hP hS
  refine lv_aload_n hx hb dX9_edit_0 rfl (lv_at hl 0 rfl) ?_
  obtain ⟨⟨w1, w2⟩, hr3, h⟩ := ob h
  dsimp only at h
  refine px_V (As := []) (rest := []) (gs := ([gX9 E a v_now v_tried v_kept v_undos v_saved v_isSaved v_line v_lined v_text v_length v_at v_order v_told v_error v_reason v_detail v_answer v_thrown v_mixed v_conflicts v_firstConflict] : List va_W)) (gr := ([] : List va_W)) (gc := ([gX9 E a v_now v_tried v_kept v_undos v_saved v_isSaved v_line v_lined v_text v_length v_at v_order v_told v_error v_reason v_detail v_answer v_thrown v_mixed v_conflicts v_firstConflict] : List va_W)) (g1 := ([gX9 E a v_now w1 v_kept v_undos v_saved v_isSaved v_line v_lined v_text v_length v_at v_order v_told v_error v_reason v_detail v_answer w2 v_mixed v_conflicts v_firstConflict] : List va_W)) (g2 := ([gX9 E a v_now w1 v_kept v_undos v_saved v_isSaved v_line v_lined v_text v_length v_at v_order v_told v_error v_reason v_detail v_answer w2 v_mixed v_conflicts v_firstConflict] : List va_W)) ⟨hx, hb, hml, hown, hts⟩ (c9_tries l E a   (v_now) (v_tried) (v_kept) (v_undos) (v_saved) (v_isSaved) (v_line) (v_lined) (v_text) (v_length) (v_at) (v_order) (v_told) (v_error) (v_reason) (v_detail) (v_answer) (v_thrown) (v_mixed) (v_conflicts) (v_firstConflict) w1 w2 hr3) (cwV 0 hts (ws_v q1270 q1272 q17 q68 q1273) rfl rfl rfl hdV_X9_tries (by rw [hR]; exact ⟨Nat.le_of_ble_eq_true rfl, Nat.le_of_ble_eq_true rfl⟩)) hK hN hP hD hS hA [] [0] [0] rfl rfl (by decide) (by decide) rfl (by decide) 0 9 rfl rfl rfl rfl hl.1 rfl (Nat.le_of_ble_eq_true rfl) dX9_edit_1 (by rw [hR]; exact ⟨Nat.le_of_ble_eq_true rfl, Nat.le_of_ble_eq_true rfl⟩) (fun H locs hP hD hS => ?_)
  refine W.eq (g2 := F0 m 4 ls []) rfl ?_
  refine lv_aload_n hx hb dX9_edit_4 rfl (lv_at hl 0 rfl) ?_
  refine lv_aload_n hx hb dX9_edit_5 rfl (lv_at hl 0 rfl) ?_
  refine lv_iload_n hx hb dX9_edit_6 rfl (lv_at hl 1 rfl) ?_
  refine lv_iload_n hx hb dX9_edit_7 rfl (lv_at hl 2 rfl) ?_
  refine lv_iload_n hx hb dX9_edit_8 rfl (lv_at hl 3 rfl) ?_
  obtain ⟨⟨r4, w5, w6, w7, w8⟩, hr9, h⟩ := ob h
  dsimp only at h
  refine px_V (As := [.int x1, .int x2, .int x3]) (rest := [.ref (a 0)]) (gs := ([gX9 E a v_now w1 v_kept v_undos v_saved v_isSaved v_line v_lined v_text v_length v_at v_order v_told v_error v_reason v_detail v_answer w2 v_mixed v_conflicts v_firstConflict] : List va_W)) (gr := ([] : List va_W)) (gc := ([gX9 E a v_now w1 v_kept v_undos v_saved v_isSaved v_line v_lined v_text v_length v_at v_order v_told v_error v_reason v_detail v_answer w2 v_mixed v_conflicts v_firstConflict] : List va_W)) (g1 := ([gX9 E a w5 w1 v_kept v_undos v_saved v_isSaved v_line v_lined v_text v_length v_at v_order v_told v_error w6 w7 w8 w2 v_mixed v_conflicts v_firstConflict] : List va_W)) (g2 := ([gX9 E a w5 w1 v_kept v_undos v_saved v_isSaved v_line v_lined v_text v_length v_at v_order v_told v_error w6 w7 w8 w2 v_mixed v_conflicts v_firstConflict] : List va_W)) ⟨hx, hb, hml, hown, hts⟩ (c9_edits l E a  (x1) (x2) (x3) (v_now) (w1) (v_kept) (v_undos) (v_saved) (v_isSaved) (v_line) (v_lined) (v_text) (v_length) (v_at) (v_order) (v_told) (v_error) (v_reason) (v_detail) (v_answer) (w2) (v_mixed) (v_conflicts) (v_firstConflict) r4 w5 w6 w7 w8 hr9) (cwV 3 hts (ws_v q1274 q1276 q18 q68 q1277) rfl rfl rfl hdV_X9_edits (by rw [hR]; exact ⟨Nat.le_of_ble_eq_true rfl, Nat.le_of_ble_eq_true rfl⟩)) hK hN hP hD hS hA [] [0] [0] rfl rfl (by decide) (by decide) rfl (by decide) 0 9 rfl rfl rfl rfl hl.1 rfl (Nat.le_of_ble_eq_true rfl) dX9_edit_9 (by rw [hR]; exact ⟨Nat.le_of_ble_eq_true rfl, Nat.le_of_ble_eq_true rfl⟩) (fun H locs hP hD hS => ?_)
  refine W.eq (g2 := F0 m 12 ls [.int r4, .ref (a 0)]) rfl ?_
  obtain ⟨⟨r10, w11, w12, w13⟩, hr14, h⟩ := ob h
  dsimp only at h
  refine px_V (As := [.int r4]) (rest := []) (gs := ([gX9 E a w5 w1 v_kept v_undos v_saved v_isSaved v_line v_lined v_text v_length v_at v_order v_told v_error w6 w7 w8 w2 v_mixed v_conflicts v_firstConflict] : List va_W)) (gr := ([] : List va_W)) (gc := ([gX9 E a w5 w1 v_kept v_undos v_saved v_isSaved v_line v_lined v_text v_length v_at v_order v_told v_error w6 w7 w8 w2 v_mixed v_conflicts v_firstConflict] : List va_W)) (g1 := ([gX9 E a w5 w1 w11 w12 v_saved v_isSaved v_line v_lined v_text v_length v_at v_order v_told v_error w6 w7 w8 w13 v_mixed v_conflicts v_firstConflict] : List va_W)) (g2 := ([gX9 E a w5 w1 w11 w12 v_saved v_isSaved v_line v_lined v_text v_length v_at v_order v_told v_error w6 w7 w8 w13 v_mixed v_conflicts v_firstConflict] : List va_W)) ⟨hx, hb, hml, hown, hts⟩ (c9_ends l E a  (r4) (w5) (w1) (v_kept) (v_undos) (v_saved) (v_isSaved) (v_line) (v_lined) (v_text) (v_length) (v_at) (v_order) (v_told) (v_error) (w6) (w7) (w8) (w2) (v_mixed) (v_conflicts) (v_firstConflict) r10 w11 w12 w13 hr14) (cwV 1 hts (ws_v q1312 q1314 q26 q68 q1315) rfl rfl rfl hdV_X9_ends (by rw [hR]; exact ⟨Nat.le_of_ble_eq_true rfl, Nat.le_of_ble_eq_true rfl⟩)) hK hN hP hD hS hA [] [0] [0] rfl rfl (by decide) (by decide) rfl (by decide) 0 9 rfl rfl rfl rfl hl.1 rfl (Nat.le_of_ble_eq_true rfl) dX9_edit_12 (by rw [hR]; exact ⟨Nat.le_of_ble_eq_true rfl, Nat.le_of_ble_eq_true rfl⟩) (fun H locs hP hD hS => ?_)
  refine W.eq (g2 := F0 m 15 ls [.int r10]) rfl ?_
  cases h
  exact px_eWi hA0 hQ hP hD hS hx hb hr hlocks dX9_edit_15
def f9_endsAt (x1 : Int32) (v_tried : AI) (v_kept : AI) (v_undos : Int32) (v_answer : Int32) (v_thrown : Int32) : Option (Int32 × AI × Int32 × Int32) := (if x1 = (nI 3) then ((f9_raises ((nI 2)) (v_thrown)).bind fun (r7, w8) => (some (r7, v_kept, v_undos, w8))) else ((f9_ends (x1) (v_tried) (v_kept) (v_undos) (v_answer) (v_thrown)).bind fun (r2, w3, w4, w5) => (some (r2, w3, w4, w5))))
set_option maxHeartbeats 4000000 in
set_option maxRecDepth 100000 in
theorem c9_endsAt (l : Launch) (E : PE) (a : Nat → Nat)  (x1 : Int32) (v_now : AI) (v_tried : AI) (v_kept : AI) (v_undos : Int32) (v_saved : AI) (v_isSaved : Int32) (v_line : AI) (v_lined : Int32) (v_text : AI) (v_length : Int32) (v_at : Int32) (v_order : Int32) (v_told : AI) (v_error : Int32) (v_reason : Int32) (v_detail : Int32) (v_answer : Int32) (v_thrown : Int32) (v_mixed : AI) (v_conflicts : Int32) (v_firstConflict : Int32) (r : Int32) (z_this_kept : AI) (z_this_undos : Int32) (z_this_thrown : Int32) (h : f9_endsAt x1 v_tried v_kept v_undos v_answer v_thrown = some (r, z_this_kept, z_this_undos, z_this_thrown)) : MW l yX9_endsAt cX9_endsAt 2 (some .int) { frames := 2, cells := 0, slots := 0, locals := 43 } E [.ref (a 0), .int x1] ([gX9 E a v_now v_tried v_kept v_undos v_saved v_isSaved v_line v_lined v_text v_length v_at v_order v_told v_error v_reason v_detail v_answer v_thrown v_mixed v_conflicts v_firstConflict] : List va_W).flatten 0 0 (some (.int r)) ([gX9 E a v_now v_tried z_this_kept z_this_undos v_saved v_isSaved v_line v_lined v_text v_length v_at v_order v_told v_error v_reason v_detail v_answer z_this_thrown v_mixed v_conflicts v_firstConflict] : List va_W).flatten := by
  refine px_startW (by decide +kernel) (Nat.le_of_ble_eq_true rfl) ?_
  intro p e s m args below meth c R Q A ls hC hA0 hQ
  obtain ⟨hx, hb, hr, hml, hts, hown, hlocks, hR, hK, hN, hP, hD, hA, hl, hin⟩ := hC
  have hl : lv_has ls 2 [(0, .ref (a 0)), (1, .int x1)] := hl
  suffices key : ∀ (H : Heap) (locs : List Loc), va_P E.1 vwCl ([gX9 E a v_now v_tried v_kept v_undos v_saved v_isSaved v_line v_lined v_text v_length v_at v_order v_told v_error v_reason v_detail v_answer v_thrown v_mixed v_conflicts v_firstConflict] : List va_W).flatten H → va_S A s.heap H locs → W p l e R s m args below meth c H locs 0 0 Q (F0 m 0 ls []) from key s.heap [] hP va_S.rf
  unfold f9_endsAt at h
  intro H locs hP hS
  refine lv_iload_n hx hb dX9_endsAt_0 rfl (lv_at hl 1 rfl) ?_
  refine lv_iconst (v := (nI 3)) hx hb dX9_endsAt_1 (by decide) ?_
  refine lv_icmp_ne (tgt := 13) hx hb dX9_endsAt_2 (by decide) (fun c1 => ?_) (fun c1 => ?_)
  · rw [if_neg c1] at h
    refine lv_aload_n hx hb dX9_endsAt_13 rfl (lv_at hl 0 rfl) ?_
    refine lv_iload_n hx hb dX9_endsAt_14 rfl (lv_at hl 1 rfl) ?_
    obtain ⟨⟨r2, w3, w4, w5⟩, hr6, h⟩ := ob h
    dsimp only at h
    refine px_V (As := [.int x1]) (rest := []) (gs := ([gX9 E a v_now v_tried v_kept v_undos v_saved v_isSaved v_line v_lined v_text v_length v_at v_order v_told v_error v_reason v_detail v_answer v_thrown v_mixed v_conflicts v_firstConflict] : List va_W)) (gr := ([] : List va_W)) (gc := ([gX9 E a v_now v_tried v_kept v_undos v_saved v_isSaved v_line v_lined v_text v_length v_at v_order v_told v_error v_reason v_detail v_answer v_thrown v_mixed v_conflicts v_firstConflict] : List va_W)) (g1 := ([gX9 E a v_now v_tried w3 w4 v_saved v_isSaved v_line v_lined v_text v_length v_at v_order v_told v_error v_reason v_detail v_answer w5 v_mixed v_conflicts v_firstConflict] : List va_W)) (g2 := ([gX9 E a v_now v_tried w3 w4 v_saved v_isSaved v_line v_lined v_text v_length v_at v_order v_told v_error v_reason v_detail v_answer w5 v_mixed v_conflicts v_firstConflict] : List va_W)) ⟨hx, hb, hml, hown, hts⟩ (c9_ends l E a  (x1) (v_now) (v_tried) (v_kept) (v_undos) (v_saved) (v_isSaved) (v_line) (v_lined) (v_text) (v_length) (v_at) (v_order) (v_told) (v_error) (v_reason) (v_detail) (v_answer) (v_thrown) (v_mixed) (v_conflicts) (v_firstConflict) r2 w3 w4 w5 hr6) (cwV 1 hts (ws_v q1312 q1314 q26 q68 q1315) rfl rfl rfl hdV_X9_ends (by rw [hR]; exact ⟨Nat.le_of_ble_eq_true rfl, Nat.le_of_ble_eq_true rfl⟩)) hK hN hP hD hS hA [] [0] [0] rfl rfl (by decide) (by decide) rfl (by decide) 0 9 rfl rfl rfl rfl hl.1 rfl (Nat.le_of_ble_eq_true rfl) dX9_endsAt_15 (by rw [hR]; exact ⟨Nat.le_of_ble_eq_true rfl, Nat.le_of_ble_eq_true rfl⟩) (fun H locs hP hD hS => ?_)
    refine W.eq (g2 := F0 m 18 ls [.int r2]) rfl ?_
    cases h
    exact px_eWi hA0 hQ hP hD hS hx hb hr hlocks dX9_endsAt_18
  · rw [if_pos c1] at h
    refine lv_aload_n hx hb dX9_endsAt_5 rfl (lv_at hl 0 rfl) ?_
    refine lv_iconst (v := (nI 2)) hx hb dX9_endsAt_6 (by decide) ?_
    obtain ⟨⟨r7, w8⟩, hr9, h⟩ := ob h
    dsimp only at h
    refine px_V (As := [.int (nI 2)]) (rest := []) (gs := ([gX9 E a v_now v_tried v_kept v_undos v_saved v_isSaved v_line v_lined v_text v_length v_at v_order v_told v_error v_reason v_detail v_answer v_thrown v_mixed v_conflicts v_firstConflict] : List va_W)) (gr := ([] : List va_W)) (gc := ([gX9 E a v_now v_tried v_kept v_undos v_saved v_isSaved v_line v_lined v_text v_length v_at v_order v_told v_error v_reason v_detail v_answer v_thrown v_mixed v_conflicts v_firstConflict] : List va_W)) (g1 := ([gX9 E a v_now v_tried v_kept v_undos v_saved v_isSaved v_line v_lined v_text v_length v_at v_order v_told v_error v_reason v_detail v_answer w8 v_mixed v_conflicts v_firstConflict] : List va_W)) (g2 := ([gX9 E a v_now v_tried v_kept v_undos v_saved v_isSaved v_line v_lined v_text v_length v_at v_order v_told v_error v_reason v_detail v_answer w8 v_mixed v_conflicts v_firstConflict] : List va_W)) ⟨hx, hb, hml, hown, hts⟩ (c9_raises l E a  ((nI 2)) (v_now) (v_tried) (v_kept) (v_undos) (v_saved) (v_isSaved) (v_line) (v_lined) (v_text) (v_length) (v_at) (v_order) (v_told) (v_error) (v_reason) (v_detail) (v_answer) (v_thrown) (v_mixed) (v_conflicts) (v_firstConflict) r7 w8 hr9) (cwV 1 hts (ws_v q1320 q1322 q28 q68 q1323) rfl rfl rfl hdV_X9_raises (by rw [hR]; exact ⟨Nat.le_of_ble_eq_true rfl, Nat.le_of_ble_eq_true rfl⟩)) hK hN hP hD hS hA [] [0] [0] rfl rfl (by decide) (by decide) rfl (by decide) 0 9 rfl rfl rfl rfl hl.1 rfl (Nat.le_of_ble_eq_true rfl) dX9_endsAt_7 (by rw [hR]; exact ⟨Nat.le_of_ble_eq_true rfl, Nat.le_of_ble_eq_true rfl⟩) (fun H locs hP hD hS => ?_)
    refine W.eq (g2 := F0 m 10 ls [.int r7]) rfl ?_
    refine lv_goto (tgt := 18) hx hb dX9_endsAt_10 (by decide) ?_
    cases h
    exact px_eWi hA0 hQ hP hD hS hx hb hr hlocks dX9_endsAt_18
def f9_forks (x1 : Int32) (v_now : AI) (v_reason : Int32) (v_detail : Int32) (v_answer : Int32) : Option (Int32 × AI × Int32 × Int32 × Int32) := ((f9_isBranch (x1) (v_now)).bind fun r1 => (if (b2i r1) = 0 then (some ((nI 1), v_now, v_reason, v_detail, v_answer)) else (if (v_now ((nI 1)).toNatClampNeg) = (nI 5) then ((f9_refuses ((nI 1)) ((nI 5)) (v_reason) (v_detail)).bind fun (r15, w16, w17) => (some (r15, v_now, w16, w17, v_answer))) else (lt (upd v_now ((nI 1)).toNatClampNeg ((v_now ((nI 1)).toNatClampNeg) + (nI 1))) fun u5 => ((f9_top (x1) (u5)).bind fun r7 => (if inb ((nI 7) + (v_now ((nI 1)).toNatClampNeg)) 228 = true then (lt (upd u5 (((nI 7) + (v_now ((nI 1)).toNatClampNeg))).toNatClampNeg r7) fun u10 => ((f9_does ((v_now ((nI 1)).toNatClampNeg)) (v_answer)).bind fun (r12, w13) => (some (r12, u10, v_reason, v_detail, w13)))) else none))))))
set_option maxHeartbeats 4000000 in
set_option maxRecDepth 100000 in
theorem c9_forks (l : Launch) (E : PE) (a : Nat → Nat)  (x1 : Int32) (v_now : AI) (v_tried : AI) (v_kept : AI) (v_undos : Int32) (v_saved : AI) (v_isSaved : Int32) (v_line : AI) (v_lined : Int32) (v_text : AI) (v_length : Int32) (v_at : Int32) (v_order : Int32) (v_told : AI) (v_error : Int32) (v_reason : Int32) (v_detail : Int32) (v_answer : Int32) (v_thrown : Int32) (v_mixed : AI) (v_conflicts : Int32) (v_firstConflict : Int32) (r : Int32) (z_this_now : AI) (z_this_reason : Int32) (z_this_detail : Int32) (z_this_answer : Int32) (h : f9_forks x1 v_now v_reason v_detail v_answer = some (r, z_this_now, z_this_reason, z_this_detail, z_this_answer)) : MW l yX9_forks cX9_forks 3 (some .int) { frames := 2, cells := 0, slots := 0, locals := 43 } E [.ref (a 0), .int x1] ([gX9 E a v_now v_tried v_kept v_undos v_saved v_isSaved v_line v_lined v_text v_length v_at v_order v_told v_error v_reason v_detail v_answer v_thrown v_mixed v_conflicts v_firstConflict] : List va_W).flatten 0 0 (some (.int r)) ([gX9 E a z_this_now v_tried v_kept v_undos v_saved v_isSaved v_line v_lined v_text v_length v_at v_order v_told v_error z_this_reason z_this_detail z_this_answer v_thrown v_mixed v_conflicts v_firstConflict] : List va_W).flatten := by
  refine px_startW (by decide +kernel) (Nat.le_of_ble_eq_true rfl) ?_
  intro p e s m args below meth c R Q A ls hC hA0 hQ
  obtain ⟨hx, hb, hr, hml, hts, hown, hlocks, hR, hK, hN, hP, hD, hA, hl, hin⟩ := hC
  have hl : lv_has ls 3 [(0, .ref (a 0)), (1, .int x1)] := hl
  suffices key : ∀ (H : Heap) (locs : List Loc), va_P E.1 vwCl ([gX9 E a v_now v_tried v_kept v_undos v_saved v_isSaved v_line v_lined v_text v_length v_at v_order v_told v_error v_reason v_detail v_answer v_thrown v_mixed v_conflicts v_firstConflict] : List va_W).flatten H → va_S A s.heap H locs → W p l e R s m args below meth c H locs 0 0 Q (F0 m 0 ls []) from key s.heap [] hP va_S.rf
  unfold f9_forks at h
  intro H locs hP hS
  refine lv_aload_n hx hb dX9_forks_0 rfl (lv_at hl 0 rfl) ?_
  refine lv_iload_n hx hb dX9_forks_1 rfl (lv_at hl 1 rfl) ?_
  obtain ⟨r1, hr2, h⟩ := ob h
  refine px_Vp (As := [.int x1]) (rest := []) (gs := ([gX9 E a v_now v_tried v_kept v_undos v_saved v_isSaved v_line v_lined v_text v_length v_at v_order v_told v_error v_reason v_detail v_answer v_thrown v_mixed v_conflicts v_firstConflict] : List va_W)) (gc := ([gX9 E a v_now v_tried v_kept v_undos v_saved v_isSaved v_line v_lined v_text v_length v_at v_order v_told v_error v_reason v_detail v_answer v_thrown v_mixed v_conflicts v_firstConflict] : List va_W)) ⟨hx, hb, hml, hown, hts⟩ (c9_isBranch l E a  (x1) (v_now) (v_tried) (v_kept) (v_undos) (v_saved) (v_isSaved) (v_line) (v_lined) (v_text) (v_length) (v_at) (v_order) (v_told) (v_error) (v_reason) (v_detail) (v_answer) (v_thrown) (v_mixed) (v_conflicts) (v_firstConflict) r1 hr2) (cwV 1 hts (ws_v q1278 q1280 q19 q68 q1281) rfl rfl rfl hdV_X9_isBranch (by rw [hR]; exact ⟨Nat.le_of_ble_eq_true rfl, Nat.le_of_ble_eq_true rfl⟩)) hK hN hP hD [0] rfl (by decide) 0 9 rfl rfl rfl rfl hl.1 rfl (Nat.le_of_ble_eq_true rfl) dX9_forks_2 (by rw [hR]; exact ⟨Nat.le_of_ble_eq_true rfl, Nat.le_of_ble_eq_true rfl⟩) ?_
  refine W.eq (g2 := F0 m 5 ls [.int (b2i r1)]) rfl ?_
  refine lv_if_ne (tgt := 10) hx hb dX9_forks_5 (by decide) (fun c3 => ?_) (fun c3 => ?_)
  · rw [if_neg c3] at h
    refine lv_aload_n hx hb dX9_forks_10 rfl (lv_at hl 0 rfl) ?_
    refine va_get (D := E.1) (ci := 9) (v := .ref (a 1)) (C := RX9) (T := TX9) (N := 21) hx hb hts iX9 hown hK hP 0 rfl rfl 0 (by decide) (hts _ q1198) (fun _ h9 => h9) rfl dX9_forks_11 ?_
    refine lv_iconst (v := (nI 1)) hx hb dX9_forks_14 (by decide) ?_
    refine va_iald (f := v_now) hx hb hK hP 1 0 rfl rfl (inb_in (i := (nI 1)) (n := 228) (by decide)) dX9_forks_15 ?_
    refine lv_istore_n (lv' := [(2, .int (v_now ((nI 1)).toNatClampNeg)), (0, .ref (a 0)), (1, .int x1)]) hx hb dX9_forks_16 rfl hl (by decide) rfl (fun ls hl => ?_)
    refine lv_iload_n hx hb dX9_forks_17 rfl (lv_at hl 0 rfl) ?_
    refine lv_iconst (v := (nI 5)) hx hb dX9_forks_18 (by decide) ?_
    refine lv_icmp_ne (tgt := 29) hx hb dX9_forks_19 (by decide) (fun c4 => ?_) (fun c4 => ?_)
    · rw [if_neg c4] at h
      refine lv_aload_n hx hb dX9_forks_29 rfl (lv_at hl 1 rfl) ?_
      refine va_get (D := E.1) (ci := 9) (v := .ref (a 1)) (C := RX9) (T := TX9) (N := 21) hx hb hts iX9 hown hK hP 0 rfl rfl 0 (by decide) (hts _ q1198) (fun _ h9 => h9) rfl dX9_forks_30 ?_
      refine lv_iconst (v := (nI 1)) hx hb dX9_forks_33 (by decide) ?_
      refine lv_dup2_11 hx hb dX9_forks_34 rfl rfl ?_
      refine va_iald (f := v_now) hx hb hK hP 1 0 rfl rfl (inb_in (i := (nI 1)) (n := 228) (by decide)) dX9_forks_35 ?_
      refine lv_iconst (v := (nI 1)) hx hb dX9_forks_36 (by decide) ?_
      refine lv_iadd hx hb dX9_forks_37 ?_
      refine va_iast (f := v_now) hx hb hK hP hD hS 1 0 rfl rfl (inb_in (i := (nI 1)) (n := 228) (by decide)) dX9_forks_38 (fun H locs hP hD hS => ?_)
      have hP : va_P E.1 vwCl ([gX9 E a (upd v_now ((nI 1)).toNatClampNeg ((v_now ((nI 1)).toNatClampNeg) + (nI 1))) v_tried v_kept v_undos v_saved v_isSaved v_line v_lined v_text v_length v_at v_order v_told v_error v_reason v_detail v_answer v_thrown v_mixed v_conflicts v_firstConflict] : List va_W).flatten H := hP
      have hD : va_D A ([gX9 E a (upd v_now ((nI 1)).toNatClampNeg ((v_now ((nI 1)).toNatClampNeg) + (nI 1))) v_tried v_kept v_undos v_saved v_isSaved v_line v_lined v_text v_length v_at v_order v_told v_error v_reason v_detail v_answer v_thrown v_mixed v_conflicts v_firstConflict] : List va_W).flatten := hD
      obtain ⟨u5, e6, h⟩ := lt_e h
      rw [← e6] at hP hD
      refine lv_aload_n hx hb dX9_forks_39 rfl (lv_at hl 1 rfl) ?_
      refine va_get (D := E.1) (ci := 9) (v := .ref (a 1)) (C := RX9) (T := TX9) (N := 21) hx hb hts iX9 hown hK hP 0 rfl rfl 0 (by decide) (hts _ q1198) (fun _ h9 => h9) rfl dX9_forks_40 ?_
      refine lv_bipush (v := (nI 7)) hx hb dX9_forks_43 (by decide) ?_
      refine lv_iload_n hx hb dX9_forks_45 rfl (lv_at hl 0 rfl) ?_
      refine lv_iadd hx hb dX9_forks_46 ?_
      refine lv_aload_n hx hb dX9_forks_47 rfl (lv_at hl 1 rfl) ?_
      refine lv_iload_n hx hb dX9_forks_48 rfl (lv_at hl 2 rfl) ?_
      obtain ⟨r7, hr8, h⟩ := ob h
      refine px_Vp (As := [.int x1]) (rest := [.int ((nI 7) + (v_now ((nI 1)).toNatClampNeg)), .ref (a 1)]) (gs := ([gX9 E a u5 v_tried v_kept v_undos v_saved v_isSaved v_line v_lined v_text v_length v_at v_order v_told v_error v_reason v_detail v_answer v_thrown v_mixed v_conflicts v_firstConflict] : List va_W)) (gc := ([gX9 E a u5 v_tried v_kept v_undos v_saved v_isSaved v_line v_lined v_text v_length v_at v_order v_told v_error v_reason v_detail v_answer v_thrown v_mixed v_conflicts v_firstConflict] : List va_W)) ⟨hx, hb, hml, hown, hts⟩ (c9_top l E a  (x1) (u5) (v_tried) (v_kept) (v_undos) (v_saved) (v_isSaved) (v_line) (v_lined) (v_text) (v_length) (v_at) (v_order) (v_told) (v_error) (v_reason) (v_detail) (v_answer) (v_thrown) (v_mixed) (v_conflicts) (v_firstConflict) r7 hr8) (cwV 1 hts (ws_v q1288 q1290 q20 q68 q1291) rfl rfl rfl hdV_X9_top (by rw [hR]; exact ⟨Nat.le_of_ble_eq_true rfl, Nat.le_of_ble_eq_true rfl⟩)) hK hN hP hD [0] rfl (by decide) 0 9 rfl rfl rfl rfl hl.1 rfl (Nat.le_of_ble_eq_true rfl) dX9_forks_49 (by rw [hR]; exact ⟨Nat.le_of_ble_eq_true rfl, Nat.le_of_ble_eq_true rfl⟩) ?_
      refine W.eq (g2 := F0 m 52 ls [.int r7, .int ((nI 7) + (v_now ((nI 1)).toNatClampNeg)), .ref (a 1)]) rfl ?_
      obtain ⟨i9, h⟩ := o_t h
      refine va_iast (f := u5) hx hb hK hP hD hS 1 0 rfl rfl (inb_in i9) dX9_forks_52 (fun H locs hP hD hS => ?_)
      have hP : va_P E.1 vwCl ([gX9 E a (upd u5 (((nI 7) + (v_now ((nI 1)).toNatClampNeg))).toNatClampNeg r7) v_tried v_kept v_undos v_saved v_isSaved v_line v_lined v_text v_length v_at v_order v_told v_error v_reason v_detail v_answer v_thrown v_mixed v_conflicts v_firstConflict] : List va_W).flatten H := hP
      have hD : va_D A ([gX9 E a (upd u5 (((nI 7) + (v_now ((nI 1)).toNatClampNeg))).toNatClampNeg r7) v_tried v_kept v_undos v_saved v_isSaved v_line v_lined v_text v_length v_at v_order v_told v_error v_reason v_detail v_answer v_thrown v_mixed v_conflicts v_firstConflict] : List va_W).flatten := hD
      obtain ⟨u10, e11, h⟩ := lt_e h
      rw [← e11] at hP hD
      refine lv_aload_n hx hb dX9_forks_53 rfl (lv_at hl 1 rfl) ?_
      refine lv_iload_n hx hb dX9_forks_54 rfl (lv_at hl 0 rfl) ?_
      obtain ⟨⟨r12, w13⟩, hr14, h⟩ := ob h
      dsimp only at h
      refine px_V (As := [.int (v_now ((nI 1)).toNatClampNeg)]) (rest := []) (gs := ([gX9 E a u10 v_tried v_kept v_undos v_saved v_isSaved v_line v_lined v_text v_length v_at v_order v_told v_error v_reason v_detail v_answer v_thrown v_mixed v_conflicts v_firstConflict] : List va_W)) (gr := ([] : List va_W)) (gc := ([gX9 E a u10 v_tried v_kept v_undos v_saved v_isSaved v_line v_lined v_text v_length v_at v_order v_told v_error v_reason v_detail v_answer v_thrown v_mixed v_conflicts v_firstConflict] : List va_W)) (g1 := ([gX9 E a u10 v_tried v_kept v_undos v_saved v_isSaved v_line v_lined v_text v_length v_at v_order v_told v_error v_reason v_detail w13 v_thrown v_mixed v_conflicts v_firstConflict] : List va_W)) (g2 := ([gX9 E a u10 v_tried v_kept v_undos v_saved v_isSaved v_line v_lined v_text v_length v_at v_order v_told v_error v_reason v_detail w13 v_thrown v_mixed v_conflicts v_firstConflict] : List va_W)) ⟨hx, hb, hml, hown, hts⟩ (c9_does l E a  ((v_now ((nI 1)).toNatClampNeg)) (u10) (v_tried) (v_kept) (v_undos) (v_saved) (v_isSaved) (v_line) (v_lined) (v_text) (v_length) (v_at) (v_order) (v_told) (v_error) (v_reason) (v_detail) (v_answer) (v_thrown) (v_mixed) (v_conflicts) (v_firstConflict) r12 w13 hr14) (cwV 1 hts (ws_v q1308 q1310 q25 q68 q1311) rfl rfl rfl hdV_X9_does (by rw [hR]; exact ⟨Nat.le_of_ble_eq_true rfl, Nat.le_of_ble_eq_true rfl⟩)) hK hN hP hD hS hA [] [0] [0] rfl rfl (by decide) (by decide) rfl (by decide) 0 9 rfl rfl rfl rfl hl.1 rfl (Nat.le_of_ble_eq_true rfl) dX9_forks_55 (by rw [hR]; exact ⟨Nat.le_of_ble_eq_true rfl, Nat.le_of_ble_eq_true rfl⟩) (fun H locs hP hD hS => ?_)
      refine W.eq (g2 := F0 m 58 ls [.int r12]) rfl ?_
      cases h
      exact px_eWi hA0 hQ hP hD hS hx hb hr hlocks dX9_forks_58
    · rw [if_pos c4] at h
      refine lv_aload_n hx hb dX9_forks_22 rfl (lv_at hl 1 rfl) ?_
      refine lv_iconst (v := (nI 1)) hx hb dX9_forks_23 (by decide) ?_
      refine lv_iconst (v := (nI 5)) hx hb dX9_forks_24 (by decide) ?_
      obtain ⟨⟨r15, w16, w17⟩, hr18, h⟩ := ob h
      dsimp only at h
      refine px_V (As := [.int (nI 1), .int (nI 5)]) (rest := []) (gs := ([gX9 E a v_now v_tried v_kept v_undos v_saved v_isSaved v_line v_lined v_text v_length v_at v_order v_told v_error v_reason v_detail v_answer v_thrown v_mixed v_conflicts v_firstConflict] : List va_W)) (gr := ([] : List va_W)) (gc := ([gX9 E a v_now v_tried v_kept v_undos v_saved v_isSaved v_line v_lined v_text v_length v_at v_order v_told v_error v_reason v_detail v_answer v_thrown v_mixed v_conflicts v_firstConflict] : List va_W)) (g1 := ([gX9 E a v_now v_tried v_kept v_undos v_saved v_isSaved v_line v_lined v_text v_length v_at v_order v_told v_error w16 w17 v_answer v_thrown v_mixed v_conflicts v_firstConflict] : List va_W)) (g2 := ([gX9 E a v_now v_tried v_kept v_undos v_saved v_isSaved v_line v_lined v_text v_length v_at v_order v_told v_error w16 w17 v_answer v_thrown v_mixed v_conflicts v_firstConflict] : List va_W)) ⟨hx, hb, hml, hown, hts⟩ (c9_refuses l E a  ((nI 1)) ((nI 5)) (v_now) (v_tried) (v_kept) (v_undos) (v_saved) (v_isSaved) (v_line) (v_lined) (v_text) (v_length) (v_at) (v_order) (v_told) (v_error) (v_reason) (v_detail) (v_answer) (v_thrown) (v_mixed) (v_conflicts) (v_firstConflict) r15 w16 w17 hr18) (cwV 2 hts (ws_v q1300 q1302 q23 q68 q1303) rfl rfl rfl hdV_X9_refuses (by rw [hR]; exact ⟨Nat.le_of_ble_eq_true rfl, Nat.le_of_ble_eq_true rfl⟩)) hK hN hP hD hS hA [] [0] [0] rfl rfl (by decide) (by decide) rfl (by decide) 0 9 rfl rfl rfl rfl hl.1 rfl (Nat.le_of_ble_eq_true rfl) dX9_forks_25 (by rw [hR]; exact ⟨Nat.le_of_ble_eq_true rfl, Nat.le_of_ble_eq_true rfl⟩) (fun H locs hP hD hS => ?_)
      refine W.eq (g2 := F0 m 28 ls [.int r15]) rfl ?_
      cases h
      exact px_eWi hA0 hQ hP hD hS hx hb hr hlocks dX9_forks_28
  · rw [if_pos c3] at h
    refine lv_iconst (v := (nI 1)) hx hb dX9_forks_8 (by decide) ?_
    cases h
    exact px_eWi hA0 hQ hP hD hS hx hb hr hlocks dX9_forks_9
def f9_fork (x1 : Int32) (v_now : AI) (v_tried : AI) (v_kept : AI) (v_undos : Int32) (v_reason : Int32) (v_detail : Int32) (v_answer : Int32) (v_thrown : Int32) : Option (Int32 × AI × AI × AI × Int32 × Int32 × Int32 × Int32 × Int32) := ((f9_tries (v_now) (v_tried) (v_thrown)).bind fun (w1, w2) => ((f9_forks (x1) (v_now) (v_reason) (v_detail) (v_answer)).bind fun (r4, w5, w6, w7, w8) => ((f9_endsAt (r4) (w1) (v_kept) (v_undos) (w8) (w2)).bind fun (r10, w11, w12, w13) => (some (r10, w5, w1, w11, w12, w6, w7, w8, w13)))))
set_option maxHeartbeats 4000000 in
set_option maxRecDepth 100000 in
theorem c9_fork (l : Launch) (E : PE) (a : Nat → Nat)  (x1 : Int32) (v_now : AI) (v_tried : AI) (v_kept : AI) (v_undos : Int32) (v_saved : AI) (v_isSaved : Int32) (v_line : AI) (v_lined : Int32) (v_text : AI) (v_length : Int32) (v_at : Int32) (v_order : Int32) (v_told : AI) (v_error : Int32) (v_reason : Int32) (v_detail : Int32) (v_answer : Int32) (v_thrown : Int32) (v_mixed : AI) (v_conflicts : Int32) (v_firstConflict : Int32) (r : Int32) (z_this_now : AI) (z_this_tried : AI) (z_this_kept : AI) (z_this_undos : Int32) (z_this_reason : Int32) (z_this_detail : Int32) (z_this_answer : Int32) (z_this_thrown : Int32) (h : f9_fork x1 v_now v_tried v_kept v_undos v_reason v_detail v_answer v_thrown = some (r, z_this_now, z_this_tried, z_this_kept, z_this_undos, z_this_reason, z_this_detail, z_this_answer, z_this_thrown)) : MW l yX9_fork cX9_fork 2 (some .int) { frames := 3, cells := 0, slots := 0, locals := 65 } E [.ref (a 0), .int x1] ([gX9 E a v_now v_tried v_kept v_undos v_saved v_isSaved v_line v_lined v_text v_length v_at v_order v_told v_error v_reason v_detail v_answer v_thrown v_mixed v_conflicts v_firstConflict] : List va_W).flatten 0 0 (some (.int r)) ([gX9 E a z_this_now z_this_tried z_this_kept z_this_undos v_saved v_isSaved v_line v_lined v_text v_length v_at v_order v_told v_error z_this_reason z_this_detail z_this_answer z_this_thrown v_mixed v_conflicts v_firstConflict] : List va_W).flatten := by
  refine px_startW (by decide +kernel) (Nat.le_of_ble_eq_true rfl) ?_
  intro p e s m args below meth c R Q A ls hC hA0 hQ
  obtain ⟨hx, hb, hr, hml, hts, hown, hlocks, hR, hK, hN, hP, hD, hA, hl, hin⟩ := hC
  have hl : lv_has ls 2 [(0, .ref (a 0)), (1, .int x1)] := hl
  suffices key : ∀ (H : Heap) (locs : List Loc), va_P E.1 vwCl ([gX9 E a v_now v_tried v_kept v_undos v_saved v_isSaved v_line v_lined v_text v_length v_at v_order v_told v_error v_reason v_detail v_answer v_thrown v_mixed v_conflicts v_firstConflict] : List va_W).flatten H → va_S A s.heap H locs → W p l e R s m args below meth c H locs 0 0 Q (F0 m 0 ls []) from key s.heap [] hP va_S.rf
  unfold f9_fork at h
  intro H locs hP hS
  refine lv_aload_n hx hb dX9_fork_0 rfl (lv_at hl 0 rfl) ?_
  obtain ⟨⟨w1, w2⟩, hr3, h⟩ := ob h
  dsimp only at h
  refine px_V (As := []) (rest := []) (gs := ([gX9 E a v_now v_tried v_kept v_undos v_saved v_isSaved v_line v_lined v_text v_length v_at v_order v_told v_error v_reason v_detail v_answer v_thrown v_mixed v_conflicts v_firstConflict] : List va_W)) (gr := ([] : List va_W)) (gc := ([gX9 E a v_now v_tried v_kept v_undos v_saved v_isSaved v_line v_lined v_text v_length v_at v_order v_told v_error v_reason v_detail v_answer v_thrown v_mixed v_conflicts v_firstConflict] : List va_W)) (g1 := ([gX9 E a v_now w1 v_kept v_undos v_saved v_isSaved v_line v_lined v_text v_length v_at v_order v_told v_error v_reason v_detail v_answer w2 v_mixed v_conflicts v_firstConflict] : List va_W)) (g2 := ([gX9 E a v_now w1 v_kept v_undos v_saved v_isSaved v_line v_lined v_text v_length v_at v_order v_told v_error v_reason v_detail v_answer w2 v_mixed v_conflicts v_firstConflict] : List va_W)) ⟨hx, hb, hml, hown, hts⟩ (c9_tries l E a   (v_now) (v_tried) (v_kept) (v_undos) (v_saved) (v_isSaved) (v_line) (v_lined) (v_text) (v_length) (v_at) (v_order) (v_told) (v_error) (v_reason) (v_detail) (v_answer) (v_thrown) (v_mixed) (v_conflicts) (v_firstConflict) w1 w2 hr3) (cwV 0 hts (ws_v q1270 q1272 q17 q68 q1273) rfl rfl rfl hdV_X9_tries (by rw [hR]; exact ⟨Nat.le_of_ble_eq_true rfl, Nat.le_of_ble_eq_true rfl⟩)) hK hN hP hD hS hA [] [0] [0] rfl rfl (by decide) (by decide) rfl (by decide) 0 9 rfl rfl rfl rfl hl.1 rfl (Nat.le_of_ble_eq_true rfl) dX9_fork_1 (by rw [hR]; exact ⟨Nat.le_of_ble_eq_true rfl, Nat.le_of_ble_eq_true rfl⟩) (fun H locs hP hD hS => ?_)
  refine W.eq (g2 := F0 m 4 ls []) rfl ?_
  refine lv_aload_n hx hb dX9_fork_4 rfl (lv_at hl 0 rfl) ?_
  refine lv_aload_n hx hb dX9_fork_5 rfl (lv_at hl 0 rfl) ?_
  refine lv_iload_n hx hb dX9_fork_6 rfl (lv_at hl 1 rfl) ?_
  obtain ⟨⟨r4, w5, w6, w7, w8⟩, hr9, h⟩ := ob h
  dsimp only at h
  refine px_V (As := [.int x1]) (rest := [.ref (a 0)]) (gs := ([gX9 E a v_now w1 v_kept v_undos v_saved v_isSaved v_line v_lined v_text v_length v_at v_order v_told v_error v_reason v_detail v_answer w2 v_mixed v_conflicts v_firstConflict] : List va_W)) (gr := ([] : List va_W)) (gc := ([gX9 E a v_now w1 v_kept v_undos v_saved v_isSaved v_line v_lined v_text v_length v_at v_order v_told v_error v_reason v_detail v_answer w2 v_mixed v_conflicts v_firstConflict] : List va_W)) (g1 := ([gX9 E a w5 w1 v_kept v_undos v_saved v_isSaved v_line v_lined v_text v_length v_at v_order v_told v_error w6 w7 w8 w2 v_mixed v_conflicts v_firstConflict] : List va_W)) (g2 := ([gX9 E a w5 w1 v_kept v_undos v_saved v_isSaved v_line v_lined v_text v_length v_at v_order v_told v_error w6 w7 w8 w2 v_mixed v_conflicts v_firstConflict] : List va_W)) ⟨hx, hb, hml, hown, hts⟩ (c9_forks l E a  (x1) (v_now) (w1) (v_kept) (v_undos) (v_saved) (v_isSaved) (v_line) (v_lined) (v_text) (v_length) (v_at) (v_order) (v_told) (v_error) (v_reason) (v_detail) (v_answer) (w2) (v_mixed) (v_conflicts) (v_firstConflict) r4 w5 w6 w7 w8 hr9) (cwV 1 hts (ws_v q1328 q1330 q29 q68 q1331) rfl rfl rfl hdV_X9_forks (by rw [hR]; exact ⟨Nat.le_of_ble_eq_true rfl, Nat.le_of_ble_eq_true rfl⟩)) hK hN hP hD hS hA [] [0] [0] rfl rfl (by decide) (by decide) rfl (by decide) 0 9 rfl rfl rfl rfl hl.1 rfl (Nat.le_of_ble_eq_true rfl) dX9_fork_7 (by rw [hR]; exact ⟨Nat.le_of_ble_eq_true rfl, Nat.le_of_ble_eq_true rfl⟩) (fun H locs hP hD hS => ?_)
  refine W.eq (g2 := F0 m 10 ls [.int r4, .ref (a 0)]) rfl ?_
  obtain ⟨⟨r10, w11, w12, w13⟩, hr14, h⟩ := ob h
  dsimp only at h
  refine px_V (As := [.int r4]) (rest := []) (gs := ([gX9 E a w5 w1 v_kept v_undos v_saved v_isSaved v_line v_lined v_text v_length v_at v_order v_told v_error w6 w7 w8 w2 v_mixed v_conflicts v_firstConflict] : List va_W)) (gr := ([] : List va_W)) (gc := ([gX9 E a w5 w1 v_kept v_undos v_saved v_isSaved v_line v_lined v_text v_length v_at v_order v_told v_error w6 w7 w8 w2 v_mixed v_conflicts v_firstConflict] : List va_W)) (g1 := ([gX9 E a w5 w1 w11 w12 v_saved v_isSaved v_line v_lined v_text v_length v_at v_order v_told v_error w6 w7 w8 w13 v_mixed v_conflicts v_firstConflict] : List va_W)) (g2 := ([gX9 E a w5 w1 w11 w12 v_saved v_isSaved v_line v_lined v_text v_length v_at v_order v_told v_error w6 w7 w8 w13 v_mixed v_conflicts v_firstConflict] : List va_W)) ⟨hx, hb, hml, hown, hts⟩ (c9_endsAt l E a  (r4) (w5) (w1) (v_kept) (v_undos) (v_saved) (v_isSaved) (v_line) (v_lined) (v_text) (v_length) (v_at) (v_order) (v_told) (v_error) (w6) (w7) (w8) (w2) (v_mixed) (v_conflicts) (v_firstConflict) r10 w11 w12 w13 hr14) (cwV 1 hts (ws_v q1332 q1334 q30 q68 q1335) rfl rfl rfl hdV_X9_endsAt (by rw [hR]; exact ⟨Nat.le_of_ble_eq_true rfl, Nat.le_of_ble_eq_true rfl⟩)) hK hN hP hD hS hA [] [0] [0] rfl rfl (by decide) (by decide) rfl (by decide) 0 9 rfl rfl rfl rfl hl.1 rfl (Nat.le_of_ble_eq_true rfl) dX9_fork_10 (by rw [hR]; exact ⟨Nat.le_of_ble_eq_true rfl, Nat.le_of_ble_eq_true rfl⟩) (fun H locs hP hD hS => ?_)
  refine W.eq (g2 := F0 m 13 ls [.int r10]) rfl ?_
  cases h
  exact px_eWi hA0 hQ hP hD hS hx hb hr hlocks dX9_fork_13
def f9_resets (x1 : Int32) (x2 : Int32) (v_now : AI) (v_reason : Int32) (v_detail : Int32) (v_answer : Int32) : Option (Int32 × AI × Int32 × Int32 × Int32) := ((f9_isBranch (x1) (v_now)).bind fun r1 => (if (b2i r1) = 0 then (some ((nI 1), v_now, v_reason, v_detail, v_answer)) else ((f9_isCommit (x2) (v_now)).bind fun r4 => (if (b2i r4) = 0 then (some ((nI 1), v_now, v_reason, v_detail, v_answer)) else ((f9_top (x1) (v_now)).bind fun r7 => (if r7 = x2 then ((f9_refuses ((nI 3)) (x2) (v_reason) (v_detail)).bind fun (r18, w19, w20) => (some (r18, v_now, w19, w20, v_answer))) else ((f9_top (x1) (v_now)).bind fun r10 => (if inb ((nI 7) + x1) 228 = true then (lt (upd v_now (((nI 7) + x1)).toNatClampNeg x2) fun u13 => ((f9_does (r10) (v_answer)).bind fun (r15, w16) => (some (r15, u13, v_reason, v_detail, w16)))) else none))))))))
set_option maxHeartbeats 4000000 in
set_option maxRecDepth 100000 in
theorem c9_resets (l : Launch) (E : PE) (a : Nat → Nat)  (x1 : Int32) (x2 : Int32) (v_now : AI) (v_tried : AI) (v_kept : AI) (v_undos : Int32) (v_saved : AI) (v_isSaved : Int32) (v_line : AI) (v_lined : Int32) (v_text : AI) (v_length : Int32) (v_at : Int32) (v_order : Int32) (v_told : AI) (v_error : Int32) (v_reason : Int32) (v_detail : Int32) (v_answer : Int32) (v_thrown : Int32) (v_mixed : AI) (v_conflicts : Int32) (v_firstConflict : Int32) (r : Int32) (z_this_now : AI) (z_this_reason : Int32) (z_this_detail : Int32) (z_this_answer : Int32) (h : f9_resets x1 x2 v_now v_reason v_detail v_answer = some (r, z_this_now, z_this_reason, z_this_detail, z_this_answer)) : MW l yX9_resets cX9_resets 4 (some .int) { frames := 2, cells := 0, slots := 0, locals := 43 } E [.ref (a 0), .int x1, .int x2] ([gX9 E a v_now v_tried v_kept v_undos v_saved v_isSaved v_line v_lined v_text v_length v_at v_order v_told v_error v_reason v_detail v_answer v_thrown v_mixed v_conflicts v_firstConflict] : List va_W).flatten 0 0 (some (.int r)) ([gX9 E a z_this_now v_tried v_kept v_undos v_saved v_isSaved v_line v_lined v_text v_length v_at v_order v_told v_error z_this_reason z_this_detail z_this_answer v_thrown v_mixed v_conflicts v_firstConflict] : List va_W).flatten := by
  refine px_startW (by decide +kernel) (Nat.le_of_ble_eq_true rfl) ?_
  intro p e s m args below meth c R Q A ls hC hA0 hQ
  obtain ⟨hx, hb, hr, hml, hts, hown, hlocks, hR, hK, hN, hP, hD, hA, hl, hin⟩ := hC
  have hl : lv_has ls 4 [(0, .ref (a 0)), (1, .int x1), (2, .int x2)] := hl
  suffices key : ∀ (H : Heap) (locs : List Loc), va_P E.1 vwCl ([gX9 E a v_now v_tried v_kept v_undos v_saved v_isSaved v_line v_lined v_text v_length v_at v_order v_told v_error v_reason v_detail v_answer v_thrown v_mixed v_conflicts v_firstConflict] : List va_W).flatten H → va_S A s.heap H locs → W p l e R s m args below meth c H locs 0 0 Q (F0 m 0 ls []) from key s.heap [] hP va_S.rf
  unfold f9_resets at h
  intro H locs hP hS
  refine lv_aload_n hx hb dX9_resets_0 rfl (lv_at hl 0 rfl) ?_
  refine lv_iload_n hx hb dX9_resets_1 rfl (lv_at hl 1 rfl) ?_
  obtain ⟨r1, hr2, h⟩ := ob h
  refine px_Vp (As := [.int x1]) (rest := []) (gs := ([gX9 E a v_now v_tried v_kept v_undos v_saved v_isSaved v_line v_lined v_text v_length v_at v_order v_told v_error v_reason v_detail v_answer v_thrown v_mixed v_conflicts v_firstConflict] : List va_W)) (gc := ([gX9 E a v_now v_tried v_kept v_undos v_saved v_isSaved v_line v_lined v_text v_length v_at v_order v_told v_error v_reason v_detail v_answer v_thrown v_mixed v_conflicts v_firstConflict] : List va_W)) ⟨hx, hb, hml, hown, hts⟩ (c9_isBranch l E a  (x1) (v_now) (v_tried) (v_kept) (v_undos) (v_saved) (v_isSaved) (v_line) (v_lined) (v_text) (v_length) (v_at) (v_order) (v_told) (v_error) (v_reason) (v_detail) (v_answer) (v_thrown) (v_mixed) (v_conflicts) (v_firstConflict) r1 hr2) (cwV 1 hts (ws_v q1278 q1280 q19 q68 q1281) rfl rfl rfl hdV_X9_isBranch (by rw [hR]; exact ⟨Nat.le_of_ble_eq_true rfl, Nat.le_of_ble_eq_true rfl⟩)) hK hN hP hD [0] rfl (by decide) 0 9 rfl rfl rfl rfl hl.1 rfl (Nat.le_of_ble_eq_true rfl) dX9_resets_2 (by rw [hR]; exact ⟨Nat.le_of_ble_eq_true rfl, Nat.le_of_ble_eq_true rfl⟩) ?_
  refine W.eq (g2 := F0 m 5 ls [.int (b2i r1)]) rfl ?_
  refine lv_if_eq (tgt := 16) hx hb dX9_resets_5 (by decide) (fun c3 => ?_) (fun c3 => ?_)
  · rw [if_pos c3] at h
    refine lv_iconst (v := (nI 1)) hx hb dX9_resets_16 (by decide) ?_
    cases h
    exact px_eWi hA0 hQ hP hD hS hx hb hr hlocks dX9_resets_17
  · rw [if_neg c3] at h
    refine lv_aload_n hx hb dX9_resets_8 rfl (lv_at hl 0 rfl) ?_
    refine lv_iload_n hx hb dX9_resets_9 rfl (lv_at hl 2 rfl) ?_
    obtain ⟨r4, hr5, h⟩ := ob h
    refine px_Vp (As := [.int x2]) (rest := []) (gs := ([gX9 E a v_now v_tried v_kept v_undos v_saved v_isSaved v_line v_lined v_text v_length v_at v_order v_told v_error v_reason v_detail v_answer v_thrown v_mixed v_conflicts v_firstConflict] : List va_W)) (gc := ([gX9 E a v_now v_tried v_kept v_undos v_saved v_isSaved v_line v_lined v_text v_length v_at v_order v_told v_error v_reason v_detail v_answer v_thrown v_mixed v_conflicts v_firstConflict] : List va_W)) ⟨hx, hb, hml, hown, hts⟩ (c9_isCommit l E a  (x2) (v_now) (v_tried) (v_kept) (v_undos) (v_saved) (v_isSaved) (v_line) (v_lined) (v_text) (v_length) (v_at) (v_order) (v_told) (v_error) (v_reason) (v_detail) (v_answer) (v_thrown) (v_mixed) (v_conflicts) (v_firstConflict) r4 hr5) (cwV 1 hts (ws_v q1344 q1346 q32 q68 q1347) rfl rfl rfl hdV_X9_isCommit (by rw [hR]; exact ⟨Nat.le_of_ble_eq_true rfl, Nat.le_of_ble_eq_true rfl⟩)) hK hN hP hD [0] rfl (by decide) 0 9 rfl rfl rfl rfl hl.1 rfl (Nat.le_of_ble_eq_true rfl) dX9_resets_10 (by rw [hR]; exact ⟨Nat.le_of_ble_eq_true rfl, Nat.le_of_ble_eq_true rfl⟩) ?_
    refine W.eq (g2 := F0 m 13 ls [.int (b2i r4)]) rfl ?_
    refine lv_if_ne (tgt := 18) hx hb dX9_resets_13 (by decide) (fun c6 => ?_) (fun c6 => ?_)
    · rw [if_neg c6] at h
      refine lv_aload_n hx hb dX9_resets_18 rfl (lv_at hl 0 rfl) ?_
      refine lv_iload_n hx hb dX9_resets_19 rfl (lv_at hl 1 rfl) ?_
      obtain ⟨r7, hr8, h⟩ := ob h
      refine px_Vp (As := [.int x1]) (rest := []) (gs := ([gX9 E a v_now v_tried v_kept v_undos v_saved v_isSaved v_line v_lined v_text v_length v_at v_order v_told v_error v_reason v_detail v_answer v_thrown v_mixed v_conflicts v_firstConflict] : List va_W)) (gc := ([gX9 E a v_now v_tried v_kept v_undos v_saved v_isSaved v_line v_lined v_text v_length v_at v_order v_told v_error v_reason v_detail v_answer v_thrown v_mixed v_conflicts v_firstConflict] : List va_W)) ⟨hx, hb, hml, hown, hts⟩ (c9_top l E a  (x1) (v_now) (v_tried) (v_kept) (v_undos) (v_saved) (v_isSaved) (v_line) (v_lined) (v_text) (v_length) (v_at) (v_order) (v_told) (v_error) (v_reason) (v_detail) (v_answer) (v_thrown) (v_mixed) (v_conflicts) (v_firstConflict) r7 hr8) (cwV 1 hts (ws_v q1288 q1290 q20 q68 q1291) rfl rfl rfl hdV_X9_top (by rw [hR]; exact ⟨Nat.le_of_ble_eq_true rfl, Nat.le_of_ble_eq_true rfl⟩)) hK hN hP hD [0] rfl (by decide) 0 9 rfl rfl rfl rfl hl.1 rfl (Nat.le_of_ble_eq_true rfl) dX9_resets_20 (by rw [hR]; exact ⟨Nat.le_of_ble_eq_true rfl, Nat.le_of_ble_eq_true rfl⟩) ?_
      refine W.eq (g2 := F0 m 23 ls [.int r7]) rfl ?_
      refine lv_iload_n hx hb dX9_resets_23 rfl (lv_at hl 2 rfl) ?_
      refine lv_icmp_ne (tgt := 34) hx hb dX9_resets_24 (by decide) (fun c9 => ?_) (fun c9 => ?_)
      · rw [if_neg c9] at h
        refine lv_aload_n hx hb dX9_resets_34 rfl (lv_at hl 0 rfl) ?_
        refine lv_iload_n hx hb dX9_resets_35 rfl (lv_at hl 1 rfl) ?_
        obtain ⟨r10, hr11, h⟩ := ob h
        refine px_Vp (As := [.int x1]) (rest := []) (gs := ([gX9 E a v_now v_tried v_kept v_undos v_saved v_isSaved v_line v_lined v_text v_length v_at v_order v_told v_error v_reason v_detail v_answer v_thrown v_mixed v_conflicts v_firstConflict] : List va_W)) (gc := ([gX9 E a v_now v_tried v_kept v_undos v_saved v_isSaved v_line v_lined v_text v_length v_at v_order v_told v_error v_reason v_detail v_answer v_thrown v_mixed v_conflicts v_firstConflict] : List va_W)) ⟨hx, hb, hml, hown, hts⟩ (c9_top l E a  (x1) (v_now) (v_tried) (v_kept) (v_undos) (v_saved) (v_isSaved) (v_line) (v_lined) (v_text) (v_length) (v_at) (v_order) (v_told) (v_error) (v_reason) (v_detail) (v_answer) (v_thrown) (v_mixed) (v_conflicts) (v_firstConflict) r10 hr11) (cwV 1 hts (ws_v q1288 q1290 q20 q68 q1291) rfl rfl rfl hdV_X9_top (by rw [hR]; exact ⟨Nat.le_of_ble_eq_true rfl, Nat.le_of_ble_eq_true rfl⟩)) hK hN hP hD [0] rfl (by decide) 0 9 rfl rfl rfl rfl hl.1 rfl (Nat.le_of_ble_eq_true rfl) dX9_resets_36 (by rw [hR]; exact ⟨Nat.le_of_ble_eq_true rfl, Nat.le_of_ble_eq_true rfl⟩) ?_
        refine W.eq (g2 := F0 m 39 ls [.int r10]) rfl ?_
        refine lv_istore_n (lv' := [(3, .int r10), (0, .ref (a 0)), (1, .int x1), (2, .int x2)]) hx hb dX9_resets_39 rfl hl (by decide) rfl (fun ls hl => ?_)
        refine lv_aload_n hx hb dX9_resets_40 rfl (lv_at hl 1 rfl) ?_
        refine va_get (D := E.1) (ci := 9) (v := .ref (a 1)) (C := RX9) (T := TX9) (N := 21) hx hb hts iX9 hown hK hP 0 rfl rfl 0 (by decide) (hts _ q1198) (fun _ h9 => h9) rfl dX9_resets_41 ?_
        refine lv_bipush (v := (nI 7)) hx hb dX9_resets_44 (by decide) ?_
        refine lv_iload_n hx hb dX9_resets_46 rfl (lv_at hl 2 rfl) ?_
        refine lv_iadd hx hb dX9_resets_47 ?_
        refine lv_iload_n hx hb dX9_resets_48 rfl (lv_at hl 3 rfl) ?_
        obtain ⟨i12, h⟩ := o_t h
        refine va_iast (f := v_now) hx hb hK hP hD hS 1 0 rfl rfl (inb_in i12) dX9_resets_49 (fun H locs hP hD hS => ?_)
        have hP : va_P E.1 vwCl ([gX9 E a (upd v_now (((nI 7) + x1)).toNatClampNeg x2) v_tried v_kept v_undos v_saved v_isSaved v_line v_lined v_text v_length v_at v_order v_told v_error v_reason v_detail v_answer v_thrown v_mixed v_conflicts v_firstConflict] : List va_W).flatten H := hP
        have hD : va_D A ([gX9 E a (upd v_now (((nI 7) + x1)).toNatClampNeg x2) v_tried v_kept v_undos v_saved v_isSaved v_line v_lined v_text v_length v_at v_order v_told v_error v_reason v_detail v_answer v_thrown v_mixed v_conflicts v_firstConflict] : List va_W).flatten := hD
        obtain ⟨u13, e14, h⟩ := lt_e h
        rw [← e14] at hP hD
        refine lv_aload_n hx hb dX9_resets_50 rfl (lv_at hl 1 rfl) ?_
        refine lv_iload_n hx hb dX9_resets_51 rfl (lv_at hl 0 rfl) ?_
        obtain ⟨⟨r15, w16⟩, hr17, h⟩ := ob h
        dsimp only at h
        refine px_V (As := [.int r10]) (rest := []) (gs := ([gX9 E a u13 v_tried v_kept v_undos v_saved v_isSaved v_line v_lined v_text v_length v_at v_order v_told v_error v_reason v_detail v_answer v_thrown v_mixed v_conflicts v_firstConflict] : List va_W)) (gr := ([] : List va_W)) (gc := ([gX9 E a u13 v_tried v_kept v_undos v_saved v_isSaved v_line v_lined v_text v_length v_at v_order v_told v_error v_reason v_detail v_answer v_thrown v_mixed v_conflicts v_firstConflict] : List va_W)) (g1 := ([gX9 E a u13 v_tried v_kept v_undos v_saved v_isSaved v_line v_lined v_text v_length v_at v_order v_told v_error v_reason v_detail w16 v_thrown v_mixed v_conflicts v_firstConflict] : List va_W)) (g2 := ([gX9 E a u13 v_tried v_kept v_undos v_saved v_isSaved v_line v_lined v_text v_length v_at v_order v_told v_error v_reason v_detail w16 v_thrown v_mixed v_conflicts v_firstConflict] : List va_W)) ⟨hx, hb, hml, hown, hts⟩ (c9_does l E a  (r10) (u13) (v_tried) (v_kept) (v_undos) (v_saved) (v_isSaved) (v_line) (v_lined) (v_text) (v_length) (v_at) (v_order) (v_told) (v_error) (v_reason) (v_detail) (v_answer) (v_thrown) (v_mixed) (v_conflicts) (v_firstConflict) r15 w16 hr17) (cwV 1 hts (ws_v q1308 q1310 q25 q68 q1311) rfl rfl rfl hdV_X9_does (by rw [hR]; exact ⟨Nat.le_of_ble_eq_true rfl, Nat.le_of_ble_eq_true rfl⟩)) hK hN hP hD hS hA [] [0] [0] rfl rfl (by decide) (by decide) rfl (by decide) 0 9 rfl rfl rfl rfl hl.1 rfl (Nat.le_of_ble_eq_true rfl) dX9_resets_52 (by rw [hR]; exact ⟨Nat.le_of_ble_eq_true rfl, Nat.le_of_ble_eq_true rfl⟩) (fun H locs hP hD hS => ?_)
        refine W.eq (g2 := F0 m 55 ls [.int r15]) rfl ?_
        cases h
        exact px_eWi hA0 hQ hP hD hS hx hb hr hlocks dX9_resets_55
      · rw [if_pos c9] at h
        refine lv_aload_n hx hb dX9_resets_27 rfl (lv_at hl 0 rfl) ?_
        refine lv_iconst (v := (nI 3)) hx hb dX9_resets_28 (by decide) ?_
        refine lv_iload_n hx hb dX9_resets_29 rfl (lv_at hl 2 rfl) ?_
        obtain ⟨⟨r18, w19, w20⟩, hr21, h⟩ := ob h
        dsimp only at h
        refine px_V (As := [.int (nI 3), .int x2]) (rest := []) (gs := ([gX9 E a v_now v_tried v_kept v_undos v_saved v_isSaved v_line v_lined v_text v_length v_at v_order v_told v_error v_reason v_detail v_answer v_thrown v_mixed v_conflicts v_firstConflict] : List va_W)) (gr := ([] : List va_W)) (gc := ([gX9 E a v_now v_tried v_kept v_undos v_saved v_isSaved v_line v_lined v_text v_length v_at v_order v_told v_error v_reason v_detail v_answer v_thrown v_mixed v_conflicts v_firstConflict] : List va_W)) (g1 := ([gX9 E a v_now v_tried v_kept v_undos v_saved v_isSaved v_line v_lined v_text v_length v_at v_order v_told v_error w19 w20 v_answer v_thrown v_mixed v_conflicts v_firstConflict] : List va_W)) (g2 := ([gX9 E a v_now v_tried v_kept v_undos v_saved v_isSaved v_line v_lined v_text v_length v_at v_order v_told v_error w19 w20 v_answer v_thrown v_mixed v_conflicts v_firstConflict] : List va_W)) ⟨hx, hb, hml, hown, hts⟩ (c9_refuses l E a  ((nI 3)) (x2) (v_now) (v_tried) (v_kept) (v_undos) (v_saved) (v_isSaved) (v_line) (v_lined) (v_text) (v_length) (v_at) (v_order) (v_told) (v_error) (v_reason) (v_detail) (v_answer) (v_thrown) (v_mixed) (v_conflicts) (v_firstConflict) r18 w19 w20 hr21) (cwV 2 hts (ws_v q1300 q1302 q23 q68 q1303) rfl rfl rfl hdV_X9_refuses (by rw [hR]; exact ⟨Nat.le_of_ble_eq_true rfl, Nat.le_of_ble_eq_true rfl⟩)) hK hN hP hD hS hA [] [0] [0] rfl rfl (by decide) (by decide) rfl (by decide) 0 9 rfl rfl rfl rfl hl.1 rfl (Nat.le_of_ble_eq_true rfl) dX9_resets_30 (by rw [hR]; exact ⟨Nat.le_of_ble_eq_true rfl, Nat.le_of_ble_eq_true rfl⟩) (fun H locs hP hD hS => ?_)
        refine W.eq (g2 := F0 m 33 ls [.int r18]) rfl ?_
        cases h
        exact px_eWi hA0 hQ hP hD hS hx hb hr hlocks dX9_resets_33
    · rw [if_pos c6] at h
      refine lv_iconst (v := (nI 1)) hx hb dX9_resets_16 (by decide) ?_
      cases h
      exact px_eWi hA0 hQ hP hD hS hx hb hr hlocks dX9_resets_17
def f9_reset (x1 : Int32) (x2 : Int32) (v_now : AI) (v_tried : AI) (v_kept : AI) (v_undos : Int32) (v_reason : Int32) (v_detail : Int32) (v_answer : Int32) (v_thrown : Int32) : Option (Int32 × AI × AI × AI × Int32 × Int32 × Int32 × Int32 × Int32) := ((f9_tries (v_now) (v_tried) (v_thrown)).bind fun (w1, w2) => ((f9_resets (x1) (x2) (v_now) (v_reason) (v_detail) (v_answer)).bind fun (r4, w5, w6, w7, w8) => ((f9_endsAt (r4) (w1) (v_kept) (v_undos) (w8) (w2)).bind fun (r10, w11, w12, w13) => (some (r10, w5, w1, w11, w12, w6, w7, w8, w13)))))
set_option maxHeartbeats 4000000 in
set_option maxRecDepth 100000 in
theorem c9_reset (l : Launch) (E : PE) (a : Nat → Nat)  (x1 : Int32) (x2 : Int32) (v_now : AI) (v_tried : AI) (v_kept : AI) (v_undos : Int32) (v_saved : AI) (v_isSaved : Int32) (v_line : AI) (v_lined : Int32) (v_text : AI) (v_length : Int32) (v_at : Int32) (v_order : Int32) (v_told : AI) (v_error : Int32) (v_reason : Int32) (v_detail : Int32) (v_answer : Int32) (v_thrown : Int32) (v_mixed : AI) (v_conflicts : Int32) (v_firstConflict : Int32) (r : Int32) (z_this_now : AI) (z_this_tried : AI) (z_this_kept : AI) (z_this_undos : Int32) (z_this_reason : Int32) (z_this_detail : Int32) (z_this_answer : Int32) (z_this_thrown : Int32) (h : f9_reset x1 x2 v_now v_tried v_kept v_undos v_reason v_detail v_answer v_thrown = some (r, z_this_now, z_this_tried, z_this_kept, z_this_undos, z_this_reason, z_this_detail, z_this_answer, z_this_thrown)) : MW l yX9_reset cX9_reset 3 (some .int) { frames := 3, cells := 0, slots := 0, locals := 66 } E [.ref (a 0), .int x1, .int x2] ([gX9 E a v_now v_tried v_kept v_undos v_saved v_isSaved v_line v_lined v_text v_length v_at v_order v_told v_error v_reason v_detail v_answer v_thrown v_mixed v_conflicts v_firstConflict] : List va_W).flatten 0 0 (some (.int r)) ([gX9 E a z_this_now z_this_tried z_this_kept z_this_undos v_saved v_isSaved v_line v_lined v_text v_length v_at v_order v_told v_error z_this_reason z_this_detail z_this_answer z_this_thrown v_mixed v_conflicts v_firstConflict] : List va_W).flatten := by
  refine px_startW (by decide +kernel) (Nat.le_of_ble_eq_true rfl) ?_
  intro p e s m args below meth c R Q A ls hC hA0 hQ
  obtain ⟨hx, hb, hr, hml, hts, hown, hlocks, hR, hK, hN, hP, hD, hA, hl, hin⟩ := hC
  have hl : lv_has ls 3 [(0, .ref (a 0)), (1, .int x1), (2, .int x2)] := hl
  suffices key : ∀ (H : Heap) (locs : List Loc), va_P E.1 vwCl ([gX9 E a v_now v_tried v_kept v_undos v_saved v_isSaved v_line v_lined v_text v_length v_at v_order v_told v_error v_reason v_detail v_answer v_thrown v_mixed v_conflicts v_firstConflict] : List va_W).flatten H → va_S A s.heap H locs → W p l e R s m args below meth c H locs 0 0 Q (F0 m 0 ls []) from key s.heap [] hP va_S.rf
  unfold f9_reset at h
  intro H locs hP hS
  refine lv_aload_n hx hb dX9_reset_0 rfl (lv_at hl 0 rfl) ?_
  obtain ⟨⟨w1, w2⟩, hr3, h⟩ := ob h
  dsimp only at h
  refine px_V (As := []) (rest := []) (gs := ([gX9 E a v_now v_tried v_kept v_undos v_saved v_isSaved v_line v_lined v_text v_length v_at v_order v_told v_error v_reason v_detail v_answer v_thrown v_mixed v_conflicts v_firstConflict] : List va_W)) (gr := ([] : List va_W)) (gc := ([gX9 E a v_now v_tried v_kept v_undos v_saved v_isSaved v_line v_lined v_text v_length v_at v_order v_told v_error v_reason v_detail v_answer v_thrown v_mixed v_conflicts v_firstConflict] : List va_W)) (g1 := ([gX9 E a v_now w1 v_kept v_undos v_saved v_isSaved v_line v_lined v_text v_length v_at v_order v_told v_error v_reason v_detail v_answer w2 v_mixed v_conflicts v_firstConflict] : List va_W)) (g2 := ([gX9 E a v_now w1 v_kept v_undos v_saved v_isSaved v_line v_lined v_text v_length v_at v_order v_told v_error v_reason v_detail v_answer w2 v_mixed v_conflicts v_firstConflict] : List va_W)) ⟨hx, hb, hml, hown, hts⟩ (c9_tries l E a   (v_now) (v_tried) (v_kept) (v_undos) (v_saved) (v_isSaved) (v_line) (v_lined) (v_text) (v_length) (v_at) (v_order) (v_told) (v_error) (v_reason) (v_detail) (v_answer) (v_thrown) (v_mixed) (v_conflicts) (v_firstConflict) w1 w2 hr3) (cwV 0 hts (ws_v q1270 q1272 q17 q68 q1273) rfl rfl rfl hdV_X9_tries (by rw [hR]; exact ⟨Nat.le_of_ble_eq_true rfl, Nat.le_of_ble_eq_true rfl⟩)) hK hN hP hD hS hA [] [0] [0] rfl rfl (by decide) (by decide) rfl (by decide) 0 9 rfl rfl rfl rfl hl.1 rfl (Nat.le_of_ble_eq_true rfl) dX9_reset_1 (by rw [hR]; exact ⟨Nat.le_of_ble_eq_true rfl, Nat.le_of_ble_eq_true rfl⟩) (fun H locs hP hD hS => ?_)
  refine W.eq (g2 := F0 m 4 ls []) rfl ?_
  refine lv_aload_n hx hb dX9_reset_4 rfl (lv_at hl 0 rfl) ?_
  refine lv_aload_n hx hb dX9_reset_5 rfl (lv_at hl 0 rfl) ?_
  refine lv_iload_n hx hb dX9_reset_6 rfl (lv_at hl 1 rfl) ?_
  refine lv_iload_n hx hb dX9_reset_7 rfl (lv_at hl 2 rfl) ?_
  obtain ⟨⟨r4, w5, w6, w7, w8⟩, hr9, h⟩ := ob h
  dsimp only at h
  refine px_V (As := [.int x1, .int x2]) (rest := [.ref (a 0)]) (gs := ([gX9 E a v_now w1 v_kept v_undos v_saved v_isSaved v_line v_lined v_text v_length v_at v_order v_told v_error v_reason v_detail v_answer w2 v_mixed v_conflicts v_firstConflict] : List va_W)) (gr := ([] : List va_W)) (gc := ([gX9 E a v_now w1 v_kept v_undos v_saved v_isSaved v_line v_lined v_text v_length v_at v_order v_told v_error v_reason v_detail v_answer w2 v_mixed v_conflicts v_firstConflict] : List va_W)) (g1 := ([gX9 E a w5 w1 v_kept v_undos v_saved v_isSaved v_line v_lined v_text v_length v_at v_order v_told v_error w6 w7 w8 w2 v_mixed v_conflicts v_firstConflict] : List va_W)) (g2 := ([gX9 E a w5 w1 v_kept v_undos v_saved v_isSaved v_line v_lined v_text v_length v_at v_order v_told v_error w6 w7 w8 w2 v_mixed v_conflicts v_firstConflict] : List va_W)) ⟨hx, hb, hml, hown, hts⟩ (c9_resets l E a  (x1) (x2) (v_now) (w1) (v_kept) (v_undos) (v_saved) (v_isSaved) (v_line) (v_lined) (v_text) (v_length) (v_at) (v_order) (v_told) (v_error) (v_reason) (v_detail) (v_answer) (w2) (v_mixed) (v_conflicts) (v_firstConflict) r4 w5 w6 w7 w8 hr9) (cwV 2 hts (ws_v q1340 q1342 q31 q68 q1343) rfl rfl rfl hdV_X9_resets (by rw [hR]; exact ⟨Nat.le_of_ble_eq_true rfl, Nat.le_of_ble_eq_true rfl⟩)) hK hN hP hD hS hA [] [0] [0] rfl rfl (by decide) (by decide) rfl (by decide) 0 9 rfl rfl rfl rfl hl.1 rfl (Nat.le_of_ble_eq_true rfl) dX9_reset_8 (by rw [hR]; exact ⟨Nat.le_of_ble_eq_true rfl, Nat.le_of_ble_eq_true rfl⟩) (fun H locs hP hD hS => ?_)
  refine W.eq (g2 := F0 m 11 ls [.int r4, .ref (a 0)]) rfl ?_
  obtain ⟨⟨r10, w11, w12, w13⟩, hr14, h⟩ := ob h
  dsimp only at h
  refine px_V (As := [.int r4]) (rest := []) (gs := ([gX9 E a w5 w1 v_kept v_undos v_saved v_isSaved v_line v_lined v_text v_length v_at v_order v_told v_error w6 w7 w8 w2 v_mixed v_conflicts v_firstConflict] : List va_W)) (gr := ([] : List va_W)) (gc := ([gX9 E a w5 w1 v_kept v_undos v_saved v_isSaved v_line v_lined v_text v_length v_at v_order v_told v_error w6 w7 w8 w2 v_mixed v_conflicts v_firstConflict] : List va_W)) (g1 := ([gX9 E a w5 w1 w11 w12 v_saved v_isSaved v_line v_lined v_text v_length v_at v_order v_told v_error w6 w7 w8 w13 v_mixed v_conflicts v_firstConflict] : List va_W)) (g2 := ([gX9 E a w5 w1 w11 w12 v_saved v_isSaved v_line v_lined v_text v_length v_at v_order v_told v_error w6 w7 w8 w13 v_mixed v_conflicts v_firstConflict] : List va_W)) ⟨hx, hb, hml, hown, hts⟩ (c9_endsAt l E a  (r4) (w5) (w1) (v_kept) (v_undos) (v_saved) (v_isSaved) (v_line) (v_lined) (v_text) (v_length) (v_at) (v_order) (v_told) (v_error) (w6) (w7) (w8) (w2) (v_mixed) (v_conflicts) (v_firstConflict) r10 w11 w12 w13 hr14) (cwV 1 hts (ws_v q1332 q1334 q30 q68 q1335) rfl rfl rfl hdV_X9_endsAt (by rw [hR]; exact ⟨Nat.le_of_ble_eq_true rfl, Nat.le_of_ble_eq_true rfl⟩)) hK hN hP hD hS hA [] [0] [0] rfl rfl (by decide) (by decide) rfl (by decide) 0 9 rfl rfl rfl rfl hl.1 rfl (Nat.le_of_ble_eq_true rfl) dX9_reset_11 (by rw [hR]; exact ⟨Nat.le_of_ble_eq_true rfl, Nat.le_of_ble_eq_true rfl⟩) (fun H locs hP hD hS => ?_)
  refine W.eq (g2 := F0 m 14 ls [.int r10]) rfl ?_
  cases h
  exact px_eWi hA0 hQ hP hD hS hx hb hr hlocks dX9_reset_14
def f9_tip (x1 : Int32) (v_now : AI) (v_thrown : Int32) : Option (Int32 × Int32) := ((f9_isBranch (x1) (v_now)).bind fun r1 => (if (b2i r1) = 0 then ((f9_raises ((nI 1)) ((nI 0))).bind fun (r4, w5) => (some (r4, w5))) else ((f9_top (x1) (v_now)).bind fun r7 => (some (r7, (nI 0))))))
set_option maxHeartbeats 4000000 in
set_option maxRecDepth 100000 in
theorem c9_tip (l : Launch) (E : PE) (a : Nat → Nat)  (x1 : Int32) (v_now : AI) (v_tried : AI) (v_kept : AI) (v_undos : Int32) (v_saved : AI) (v_isSaved : Int32) (v_line : AI) (v_lined : Int32) (v_text : AI) (v_length : Int32) (v_at : Int32) (v_order : Int32) (v_told : AI) (v_error : Int32) (v_reason : Int32) (v_detail : Int32) (v_answer : Int32) (v_thrown : Int32) (v_mixed : AI) (v_conflicts : Int32) (v_firstConflict : Int32) (r : Int32) (z_this_thrown : Int32) (h : f9_tip x1 v_now v_thrown = some (r, z_this_thrown)) : MW l yX9_tip cX9_tip 2 (some .int) { frames := 2, cells := 0, slots := 0, locals := 43 } E [.ref (a 0), .int x1] ([gX9 E a v_now v_tried v_kept v_undos v_saved v_isSaved v_line v_lined v_text v_length v_at v_order v_told v_error v_reason v_detail v_answer v_thrown v_mixed v_conflicts v_firstConflict] : List va_W).flatten 0 0 (some (.int r)) ([gX9 E a v_now v_tried v_kept v_undos v_saved v_isSaved v_line v_lined v_text v_length v_at v_order v_told v_error v_reason v_detail v_answer z_this_thrown v_mixed v_conflicts v_firstConflict] : List va_W).flatten := by
  refine px_startW (by decide +kernel) (Nat.le_of_ble_eq_true rfl) ?_
  intro p e s m args below meth c R Q A ls hC hA0 hQ
  obtain ⟨hx, hb, hr, hml, hts, hown, hlocks, hR, hK, hN, hP, hD, hA, hl, hin⟩ := hC
  have hl : lv_has ls 2 [(0, .ref (a 0)), (1, .int x1)] := hl
  suffices key : ∀ (H : Heap) (locs : List Loc), va_P E.1 vwCl ([gX9 E a v_now v_tried v_kept v_undos v_saved v_isSaved v_line v_lined v_text v_length v_at v_order v_told v_error v_reason v_detail v_answer v_thrown v_mixed v_conflicts v_firstConflict] : List va_W).flatten H → va_S A s.heap H locs → W p l e R s m args below meth c H locs 0 0 Q (F0 m 0 ls []) from key s.heap [] hP va_S.rf
  unfold f9_tip at h
  intro H locs hP hS
  refine lv_aload_n hx hb dX9_tip_0 rfl (lv_at hl 0 rfl) ?_
  refine lv_iconst (v := (nI 0)) hx hb dX9_tip_1 (by decide) ?_
  refine va_put (D := E.1) (ci := 9) (v := .int (nI 0)) (ty := .int) (C := RX9) (T := TX9) (N := 21) hx hb hts iX9 tyX9 tyX9_ok nmX9 hown hK hP hD hS 0 rfl rfl 17 (by decide) (hts _ q1215) (fun _ h9 => h9) rfl (tyX9_ok 17 (by decide)) rfl rfl (Nat.le_of_ble_eq_true rfl) dX9_tip_2 (fun H locs hP hD hS => ?_)
  have hP : va_P E.1 vwCl ([gX9 E a v_now v_tried v_kept v_undos v_saved v_isSaved v_line v_lined v_text v_length v_at v_order v_told v_error v_reason v_detail v_answer (nI 0) v_mixed v_conflicts v_firstConflict] : List va_W).flatten H := hP
  have hD : va_D A ([gX9 E a v_now v_tried v_kept v_undos v_saved v_isSaved v_line v_lined v_text v_length v_at v_order v_told v_error v_reason v_detail v_answer (nI 0) v_mixed v_conflicts v_firstConflict] : List va_W).flatten := hD
  refine lv_aload_n hx hb dX9_tip_5 rfl (lv_at hl 0 rfl) ?_
  refine lv_iload_n hx hb dX9_tip_6 rfl (lv_at hl 1 rfl) ?_
  obtain ⟨r1, hr2, h⟩ := ob h
  refine px_Vp (As := [.int x1]) (rest := []) (gs := ([gX9 E a v_now v_tried v_kept v_undos v_saved v_isSaved v_line v_lined v_text v_length v_at v_order v_told v_error v_reason v_detail v_answer (nI 0) v_mixed v_conflicts v_firstConflict] : List va_W)) (gc := ([gX9 E a v_now v_tried v_kept v_undos v_saved v_isSaved v_line v_lined v_text v_length v_at v_order v_told v_error v_reason v_detail v_answer (nI 0) v_mixed v_conflicts v_firstConflict] : List va_W)) ⟨hx, hb, hml, hown, hts⟩ (c9_isBranch l E a  (x1) (v_now) (v_tried) (v_kept) (v_undos) (v_saved) (v_isSaved) (v_line) (v_lined) (v_text) (v_length) (v_at) (v_order) (v_told) (v_error) (v_reason) (v_detail) (v_answer) ((nI 0)) (v_mixed) (v_conflicts) (v_firstConflict) r1 hr2) (cwV 1 hts (ws_v q1278 q1280 q19 q68 q1281) rfl rfl rfl hdV_X9_isBranch (by rw [hR]; exact ⟨Nat.le_of_ble_eq_true rfl, Nat.le_of_ble_eq_true rfl⟩)) hK hN hP hD [0] rfl (by decide) 0 9 rfl rfl rfl rfl hl.1 rfl (Nat.le_of_ble_eq_true rfl) dX9_tip_7 (by rw [hR]; exact ⟨Nat.le_of_ble_eq_true rfl, Nat.le_of_ble_eq_true rfl⟩) ?_
  refine W.eq (g2 := F0 m 10 ls [.int (b2i r1)]) rfl ?_
  refine lv_if_eq (tgt := 21) hx hb dX9_tip_10 (by decide) (fun c3 => ?_) (fun c3 => ?_)
  · rw [if_pos c3] at h
    refine lv_aload_n hx hb dX9_tip_21 rfl (lv_at hl 0 rfl) ?_
    refine lv_iconst (v := (nI 1)) hx hb dX9_tip_22 (by decide) ?_
    obtain ⟨⟨r4, w5⟩, hr6, h⟩ := ob h
    dsimp only at h
    refine px_V (As := [.int (nI 1)]) (rest := []) (gs := ([gX9 E a v_now v_tried v_kept v_undos v_saved v_isSaved v_line v_lined v_text v_length v_at v_order v_told v_error v_reason v_detail v_answer (nI 0) v_mixed v_conflicts v_firstConflict] : List va_W)) (gr := ([] : List va_W)) (gc := ([gX9 E a v_now v_tried v_kept v_undos v_saved v_isSaved v_line v_lined v_text v_length v_at v_order v_told v_error v_reason v_detail v_answer (nI 0) v_mixed v_conflicts v_firstConflict] : List va_W)) (g1 := ([gX9 E a v_now v_tried v_kept v_undos v_saved v_isSaved v_line v_lined v_text v_length v_at v_order v_told v_error v_reason v_detail v_answer w5 v_mixed v_conflicts v_firstConflict] : List va_W)) (g2 := ([gX9 E a v_now v_tried v_kept v_undos v_saved v_isSaved v_line v_lined v_text v_length v_at v_order v_told v_error v_reason v_detail v_answer w5 v_mixed v_conflicts v_firstConflict] : List va_W)) ⟨hx, hb, hml, hown, hts⟩ (c9_raises l E a  ((nI 1)) (v_now) (v_tried) (v_kept) (v_undos) (v_saved) (v_isSaved) (v_line) (v_lined) (v_text) (v_length) (v_at) (v_order) (v_told) (v_error) (v_reason) (v_detail) (v_answer) ((nI 0)) (v_mixed) (v_conflicts) (v_firstConflict) r4 w5 hr6) (cwV 1 hts (ws_v q1320 q1322 q28 q68 q1323) rfl rfl rfl hdV_X9_raises (by rw [hR]; exact ⟨Nat.le_of_ble_eq_true rfl, Nat.le_of_ble_eq_true rfl⟩)) hK hN hP hD hS hA [] [0] [0] rfl rfl (by decide) (by decide) rfl (by decide) 0 9 rfl rfl rfl rfl hl.1 rfl (Nat.le_of_ble_eq_true rfl) dX9_tip_23 (by rw [hR]; exact ⟨Nat.le_of_ble_eq_true rfl, Nat.le_of_ble_eq_true rfl⟩) (fun H locs hP hD hS => ?_)
    refine W.eq (g2 := F0 m 26 ls [.int r4]) rfl ?_
    cases h
    exact px_eWi hA0 hQ hP hD hS hx hb hr hlocks dX9_tip_26
  · rw [if_neg c3] at h
    refine lv_aload_n hx hb dX9_tip_13 rfl (lv_at hl 0 rfl) ?_
    refine lv_iload_n hx hb dX9_tip_14 rfl (lv_at hl 1 rfl) ?_
    obtain ⟨r7, hr8, h⟩ := ob h
    refine px_Vp (As := [.int x1]) (rest := []) (gs := ([gX9 E a v_now v_tried v_kept v_undos v_saved v_isSaved v_line v_lined v_text v_length v_at v_order v_told v_error v_reason v_detail v_answer (nI 0) v_mixed v_conflicts v_firstConflict] : List va_W)) (gc := ([gX9 E a v_now v_tried v_kept v_undos v_saved v_isSaved v_line v_lined v_text v_length v_at v_order v_told v_error v_reason v_detail v_answer (nI 0) v_mixed v_conflicts v_firstConflict] : List va_W)) ⟨hx, hb, hml, hown, hts⟩ (c9_top l E a  (x1) (v_now) (v_tried) (v_kept) (v_undos) (v_saved) (v_isSaved) (v_line) (v_lined) (v_text) (v_length) (v_at) (v_order) (v_told) (v_error) (v_reason) (v_detail) (v_answer) ((nI 0)) (v_mixed) (v_conflicts) (v_firstConflict) r7 hr8) (cwV 1 hts (ws_v q1288 q1290 q20 q68 q1291) rfl rfl rfl hdV_X9_top (by rw [hR]; exact ⟨Nat.le_of_ble_eq_true rfl, Nat.le_of_ble_eq_true rfl⟩)) hK hN hP hD [0] rfl (by decide) 0 9 rfl rfl rfl rfl hl.1 rfl (Nat.le_of_ble_eq_true rfl) dX9_tip_15 (by rw [hR]; exact ⟨Nat.le_of_ble_eq_true rfl, Nat.le_of_ble_eq_true rfl⟩) ?_
    refine W.eq (g2 := F0 m 18 ls [.int r7]) rfl ?_
    refine lv_goto (tgt := 26) hx hb dX9_tip_18 (by decide) ?_
    cases h
    exact px_eWi hA0 hQ hP hD hS hx hb hr hlocks dX9_tip_26
def f9_amount (x1 : Int32) (x2 : Int32) (v_now : AI) (v_thrown : Int32) : Option (Int32 × Int32) := ((f9_isCommit (x1) (v_now)).bind fun r1 => (if (b2i r1) = 0 then ((f9_raises ((nI 1)) ((nI 0))).bind fun (r4, w5) => (some (r4, w5))) else ((f9_isKind (x2)).bind fun r7 => (if (b2i r7) = 0 then ((f9_raises ((nI 1)) ((nI 0))).bind fun (r10, w11) => (some (r10, w11))) else ((f9_has (x1) (x2) (v_now)).bind fun r13 => (some (r13, (nI 0))))))))
set_option maxHeartbeats 4000000 in
set_option maxRecDepth 100000 in
theorem c9_amount (l : Launch) (E : PE) (a : Nat → Nat)  (x1 : Int32) (x2 : Int32) (v_now : AI) (v_tried : AI) (v_kept : AI) (v_undos : Int32) (v_saved : AI) (v_isSaved : Int32) (v_line : AI) (v_lined : Int32) (v_text : AI) (v_length : Int32) (v_at : Int32) (v_order : Int32) (v_told : AI) (v_error : Int32) (v_reason : Int32) (v_detail : Int32) (v_answer : Int32) (v_thrown : Int32) (v_mixed : AI) (v_conflicts : Int32) (v_firstConflict : Int32) (r : Int32) (z_this_thrown : Int32) (h : f9_amount x1 x2 v_now v_thrown = some (r, z_this_thrown)) : MW l yX9_amount cX9_amount 3 (some .int) { frames := 2, cells := 0, slots := 0, locals := 44 } E [.ref (a 0), .int x1, .int x2] ([gX9 E a v_now v_tried v_kept v_undos v_saved v_isSaved v_line v_lined v_text v_length v_at v_order v_told v_error v_reason v_detail v_answer v_thrown v_mixed v_conflicts v_firstConflict] : List va_W).flatten 0 0 (some (.int r)) ([gX9 E a v_now v_tried v_kept v_undos v_saved v_isSaved v_line v_lined v_text v_length v_at v_order v_told v_error v_reason v_detail v_answer z_this_thrown v_mixed v_conflicts v_firstConflict] : List va_W).flatten := by
  refine px_startW (by decide +kernel) (Nat.le_of_ble_eq_true rfl) ?_
  intro p e s m args below meth c R Q A ls hC hA0 hQ
  obtain ⟨hx, hb, hr, hml, hts, hown, hlocks, hR, hK, hN, hP, hD, hA, hl, hin⟩ := hC
  have hl : lv_has ls 3 [(0, .ref (a 0)), (1, .int x1), (2, .int x2)] := hl
  suffices key : ∀ (H : Heap) (locs : List Loc), va_P E.1 vwCl ([gX9 E a v_now v_tried v_kept v_undos v_saved v_isSaved v_line v_lined v_text v_length v_at v_order v_told v_error v_reason v_detail v_answer v_thrown v_mixed v_conflicts v_firstConflict] : List va_W).flatten H → va_S A s.heap H locs → W p l e R s m args below meth c H locs 0 0 Q (F0 m 0 ls []) from key s.heap [] hP va_S.rf
  unfold f9_amount at h
  intro H locs hP hS
  refine lv_aload_n hx hb dX9_amount_0 rfl (lv_at hl 0 rfl) ?_
  refine lv_iconst (v := (nI 0)) hx hb dX9_amount_1 (by decide) ?_
  refine va_put (D := E.1) (ci := 9) (v := .int (nI 0)) (ty := .int) (C := RX9) (T := TX9) (N := 21) hx hb hts iX9 tyX9 tyX9_ok nmX9 hown hK hP hD hS 0 rfl rfl 17 (by decide) (hts _ q1215) (fun _ h9 => h9) rfl (tyX9_ok 17 (by decide)) rfl rfl (Nat.le_of_ble_eq_true rfl) dX9_amount_2 (fun H locs hP hD hS => ?_)
  have hP : va_P E.1 vwCl ([gX9 E a v_now v_tried v_kept v_undos v_saved v_isSaved v_line v_lined v_text v_length v_at v_order v_told v_error v_reason v_detail v_answer (nI 0) v_mixed v_conflicts v_firstConflict] : List va_W).flatten H := hP
  have hD : va_D A ([gX9 E a v_now v_tried v_kept v_undos v_saved v_isSaved v_line v_lined v_text v_length v_at v_order v_told v_error v_reason v_detail v_answer (nI 0) v_mixed v_conflicts v_firstConflict] : List va_W).flatten := hD
  refine lv_aload_n hx hb dX9_amount_5 rfl (lv_at hl 0 rfl) ?_
  refine lv_iload_n hx hb dX9_amount_6 rfl (lv_at hl 1 rfl) ?_
  obtain ⟨r1, hr2, h⟩ := ob h
  refine px_Vp (As := [.int x1]) (rest := []) (gs := ([gX9 E a v_now v_tried v_kept v_undos v_saved v_isSaved v_line v_lined v_text v_length v_at v_order v_told v_error v_reason v_detail v_answer (nI 0) v_mixed v_conflicts v_firstConflict] : List va_W)) (gc := ([gX9 E a v_now v_tried v_kept v_undos v_saved v_isSaved v_line v_lined v_text v_length v_at v_order v_told v_error v_reason v_detail v_answer (nI 0) v_mixed v_conflicts v_firstConflict] : List va_W)) ⟨hx, hb, hml, hown, hts⟩ (c9_isCommit l E a  (x1) (v_now) (v_tried) (v_kept) (v_undos) (v_saved) (v_isSaved) (v_line) (v_lined) (v_text) (v_length) (v_at) (v_order) (v_told) (v_error) (v_reason) (v_detail) (v_answer) ((nI 0)) (v_mixed) (v_conflicts) (v_firstConflict) r1 hr2) (cwV 1 hts (ws_v q1344 q1346 q32 q68 q1347) rfl rfl rfl hdV_X9_isCommit (by rw [hR]; exact ⟨Nat.le_of_ble_eq_true rfl, Nat.le_of_ble_eq_true rfl⟩)) hK hN hP hD [0] rfl (by decide) 0 9 rfl rfl rfl rfl hl.1 rfl (Nat.le_of_ble_eq_true rfl) dX9_amount_7 (by rw [hR]; exact ⟨Nat.le_of_ble_eq_true rfl, Nat.le_of_ble_eq_true rfl⟩) ?_
  refine W.eq (g2 := F0 m 10 ls [.int (b2i r1)]) rfl ?_
  refine lv_if_eq (tgt := 29) hx hb dX9_amount_10 (by decide) (fun c3 => ?_) (fun c3 => ?_)
  · rw [if_pos c3] at h
    refine lv_aload_n hx hb dX9_amount_29 rfl (lv_at hl 0 rfl) ?_
    refine lv_iconst (v := (nI 1)) hx hb dX9_amount_30 (by decide) ?_
    obtain ⟨⟨r4, w5⟩, hr6, h⟩ := ob h
    dsimp only at h
    refine px_V (As := [.int (nI 1)]) (rest := []) (gs := ([gX9 E a v_now v_tried v_kept v_undos v_saved v_isSaved v_line v_lined v_text v_length v_at v_order v_told v_error v_reason v_detail v_answer (nI 0) v_mixed v_conflicts v_firstConflict] : List va_W)) (gr := ([] : List va_W)) (gc := ([gX9 E a v_now v_tried v_kept v_undos v_saved v_isSaved v_line v_lined v_text v_length v_at v_order v_told v_error v_reason v_detail v_answer (nI 0) v_mixed v_conflicts v_firstConflict] : List va_W)) (g1 := ([gX9 E a v_now v_tried v_kept v_undos v_saved v_isSaved v_line v_lined v_text v_length v_at v_order v_told v_error v_reason v_detail v_answer w5 v_mixed v_conflicts v_firstConflict] : List va_W)) (g2 := ([gX9 E a v_now v_tried v_kept v_undos v_saved v_isSaved v_line v_lined v_text v_length v_at v_order v_told v_error v_reason v_detail v_answer w5 v_mixed v_conflicts v_firstConflict] : List va_W)) ⟨hx, hb, hml, hown, hts⟩ (c9_raises l E a  ((nI 1)) (v_now) (v_tried) (v_kept) (v_undos) (v_saved) (v_isSaved) (v_line) (v_lined) (v_text) (v_length) (v_at) (v_order) (v_told) (v_error) (v_reason) (v_detail) (v_answer) ((nI 0)) (v_mixed) (v_conflicts) (v_firstConflict) r4 w5 hr6) (cwV 1 hts (ws_v q1320 q1322 q28 q68 q1323) rfl rfl rfl hdV_X9_raises (by rw [hR]; exact ⟨Nat.le_of_ble_eq_true rfl, Nat.le_of_ble_eq_true rfl⟩)) hK hN hP hD hS hA [] [0] [0] rfl rfl (by decide) (by decide) rfl (by decide) 0 9 rfl rfl rfl rfl hl.1 rfl (Nat.le_of_ble_eq_true rfl) dX9_amount_31 (by rw [hR]; exact ⟨Nat.le_of_ble_eq_true rfl, Nat.le_of_ble_eq_true rfl⟩) (fun H locs hP hD hS => ?_)
    refine W.eq (g2 := F0 m 34 ls [.int r4]) rfl ?_
    cases h
    exact px_eWi hA0 hQ hP hD hS hx hb hr hlocks dX9_amount_34
  · rw [if_neg c3] at h
    refine lv_iload_n hx hb dX9_amount_13 rfl (lv_at hl 2 rfl) ?_
    obtain ⟨r7, hr8, h⟩ := ob h
    refine px_Sp (As := [.int x2]) (rest := []) (gs := ([gX9 E a v_now v_tried v_kept v_undos v_saved v_isSaved v_line v_lined v_text v_length v_at v_order v_told v_error v_reason v_detail v_answer (nI 0) v_mixed v_conflicts v_firstConflict] : List va_W)) (gc := ([] : List va_W)) ⟨hx, hb, hml, hown, hts⟩ (c9_isKind l E   (x2)  r7 hr8) (va_cwS 1 hts (ws_s q1285 q1286 q68 q1287) rfl rfl rfl hdS_X9_isKind (by rw [hR]; exact ⟨Nat.le_of_ble_eq_true rfl, Nat.le_of_ble_eq_true rfl⟩)) hK hN hP hD [] rfl (by decide) rfl hl.1 rfl (Nat.le_of_ble_eq_true rfl) dX9_amount_14 (by rw [hR]; exact ⟨Nat.le_of_ble_eq_true rfl, Nat.le_of_ble_eq_true rfl⟩) ?_
    refine W.eq (g2 := F0 m 17 ls [.int (b2i r7)]) rfl ?_
    refine lv_if_eq (tgt := 29) hx hb dX9_amount_17 (by decide) (fun c9 => ?_) (fun c9 => ?_)
    · rw [if_pos c9] at h
      refine lv_aload_n hx hb dX9_amount_29 rfl (lv_at hl 0 rfl) ?_
      refine lv_iconst (v := (nI 1)) hx hb dX9_amount_30 (by decide) ?_
      obtain ⟨⟨r10, w11⟩, hr12, h⟩ := ob h
      dsimp only at h
      refine px_V (As := [.int (nI 1)]) (rest := []) (gs := ([gX9 E a v_now v_tried v_kept v_undos v_saved v_isSaved v_line v_lined v_text v_length v_at v_order v_told v_error v_reason v_detail v_answer (nI 0) v_mixed v_conflicts v_firstConflict] : List va_W)) (gr := ([] : List va_W)) (gc := ([gX9 E a v_now v_tried v_kept v_undos v_saved v_isSaved v_line v_lined v_text v_length v_at v_order v_told v_error v_reason v_detail v_answer (nI 0) v_mixed v_conflicts v_firstConflict] : List va_W)) (g1 := ([gX9 E a v_now v_tried v_kept v_undos v_saved v_isSaved v_line v_lined v_text v_length v_at v_order v_told v_error v_reason v_detail v_answer w11 v_mixed v_conflicts v_firstConflict] : List va_W)) (g2 := ([gX9 E a v_now v_tried v_kept v_undos v_saved v_isSaved v_line v_lined v_text v_length v_at v_order v_told v_error v_reason v_detail v_answer w11 v_mixed v_conflicts v_firstConflict] : List va_W)) ⟨hx, hb, hml, hown, hts⟩ (c9_raises l E a  ((nI 1)) (v_now) (v_tried) (v_kept) (v_undos) (v_saved) (v_isSaved) (v_line) (v_lined) (v_text) (v_length) (v_at) (v_order) (v_told) (v_error) (v_reason) (v_detail) (v_answer) ((nI 0)) (v_mixed) (v_conflicts) (v_firstConflict) r10 w11 hr12) (cwV 1 hts (ws_v q1320 q1322 q28 q68 q1323) rfl rfl rfl hdV_X9_raises (by rw [hR]; exact ⟨Nat.le_of_ble_eq_true rfl, Nat.le_of_ble_eq_true rfl⟩)) hK hN hP hD hS hA [] [0] [0] rfl rfl (by decide) (by decide) rfl (by decide) 0 9 rfl rfl rfl rfl hl.1 rfl (Nat.le_of_ble_eq_true rfl) dX9_amount_31 (by rw [hR]; exact ⟨Nat.le_of_ble_eq_true rfl, Nat.le_of_ble_eq_true rfl⟩) (fun H locs hP hD hS => ?_)
      refine W.eq (g2 := F0 m 34 ls [.int r10]) rfl ?_
      cases h
      exact px_eWi hA0 hQ hP hD hS hx hb hr hlocks dX9_amount_34
    · rw [if_neg c9] at h
      refine lv_aload_n hx hb dX9_amount_20 rfl (lv_at hl 0 rfl) ?_
      refine lv_iload_n hx hb dX9_amount_21 rfl (lv_at hl 1 rfl) ?_
      refine lv_iload_n hx hb dX9_amount_22 rfl (lv_at hl 2 rfl) ?_
      obtain ⟨r13, hr14, h⟩ := ob h
      refine px_Vp (As := [.int x1, .int x2]) (rest := []) (gs := ([gX9 E a v_now v_tried v_kept v_undos v_saved v_isSaved v_line v_lined v_text v_length v_at v_order v_told v_error v_reason v_detail v_answer (nI 0) v_mixed v_conflicts v_firstConflict] : List va_W)) (gc := ([gX9 E a v_now v_tried v_kept v_undos v_saved v_isSaved v_line v_lined v_text v_length v_at v_order v_told v_error v_reason v_detail v_answer (nI 0) v_mixed v_conflicts v_firstConflict] : List va_W)) ⟨hx, hb, hml, hown, hts⟩ (c9_has l E a  (x1) (x2) (v_now) (v_tried) (v_kept) (v_undos) (v_saved) (v_isSaved) (v_line) (v_lined) (v_text) (v_length) (v_at) (v_order) (v_told) (v_error) (v_reason) (v_detail) (v_answer) ((nI 0)) (v_mixed) (v_conflicts) (v_firstConflict) r13 hr14) (cwV 2 hts (ws_v q1292 q1294 q21 q68 q1295) rfl rfl rfl hdV_X9_has (by rw [hR]; exact ⟨Nat.le_of_ble_eq_true rfl, Nat.le_of_ble_eq_true rfl⟩)) hK hN hP hD [0] rfl (by decide) 0 9 rfl rfl rfl rfl hl.1 rfl (Nat.le_of_ble_eq_true rfl) dX9_amount_23 (by rw [hR]; exact ⟨Nat.le_of_ble_eq_true rfl, Nat.le_of_ble_eq_true rfl⟩) ?_
      refine W.eq (g2 := F0 m 26 ls [.int r13]) rfl ?_
      refine lv_goto (tgt := 34) hx hb dX9_amount_26 (by decide) ?_
      cases h
      exact px_eWi hA0 hQ hP hD hS hx hb hr hlocks dX9_amount_34
def f9_unlike_L5 (x1 : Int32) (x2 : Int32) (v_now : AI) : Nat → Int32 → Int32 → Option (Int32)
  | 0, _, _ => none
  | n + 1, x3, x4 => (if (nI 6) ≤ x4 then (some x3) else ((f9_has (x1) (x4) (v_now)).bind fun r2 => ((f9_has (x2) (x4) (v_now)).bind fun r4 => (if r2 = r4 then (f9_unlike_L5 x1 x2 v_now n (x3) ((x4 + nI 1))) else (f9_unlike_L5 x1 x2 v_now n ((x3 + nI 1)) ((x4 + nI 1)))))))
def f9_unlike (x1 : Int32) (x2 : Int32) (v_now : AI) : Option (Int32) := (f9_unlike_L5 x1 x2 v_now fuel ((nI 0)) ((nI 0)))
set_option maxHeartbeats 4000000 in
set_option maxRecDepth 100000 in
theorem c9_unlike (l : Launch) (E : PE) (a : Nat → Nat)  (x1 : Int32) (x2 : Int32) (v_now : AI) (v_tried : AI) (v_kept : AI) (v_undos : Int32) (v_saved : AI) (v_isSaved : Int32) (v_line : AI) (v_lined : Int32) (v_text : AI) (v_length : Int32) (v_at : Int32) (v_order : Int32) (v_told : AI) (v_error : Int32) (v_reason : Int32) (v_detail : Int32) (v_answer : Int32) (v_thrown : Int32) (v_mixed : AI) (v_conflicts : Int32) (v_firstConflict : Int32) (r : Int32) (h : f9_unlike x1 x2 v_now = some r) : MP l yX9_unlike cX9_unlike 5 (some .int) { frames := 2, cells := 0, slots := 0, locals := 44 } E [.ref (a 0), .int x1, .int x2] ([gX9 E a v_now v_tried v_kept v_undos v_saved v_isSaved v_line v_lined v_text v_length v_at v_order v_told v_error v_reason v_detail v_answer v_thrown v_mixed v_conflicts v_firstConflict] : List va_W).flatten (some (.int r)) := by
  refine px_startP (by decide +kernel) (Nat.le_of_ble_eq_true rfl) ?_
  intro p e s m args below meth c R Q A ls hC hQ
  obtain ⟨hx, hb, hr, hml, hts, hown, hlocks, hR, hK, hN, hP, hD, hA, hl, hin⟩ := hC
  have hl : lv_has ls 5 [(0, .ref (a 0)), (1, .int x1), (2, .int x2)] := hl
  unfold f9_unlike at h
  have L5 : ∀ (n : Nat) (x3 : Int32) (x4 : Int32) (ls : Array Slot), lv_has ls 5 [(0, .ref (a 0)), (1, .int x1), (2, .int x2), (3, .int x3), (4, .int x4)] → f9_unlike_L5 x1 x2 v_now n x3 x4 = some r → W p l e R s m args below meth c s.heap [] 0 0 Q (F0 m 5 ls []) := by
    intro n
    induction n with
    | zero =>
      intro x3 x4 ls hl h
      unfold f9_unlike_L5 at h; cases h
    | succ n ih =>
      intro x3 x4 ls hl h
      unfold f9_unlike_L5 at h
      refine lv_iload hx hb dX9_unlike_5 (lv_at hl 4 rfl) ?_
      refine lv_bipush (v := (nI 6)) hx hb dX9_unlike_7 (by decide) ?_
      refine lv_icmp_ge (tgt := 38) hx hb dX9_unlike_9 (by decide) (fun c1 => ?_) (fun c1 => ?_)
      · rw [if_pos c1] at h
        refine lv_iload_n hx hb dX9_unlike_38 rfl (lv_at hl 3 rfl) ?_
        cases h
        exact px_ePi hQ hx hb hr hlocks dX9_unlike_39
      · rw [if_neg c1] at h
        refine lv_aload_n hx hb dX9_unlike_12 rfl (lv_at hl 0 rfl) ?_
        refine lv_iload_n hx hb dX9_unlike_13 rfl (lv_at hl 1 rfl) ?_
        refine lv_iload hx hb dX9_unlike_14 (lv_at hl 4 rfl) ?_
        obtain ⟨r2, hr3, h⟩ := ob h
        refine px_Vp (As := [.int x1, .int x4]) (rest := []) (gs := ([gX9 E a v_now v_tried v_kept v_undos v_saved v_isSaved v_line v_lined v_text v_length v_at v_order v_told v_error v_reason v_detail v_answer v_thrown v_mixed v_conflicts v_firstConflict] : List va_W)) (gc := ([gX9 E a v_now v_tried v_kept v_undos v_saved v_isSaved v_line v_lined v_text v_length v_at v_order v_told v_error v_reason v_detail v_answer v_thrown v_mixed v_conflicts v_firstConflict] : List va_W)) ⟨hx, hb, hml, hown, hts⟩ (c9_has l E a  (x1) (x4) (v_now) (v_tried) (v_kept) (v_undos) (v_saved) (v_isSaved) (v_line) (v_lined) (v_text) (v_length) (v_at) (v_order) (v_told) (v_error) (v_reason) (v_detail) (v_answer) (v_thrown) (v_mixed) (v_conflicts) (v_firstConflict) r2 hr3) (cwV 2 hts (ws_v q1292 q1294 q21 q68 q1295) rfl rfl rfl hdV_X9_has (by rw [hR]; exact ⟨Nat.le_of_ble_eq_true rfl, Nat.le_of_ble_eq_true rfl⟩)) hK hN hP hD [0] rfl (by decide) 0 9 rfl rfl rfl rfl hl.1 rfl (Nat.le_of_ble_eq_true rfl) dX9_unlike_16 (by rw [hR]; exact ⟨Nat.le_of_ble_eq_true rfl, Nat.le_of_ble_eq_true rfl⟩) ?_
        refine W.eq (g2 := F0 m 19 ls [.int r2]) rfl ?_
        refine lv_aload_n hx hb dX9_unlike_19 rfl (lv_at hl 0 rfl) ?_
        refine lv_iload_n hx hb dX9_unlike_20 rfl (lv_at hl 2 rfl) ?_
        refine lv_iload hx hb dX9_unlike_21 (lv_at hl 4 rfl) ?_
        obtain ⟨r4, hr5, h⟩ := ob h
        refine px_Vp (As := [.int x2, .int x4]) (rest := [.int r2]) (gs := ([gX9 E a v_now v_tried v_kept v_undos v_saved v_isSaved v_line v_lined v_text v_length v_at v_order v_told v_error v_reason v_detail v_answer v_thrown v_mixed v_conflicts v_firstConflict] : List va_W)) (gc := ([gX9 E a v_now v_tried v_kept v_undos v_saved v_isSaved v_line v_lined v_text v_length v_at v_order v_told v_error v_reason v_detail v_answer v_thrown v_mixed v_conflicts v_firstConflict] : List va_W)) ⟨hx, hb, hml, hown, hts⟩ (c9_has l E a  (x2) (x4) (v_now) (v_tried) (v_kept) (v_undos) (v_saved) (v_isSaved) (v_line) (v_lined) (v_text) (v_length) (v_at) (v_order) (v_told) (v_error) (v_reason) (v_detail) (v_answer) (v_thrown) (v_mixed) (v_conflicts) (v_firstConflict) r4 hr5) (cwV 2 hts (ws_v q1292 q1294 q21 q68 q1295) rfl rfl rfl hdV_X9_has (by rw [hR]; exact ⟨Nat.le_of_ble_eq_true rfl, Nat.le_of_ble_eq_true rfl⟩)) hK hN hP hD [0] rfl (by decide) 0 9 rfl rfl rfl rfl hl.1 rfl (Nat.le_of_ble_eq_true rfl) dX9_unlike_23 (by rw [hR]; exact ⟨Nat.le_of_ble_eq_true rfl, Nat.le_of_ble_eq_true rfl⟩) ?_
        refine W.eq (g2 := F0 m 26 ls [.int r4, .int r2]) rfl ?_
        refine lv_icmp_eq (tgt := 32) hx hb dX9_unlike_26 (by decide) (fun c6 => ?_) (fun c6 => ?_)
        · rw [if_pos c6] at h
          refine lv_iinc (v := (x4 + nI 1)) (lv' := [(4, .int (x4 + nI 1)), (0, .ref (a 0)), (1, .int x1), (2, .int x2), (3, .int x3)]) hx hb dX9_unlike_32 hl (k := 4) rfl rfl (by decide) rfl (fun ls hl => ?_)
          refine lv_goto (tgt := 5) hx hb dX9_unlike_35 (by decide) ?_
          exact ih (x3) ((x4 + nI 1)) ls (lv_sub hl [1, 2, 3, 4, 0] rfl) h
        · rw [if_neg c6] at h
          refine lv_iinc (v := (x3 + nI 1)) (lv' := [(3, .int (x3 + nI 1)), (0, .ref (a 0)), (1, .int x1), (2, .int x2), (4, .int x4)]) hx hb dX9_unlike_29 hl (k := 3) rfl rfl (by decide) rfl (fun ls hl => ?_)
          refine lv_iinc (v := (x4 + nI 1)) (lv' := [(4, .int (x4 + nI 1)), (3, .int (x3 + nI 1)), (0, .ref (a 0)), (1, .int x1), (2, .int x2)]) hx hb dX9_unlike_32 hl (k := 4) rfl rfl (by decide) rfl (fun ls hl => ?_)
          refine lv_goto (tgt := 5) hx hb dX9_unlike_35 (by decide) ?_
          exact ih ((x3 + nI 1)) ((x4 + nI 1)) ls (lv_sub hl [2, 3, 4, 1, 0] rfl) h
  refine lv_iconst (v := (nI 0)) hx hb dX9_unlike_0 (by decide) ?_
  refine lv_istore_n (lv' := [(3, .int (nI 0)), (0, .ref (a 0)), (1, .int x1), (2, .int x2)]) hx hb dX9_unlike_1 rfl hl (by decide) rfl (fun ls hl => ?_)
  refine lv_iconst (v := (nI 0)) hx hb dX9_unlike_2 (by decide) ?_
  refine lv_istore (lv' := [(4, .int (nI 0)), (3, .int (nI 0)), (0, .ref (a 0)), (1, .int x1), (2, .int x2)]) hx hb dX9_unlike_3 hl (by decide) rfl (fun ls hl => ?_)
  exact L5 fuel ((nI 0)) ((nI 0)) ls (lv_sub hl [2, 3, 4, 1, 0] rfl) h
def f9_deep_L7 (x1 : Int32) (v_now : AI) : Nat → Int32 → AI → Option (Int32)
  | 0, _, _ => none
  | n + 1, x3, d0 => (if x1 < x3 then (if inb x1 24 = true then (some (d0 (x1).toNatClampNeg)) else none) else ((f9_of (x3) ((nI 1)) (v_now)).bind fun r4 => (if inb r4 24 = true then (if inb x3 24 = true then (lt (upd d0 (x3).toNatClampNeg ((d0 (r4).toNatClampNeg) + (nI 1))) fun u8 => ((f9_of (x3) ((nI 2)) (v_now)).bind fun r10 => (if r10 < 0 then (f9_deep_L7 x1 v_now n ((x3 + nI 1)) (u8)) else (if inb x3 24 = true then ((f9_of (x3) ((nI 2)) (v_now)).bind fun r14 => (if inb r14 24 = true then (if inb x3 24 = true then (lt (upd u8 (x3).toNatClampNeg (if (u8 (x3).toNatClampNeg) < ((u8 (r14).toNatClampNeg) + (nI 1)) then ((u8 (r14).toNatClampNeg) + (nI 1)) else (u8 (x3).toNatClampNeg))) fun u18 => (f9_deep_L7 x1 v_now n ((x3 + nI 1)) (u18))) else none) else none)) else none)))) else none) else none)))
def f9_deep (x1 : Int32) (v_now : AI) : Option (Int32) := (f9_deep_L7 x1 v_now fuel ((nI 1)) ((fun _ => 0)))
set_option maxHeartbeats 4000000 in
set_option maxRecDepth 100000 in
theorem c9_deep (l : Launch) (E : PE) (a : Nat → Nat)  (x1 : Int32) (v_now : AI) (v_tried : AI) (v_kept : AI) (v_undos : Int32) (v_saved : AI) (v_isSaved : Int32) (v_line : AI) (v_lined : Int32) (v_text : AI) (v_length : Int32) (v_at : Int32) (v_order : Int32) (v_told : AI) (v_error : Int32) (v_reason : Int32) (v_detail : Int32) (v_answer : Int32) (v_thrown : Int32) (v_mixed : AI) (v_conflicts : Int32) (v_firstConflict : Int32) (r : Int32) (h : f9_deep x1 v_now = some r) : MW l yX9_deep cX9_deep 4 (some .int) { frames := 1, cells := 1, slots := 24, locals := 22 } E [.ref (a 0), .int x1] ([gX9 E a v_now v_tried v_kept v_undos v_saved v_isSaved v_line v_lined v_text v_length v_at v_order v_told v_error v_reason v_detail v_answer v_thrown v_mixed v_conflicts v_firstConflict] : List va_W).flatten 1 24 (some (.int r)) ([gX9 E a v_now v_tried v_kept v_undos v_saved v_isSaved v_line v_lined v_text v_length v_at v_order v_told v_error v_reason v_detail v_answer v_thrown v_mixed v_conflicts v_firstConflict] : List va_W).flatten := by
  refine px_startW (by decide +kernel) (Nat.le_of_ble_eq_true rfl) ?_
  intro p e s m args below meth c R Q A ls hC hA0 hQ
  obtain ⟨hx, hb, hr, hml, hts, hown, hlocks, hR, hK, hN, hP, hD, hA, hl, hin⟩ := hC
  have hl : lv_has ls 4 [(0, .ref (a 0)), (1, .int x1)] := hl
  suffices key : ∀ (H : Heap) (locs : List Loc), va_P E.1 vwCl ([gX9 E a v_now v_tried v_kept v_undos v_saved v_isSaved v_line v_lined v_text v_length v_at v_order v_told v_error v_reason v_detail v_answer v_thrown v_mixed v_conflicts v_firstConflict] : List va_W).flatten H → va_S A s.heap H locs → W p l e R s m args below meth c H locs 0 0 Q (F0 m 0 ls []) from key s.heap [] hP va_S.rf
  unfold f9_deep at h
  have L7 : ∀ (n : Nat) (x3 : Int32) (d0 : AI) (H : Heap) (locs : List Loc) (ls : Array Slot) (q00 : Nat), va_P E.1 vwCl ([gX9 E a v_now v_tried v_kept v_undos v_saved v_isSaved v_line v_lined v_text v_length v_at v_order v_told v_error v_reason v_detail v_answer v_thrown v_mixed v_conflicts v_firstConflict, gAI E q00 24 d0] : List va_W).flatten H → va_D A ([gX9 E a v_now v_tried v_kept v_undos v_saved v_isSaved v_line v_lined v_text v_length v_at v_order v_told v_error v_reason v_detail v_answer v_thrown v_mixed v_conflicts v_firstConflict, gAI E q00 24 d0] : List va_W).flatten → va_S A s.heap H locs → lv_has ls 4 [(0, .ref (a 0)), (1, .int x1), (2, .ref q00), (3, .int x3)] → f9_deep_L7 x1 v_now n x3 d0 = some r → W p l e R s m args below meth c H locs 1 24 Q (F0 m 7 ls []) := by
    intro n
    induction n with
    | zero =>
      intro x3 d0 H locs ls q00 hP hD hS hl h
      unfold f9_deep_L7 at h; cases h
    | succ n ih =>
      intro x3 d0 H locs ls q00 hP hD hS hl h
      unfold f9_deep_L7 at h
      refine lv_iload_n hx hb dX9_deep_7 rfl (lv_at hl 3 rfl) ?_
      refine lv_iload_n hx hb dX9_deep_8 rfl (lv_at hl 1 rfl) ?_
      refine lv_icmp_gt (tgt := 59) hx hb dX9_deep_9 (by decide) (fun c2 => ?_) (fun c2 => ?_)
      · rw [if_pos c2] at h
        refine lv_aload_n hx hb dX9_deep_59 rfl (lv_at hl 2 rfl) ?_
        refine lv_iload_n hx hb dX9_deep_60 rfl (lv_at hl 1 rfl) ?_
        obtain ⟨i3, h⟩ := o_t h
        refine va_iald (f := d0) hx hb hK hP 9 0 rfl rfl (inb_in i3) dX9_deep_61 ?_
        cases h
        have hP := g_P (gs' := ([gX9 E a v_now v_tried v_kept v_undos v_saved v_isSaved v_line v_lined v_text v_length v_at v_order v_told v_error v_reason v_detail v_answer v_thrown v_mixed v_conflicts v_firstConflict] : List va_W)) hP [0] rfl
        have hD := g_D (gs' := ([gX9 E a v_now v_tried v_kept v_undos v_saved v_isSaved v_line v_lined v_text v_length v_at v_order v_told v_error v_reason v_detail v_answer v_thrown v_mixed v_conflicts v_firstConflict] : List va_W)) hD [0] (by decide) rfl
        exact px_eWi hA0 hQ hP hD hS hx hb hr hlocks dX9_deep_62
      · rw [if_neg c2] at h
        refine lv_aload_n hx hb dX9_deep_12 rfl (lv_at hl 2 rfl) ?_
        refine lv_iload_n hx hb dX9_deep_13 rfl (lv_at hl 3 rfl) ?_
        refine lv_aload_n hx hb dX9_deep_14 rfl (lv_at hl 2 rfl) ?_
        refine lv_aload_n hx hb dX9_deep_15 rfl (lv_at hl 0 rfl) ?_
        refine lv_iload_n hx hb dX9_deep_16 rfl (lv_at hl 3 rfl) ?_
        refine lv_iconst (v := (nI 1)) hx hb dX9_deep_17 (by decide) ?_
        obtain ⟨r4, hr5, h⟩ := ob h
        refine px_Vp (As := [.int x3, .int (nI 1)]) (rest := [.ref q00, .int x3, .ref q00]) (gs := ([gX9 E a v_now v_tried v_kept v_undos v_saved v_isSaved v_line v_lined v_text v_length v_at v_order v_told v_error v_reason v_detail v_answer v_thrown v_mixed v_conflicts v_firstConflict, gAI E q00 24 d0] : List va_W)) (gc := ([gX9 E a v_now v_tried v_kept v_undos v_saved v_isSaved v_line v_lined v_text v_length v_at v_order v_told v_error v_reason v_detail v_answer v_thrown v_mixed v_conflicts v_firstConflict] : List va_W)) ⟨hx, hb, hml, hown, hts⟩ (c9_of l E a  (x3) ((nI 1)) (v_now) (v_tried) (v_kept) (v_undos) (v_saved) (v_isSaved) (v_line) (v_lined) (v_text) (v_length) (v_at) (v_order) (v_told) (v_error) (v_reason) (v_detail) (v_answer) (v_thrown) (v_mixed) (v_conflicts) (v_firstConflict) r4 hr5) (cwV 2 hts (ws_v q1296 q1298 q22 q68 q1299) rfl rfl rfl hdV_X9_of (by rw [hR]; exact ⟨Nat.le_of_ble_eq_true rfl, Nat.le_of_ble_eq_true rfl⟩)) hK hN hP hD [0] rfl (by decide) 0 9 rfl rfl rfl rfl hl.1 rfl (Nat.le_of_ble_eq_true rfl) dX9_deep_18 (by rw [hR]; exact ⟨Nat.le_of_ble_eq_true rfl, Nat.le_of_ble_eq_true rfl⟩) ?_
        refine W.eq (g2 := F0 m 21 ls [.int r4, .ref q00, .int x3, .ref q00]) rfl ?_
        obtain ⟨i6, h⟩ := o_t h
        refine va_iald (f := d0) hx hb hK hP 9 0 rfl rfl (inb_in i6) dX9_deep_21 ?_
        refine lv_iconst (v := (nI 1)) hx hb dX9_deep_22 (by decide) ?_
        refine lv_iadd hx hb dX9_deep_23 ?_
        obtain ⟨i7, h⟩ := o_t h
        refine va_iast (f := d0) hx hb hK hP hD hS 9 0 rfl rfl (inb_in i7) dX9_deep_24 (fun H locs hP hD hS => ?_)
        have hP : va_P E.1 vwCl ([gX9 E a v_now v_tried v_kept v_undos v_saved v_isSaved v_line v_lined v_text v_length v_at v_order v_told v_error v_reason v_detail v_answer v_thrown v_mixed v_conflicts v_firstConflict, gAI E q00 24 (upd d0 (x3).toNatClampNeg ((d0 (r4).toNatClampNeg) + (nI 1)))] : List va_W).flatten H := hP
        have hD : va_D A ([gX9 E a v_now v_tried v_kept v_undos v_saved v_isSaved v_line v_lined v_text v_length v_at v_order v_told v_error v_reason v_detail v_answer v_thrown v_mixed v_conflicts v_firstConflict, gAI E q00 24 (upd d0 (x3).toNatClampNeg ((d0 (r4).toNatClampNeg) + (nI 1)))] : List va_W).flatten := hD
        obtain ⟨u8, e9, h⟩ := lt_e h
        rw [← e9] at hP hD
        refine lv_aload_n hx hb dX9_deep_25 rfl (lv_at hl 0 rfl) ?_
        refine lv_iload_n hx hb dX9_deep_26 rfl (lv_at hl 3 rfl) ?_
        refine lv_iconst (v := (nI 2)) hx hb dX9_deep_27 (by decide) ?_
        obtain ⟨r10, hr11, h⟩ := ob h
        refine px_Vp (As := [.int x3, .int (nI 2)]) (rest := []) (gs := ([gX9 E a v_now v_tried v_kept v_undos v_saved v_isSaved v_line v_lined v_text v_length v_at v_order v_told v_error v_reason v_detail v_answer v_thrown v_mixed v_conflicts v_firstConflict, gAI E q00 24 u8] : List va_W)) (gc := ([gX9 E a v_now v_tried v_kept v_undos v_saved v_isSaved v_line v_lined v_text v_length v_at v_order v_told v_error v_reason v_detail v_answer v_thrown v_mixed v_conflicts v_firstConflict] : List va_W)) ⟨hx, hb, hml, hown, hts⟩ (c9_of l E a  (x3) ((nI 2)) (v_now) (v_tried) (v_kept) (v_undos) (v_saved) (v_isSaved) (v_line) (v_lined) (v_text) (v_length) (v_at) (v_order) (v_told) (v_error) (v_reason) (v_detail) (v_answer) (v_thrown) (v_mixed) (v_conflicts) (v_firstConflict) r10 hr11) (cwV 2 hts (ws_v q1296 q1298 q22 q68 q1299) rfl rfl rfl hdV_X9_of (by rw [hR]; exact ⟨Nat.le_of_ble_eq_true rfl, Nat.le_of_ble_eq_true rfl⟩)) hK hN hP hD [0] rfl (by decide) 0 9 rfl rfl rfl rfl hl.1 rfl (Nat.le_of_ble_eq_true rfl) dX9_deep_28 (by rw [hR]; exact ⟨Nat.le_of_ble_eq_true rfl, Nat.le_of_ble_eq_true rfl⟩) ?_
        refine W.eq (g2 := F0 m 31 ls [.int r10]) rfl ?_
        refine lv_if_lt (tgt := 53) hx hb dX9_deep_31 (by decide) (fun c12 => ?_) (fun c12 => ?_)
        · rw [if_pos c12] at h
          refine lv_iinc (v := (x3 + nI 1)) (lv' := [(3, .int (x3 + nI 1)), (0, .ref (a 0)), (1, .int x1), (2, .ref q00)]) hx hb dX9_deep_53 hl (k := 3) rfl rfl (by decide) rfl (fun ls hl => ?_)
          refine lv_goto (tgt := 7) hx hb dX9_deep_56 (by decide) ?_
          exact ih ((x3 + nI 1)) (u8) H locs ls q00 hP hD hS (lv_sub hl [1, 2, 3, 0] rfl) h
        · rw [if_neg c12] at h
          refine lv_aload_n hx hb dX9_deep_34 rfl (lv_at hl 2 rfl) ?_
          refine lv_iload_n hx hb dX9_deep_35 rfl (lv_at hl 3 rfl) ?_
          refine lv_aload_n hx hb dX9_deep_36 rfl (lv_at hl 2 rfl) ?_
          refine lv_iload_n hx hb dX9_deep_37 rfl (lv_at hl 3 rfl) ?_
          obtain ⟨i13, h⟩ := o_t h
          refine va_iald (f := u8) hx hb hK hP 9 0 rfl rfl (inb_in i13) dX9_deep_38 ?_
          refine lv_aload_n hx hb dX9_deep_39 rfl (lv_at hl 2 rfl) ?_
          refine lv_aload_n hx hb dX9_deep_40 rfl (lv_at hl 0 rfl) ?_
          refine lv_iload_n hx hb dX9_deep_41 rfl (lv_at hl 3 rfl) ?_
          refine lv_iconst (v := (nI 2)) hx hb dX9_deep_42 (by decide) ?_
          obtain ⟨r14, hr15, h⟩ := ob h
          refine px_Vp (As := [.int x3, .int (nI 2)]) (rest := [.ref q00, .int (u8 (x3).toNatClampNeg), .int x3, .ref q00]) (gs := ([gX9 E a v_now v_tried v_kept v_undos v_saved v_isSaved v_line v_lined v_text v_length v_at v_order v_told v_error v_reason v_detail v_answer v_thrown v_mixed v_conflicts v_firstConflict, gAI E q00 24 u8] : List va_W)) (gc := ([gX9 E a v_now v_tried v_kept v_undos v_saved v_isSaved v_line v_lined v_text v_length v_at v_order v_told v_error v_reason v_detail v_answer v_thrown v_mixed v_conflicts v_firstConflict] : List va_W)) ⟨hx, hb, hml, hown, hts⟩ (c9_of l E a  (x3) ((nI 2)) (v_now) (v_tried) (v_kept) (v_undos) (v_saved) (v_isSaved) (v_line) (v_lined) (v_text) (v_length) (v_at) (v_order) (v_told) (v_error) (v_reason) (v_detail) (v_answer) (v_thrown) (v_mixed) (v_conflicts) (v_firstConflict) r14 hr15) (cwV 2 hts (ws_v q1296 q1298 q22 q68 q1299) rfl rfl rfl hdV_X9_of (by rw [hR]; exact ⟨Nat.le_of_ble_eq_true rfl, Nat.le_of_ble_eq_true rfl⟩)) hK hN hP hD [0] rfl (by decide) 0 9 rfl rfl rfl rfl hl.1 rfl (Nat.le_of_ble_eq_true rfl) dX9_deep_43 (by rw [hR]; exact ⟨Nat.le_of_ble_eq_true rfl, Nat.le_of_ble_eq_true rfl⟩) ?_
          refine W.eq (g2 := F0 m 46 ls [.int r14, .ref q00, .int (u8 (x3).toNatClampNeg), .int x3, .ref q00]) rfl ?_
          obtain ⟨i16, h⟩ := o_t h
          refine va_iald (f := u8) hx hb hK hP 9 0 rfl rfl (inb_in i16) dX9_deep_46 ?_
          refine lv_iconst (v := (nI 1)) hx hb dX9_deep_47 (by decide) ?_
          refine lv_iadd hx hb dX9_deep_48 ?_
          refine va_mmax hx hb (hml.trans hl.1.symm) hown (hts _ q1373) (hts _ q347) (hts _ q70) (hts _ q348) (by rw [hR]; exact Nat.le_of_ble_eq_true rfl) (by rw [hR]; exact Nat.le_of_ble_eq_true rfl) (by rw [hR]; exact Nat.le_of_ble_eq_true rfl) (by rw [hR]; exact Nat.le_of_ble_eq_true rfl) dX9_deep_49 ?_
          obtain ⟨i17, h⟩ := o_t h
          refine va_iast (f := u8) hx hb hK hP hD hS 9 0 rfl rfl (inb_in i17) dX9_deep_52 (fun H locs hP hD hS => ?_)
          have hP : va_P E.1 vwCl ([gX9 E a v_now v_tried v_kept v_undos v_saved v_isSaved v_line v_lined v_text v_length v_at v_order v_told v_error v_reason v_detail v_answer v_thrown v_mixed v_conflicts v_firstConflict, gAI E q00 24 (upd u8 (x3).toNatClampNeg (if (u8 (x3).toNatClampNeg) < ((u8 (r14).toNatClampNeg) + (nI 1)) then ((u8 (r14).toNatClampNeg) + (nI 1)) else (u8 (x3).toNatClampNeg)))] : List va_W).flatten H := hP
          have hD : va_D A ([gX9 E a v_now v_tried v_kept v_undos v_saved v_isSaved v_line v_lined v_text v_length v_at v_order v_told v_error v_reason v_detail v_answer v_thrown v_mixed v_conflicts v_firstConflict, gAI E q00 24 (upd u8 (x3).toNatClampNeg (if (u8 (x3).toNatClampNeg) < ((u8 (r14).toNatClampNeg) + (nI 1)) then ((u8 (r14).toNatClampNeg) + (nI 1)) else (u8 (x3).toNatClampNeg)))] : List va_W).flatten := hD
          obtain ⟨u18, e19, h⟩ := lt_e h
          rw [← e19] at hP hD
          refine lv_iinc (v := (x3 + nI 1)) (lv' := [(3, .int (x3 + nI 1)), (0, .ref (a 0)), (1, .int x1), (2, .ref q00)]) hx hb dX9_deep_53 hl (k := 3) rfl rfl (by decide) rfl (fun ls hl => ?_)
          refine lv_goto (tgt := 7) hx hb dX9_deep_56 (by decide) ?_
          exact ih ((x3 + nI 1)) (u18) H locs ls q00 hP hD hS (lv_sub hl [1, 2, 3, 0] rfl) h
  intro H locs hP hS
  refine lv_bipush (v := (nI 24)) hx hb dX9_deep_0 (by decide) ?_
  refine px_newI (gs := ([gX9 E a v_now v_tried v_kept v_undos v_saved v_isSaved v_line v_lined v_text v_length v_at v_order v_told v_error v_reason v_detail v_answer v_thrown v_mixed v_conflicts v_firstConflict] : List va_W)) (N := 24) hx hb (hts _ q134) hK hP hD hS hA (by decide) (by decide) (by decide) (by rw [hR]; exact Nat.le_of_ble_eq_true rfl) (by rw [hR]; exact Nat.le_of_ble_eq_true rfl) dX9_deep_2 (fun q1 H hP hD hS => ?_)
  have hP : va_P E.1 vwCl ([gX9 E a v_now v_tried v_kept v_undos v_saved v_isSaved v_line v_lined v_text v_length v_at v_order v_told v_error v_reason v_detail v_answer v_thrown v_mixed v_conflicts v_firstConflict, gAI E q1 24 (fun _ => 0)] : List va_W).flatten H := hP
  have hD : va_D A ([gX9 E a v_now v_tried v_kept v_undos v_saved v_isSaved v_line v_lined v_text v_length v_at v_order v_told v_error v_reason v_detail v_answer v_thrown v_mixed v_conflicts v_firstConflict, gAI E q1 24 (fun _ => 0)] : List va_W).flatten := hD
  refine lv_astore_n (lv' := [(2, .ref q1), (0, .ref (a 0)), (1, .int x1)]) hx hb dX9_deep_4 rfl hl (by decide) rfl (fun ls hl => ?_)
  refine lv_iconst (v := (nI 1)) hx hb dX9_deep_5 (by decide) ?_
  refine lv_istore_n (lv' := [(3, .int (nI 1)), (2, .ref q1), (0, .ref (a 0)), (1, .int x1)]) hx hb dX9_deep_6 rfl hl (by decide) rfl (fun ls hl => ?_)
  exact L7 fuel ((nI 1)) ((fun _ => 0)) H locs ls q1 hP hD hS (lv_sub hl [2, 3, 1, 0] rfl) h
def f9_commitOf (x1 : Int32) (x2 : Int32) (v_now : AI) (v_thrown : Int32) : Option (Int32 × Int32) := ((f9_isCommit (x1) (v_now)).bind fun r1 => (if (b2i r1) = 0 then ((f9_raises ((nI 1)) ((nI 0))).bind fun (r30, w31) => (some (r30, w31))) else (if x2 = nI 0 then ((f9_of (x1) (x2) (v_now)).bind fun r5 => (some (r5, (nI 0)))) else (if x2 = nI 1 then ((f9_of (x1) (x2) (v_now)).bind fun r8 => (some (r8, (nI 0)))) else (if x2 = nI 2 then ((f9_of (x1) (x2) (v_now)).bind fun r11 => (some (r11, (nI 0)))) else (if x2 = nI 3 then (if x1 = 0 then (some ((nI 0), (nI 0))) else ((f9_of (x1) ((nI 1)) (v_now)).bind fun r15 => ((f9_unlike (x1) (r15) (v_now)).bind fun r17 => (some (r17, (nI 0)))))) else (if x2 = nI 4 then ((f9_family (x1) (v_now)).bind fun r20 => ((fJ6_bitCount_0f7a4 (r20)).bind fun r22 => (some ((r22 - (nI 1)), (nI 0))))) else (if x2 = nI 5 then ((f9_deep (x1) (v_now)).bind fun r25 => (some (r25, (nI 0)))) else ((f9_raises ((nI 2)) ((nI 0))).bind fun (r27, w28) => (some (r27, w28)))))))))))
set_option maxHeartbeats 4000000 in
set_option maxRecDepth 100000 in
theorem c9_commitOf (l : Launch) (E : PE) (a : Nat → Nat)  (x1 : Int32) (x2 : Int32) (v_now : AI) (v_tried : AI) (v_kept : AI) (v_undos : Int32) (v_saved : AI) (v_isSaved : Int32) (v_line : AI) (v_lined : Int32) (v_text : AI) (v_length : Int32) (v_at : Int32) (v_order : Int32) (v_told : AI) (v_error : Int32) (v_reason : Int32) (v_detail : Int32) (v_answer : Int32) (v_thrown : Int32) (v_mixed : AI) (v_conflicts : Int32) (v_firstConflict : Int32) (r : Int32) (z_this_thrown : Int32) (h : f9_commitOf x1 x2 v_now v_thrown = some (r, z_this_thrown)) : MW l yX9_commitOf cX9_commitOf 3 (some .int) { frames := 3, cells := 1, slots := 24, locals := 68 } E [.ref (a 0), .int x1, .int x2] ([gX9 E a v_now v_tried v_kept v_undos v_saved v_isSaved v_line v_lined v_text v_length v_at v_order v_told v_error v_reason v_detail v_answer v_thrown v_mixed v_conflicts v_firstConflict] : List va_W).flatten 1 24 (some (.int r)) ([gX9 E a v_now v_tried v_kept v_undos v_saved v_isSaved v_line v_lined v_text v_length v_at v_order v_told v_error v_reason v_detail v_answer z_this_thrown v_mixed v_conflicts v_firstConflict] : List va_W).flatten := by
  refine px_startW (by decide +kernel) (Nat.le_of_ble_eq_true rfl) ?_
  intro p e s m args below meth c R Q A ls hC hA0 hQ
  obtain ⟨hx, hb, hr, hml, hts, hown, hlocks, hR, hK, hN, hP, hD, hA, hl, hin⟩ := hC
  have hl : lv_has ls 3 [(0, .ref (a 0)), (1, .int x1), (2, .int x2)] := hl
  suffices key : ∀ (H : Heap) (locs : List Loc), va_P E.1 vwCl ([gX9 E a v_now v_tried v_kept v_undos v_saved v_isSaved v_line v_lined v_text v_length v_at v_order v_told v_error v_reason v_detail v_answer v_thrown v_mixed v_conflicts v_firstConflict] : List va_W).flatten H → va_S A s.heap H locs → W p l e R s m args below meth c H locs 0 0 Q (F0 m 0 ls []) from key s.heap [] hP va_S.rf
  unfold f9_commitOf at h
  intro H locs hP hS
  refine lv_aload_n hx hb dX9_commitOf_0 rfl (lv_at hl 0 rfl) ?_
  refine lv_iconst (v := (nI 0)) hx hb dX9_commitOf_1 (by decide) ?_
  refine va_put (D := E.1) (ci := 9) (v := .int (nI 0)) (ty := .int) (C := RX9) (T := TX9) (N := 21) hx hb hts iX9 tyX9 tyX9_ok nmX9 hown hK hP hD hS 0 rfl rfl 17 (by decide) (hts _ q1215) (fun _ h9 => h9) rfl (tyX9_ok 17 (by decide)) rfl rfl (Nat.le_of_ble_eq_true rfl) dX9_commitOf_2 (fun H locs hP hD hS => ?_)
  have hP : va_P E.1 vwCl ([gX9 E a v_now v_tried v_kept v_undos v_saved v_isSaved v_line v_lined v_text v_length v_at v_order v_told v_error v_reason v_detail v_answer (nI 0) v_mixed v_conflicts v_firstConflict] : List va_W).flatten H := hP
  have hD : va_D A ([gX9 E a v_now v_tried v_kept v_undos v_saved v_isSaved v_line v_lined v_text v_length v_at v_order v_told v_error v_reason v_detail v_answer (nI 0) v_mixed v_conflicts v_firstConflict] : List va_W).flatten := hD
  refine lv_aload_n hx hb dX9_commitOf_5 rfl (lv_at hl 0 rfl) ?_
  refine lv_iload_n hx hb dX9_commitOf_6 rfl (lv_at hl 1 rfl) ?_
  obtain ⟨r1, hr2, h⟩ := ob h
  refine px_Vp (As := [.int x1]) (rest := []) (gs := ([gX9 E a v_now v_tried v_kept v_undos v_saved v_isSaved v_line v_lined v_text v_length v_at v_order v_told v_error v_reason v_detail v_answer (nI 0) v_mixed v_conflicts v_firstConflict] : List va_W)) (gc := ([gX9 E a v_now v_tried v_kept v_undos v_saved v_isSaved v_line v_lined v_text v_length v_at v_order v_told v_error v_reason v_detail v_answer (nI 0) v_mixed v_conflicts v_firstConflict] : List va_W)) ⟨hx, hb, hml, hown, hts⟩ (c9_isCommit l E a  (x1) (v_now) (v_tried) (v_kept) (v_undos) (v_saved) (v_isSaved) (v_line) (v_lined) (v_text) (v_length) (v_at) (v_order) (v_told) (v_error) (v_reason) (v_detail) (v_answer) ((nI 0)) (v_mixed) (v_conflicts) (v_firstConflict) r1 hr2) (cwV 1 hts (ws_v q1344 q1346 q32 q68 q1347) rfl rfl rfl hdV_X9_isCommit (by rw [hR]; exact ⟨Nat.le_of_ble_eq_true rfl, Nat.le_of_ble_eq_true rfl⟩)) hK hN hP hD [0] rfl (by decide) 0 9 rfl rfl rfl rfl hl.1 rfl (Nat.le_of_ble_eq_true rfl) dX9_commitOf_7 (by rw [hR]; exact ⟨Nat.le_of_ble_eq_true rfl, Nat.le_of_ble_eq_true rfl⟩) ?_
  refine W.eq (g2 := F0 m 10 ls [.int (b2i r1)]) rfl ?_
  refine lv_if_ne (tgt := 19) hx hb dX9_commitOf_10 (by decide) (fun c3 => ?_) (fun c3 => ?_)
  · rw [if_neg c3] at h
    refine lv_iload_n hx hb dX9_commitOf_19 rfl (lv_at hl 2 rfl) ?_
    by_cases c4 : x2 = nI 0
    · rw [if_pos c4] at h
      refine lv_tableIn (off := 40) (tgt := 60) hx hb dX9_commitOf_20 (by rw [c4]; decide) (by rw [c4]; decide) (by rw [c4]; rfl) (by decide) ?_
      refine lv_aload_n hx hb dX9_commitOf_60 rfl (lv_at hl 0 rfl) ?_
      refine lv_iload_n hx hb dX9_commitOf_61 rfl (lv_at hl 1 rfl) ?_
      refine lv_iload_n hx hb dX9_commitOf_62 rfl (lv_at hl 2 rfl) ?_
      obtain ⟨r5, hr6, h⟩ := ob h
      refine px_Vp (As := [.int x1, .int x2]) (rest := []) (gs := ([gX9 E a v_now v_tried v_kept v_undos v_saved v_isSaved v_line v_lined v_text v_length v_at v_order v_told v_error v_reason v_detail v_answer (nI 0) v_mixed v_conflicts v_firstConflict] : List va_W)) (gc := ([gX9 E a v_now v_tried v_kept v_undos v_saved v_isSaved v_line v_lined v_text v_length v_at v_order v_told v_error v_reason v_detail v_answer (nI 0) v_mixed v_conflicts v_firstConflict] : List va_W)) ⟨hx, hb, hml, hown, hts⟩ (c9_of l E a  (x1) (x2) (v_now) (v_tried) (v_kept) (v_undos) (v_saved) (v_isSaved) (v_line) (v_lined) (v_text) (v_length) (v_at) (v_order) (v_told) (v_error) (v_reason) (v_detail) (v_answer) ((nI 0)) (v_mixed) (v_conflicts) (v_firstConflict) r5 hr6) (cwV 2 hts (ws_v q1296 q1298 q22 q68 q1299) rfl rfl rfl hdV_X9_of (by rw [hR]; exact ⟨Nat.le_of_ble_eq_true rfl, Nat.le_of_ble_eq_true rfl⟩)) hK hN hP hD [0] rfl (by decide) 0 9 rfl rfl rfl rfl hl.1 rfl (Nat.le_of_ble_eq_true rfl) dX9_commitOf_63 (by rw [hR]; exact ⟨Nat.le_of_ble_eq_true rfl, Nat.le_of_ble_eq_true rfl⟩) ?_
      refine W.eq (g2 := F0 m 66 ls [.int r5]) rfl ?_
      cases h
      refine W.widen (k := 1) (n := 24) (by decide) (by decide) ?_
      exact px_eWi hA0 hQ hP hD hS hx hb hr hlocks dX9_commitOf_66
    · rw [if_neg c4] at h
      by_cases c7 : x2 = nI 1
      · rw [if_pos c7] at h
        refine lv_tableIn (off := 40) (tgt := 60) hx hb dX9_commitOf_20 (by rw [c7]; decide) (by rw [c7]; decide) (by rw [c7]; rfl) (by decide) ?_
        refine lv_aload_n hx hb dX9_commitOf_60 rfl (lv_at hl 0 rfl) ?_
        refine lv_iload_n hx hb dX9_commitOf_61 rfl (lv_at hl 1 rfl) ?_
        refine lv_iload_n hx hb dX9_commitOf_62 rfl (lv_at hl 2 rfl) ?_
        obtain ⟨r8, hr9, h⟩ := ob h
        refine px_Vp (As := [.int x1, .int x2]) (rest := []) (gs := ([gX9 E a v_now v_tried v_kept v_undos v_saved v_isSaved v_line v_lined v_text v_length v_at v_order v_told v_error v_reason v_detail v_answer (nI 0) v_mixed v_conflicts v_firstConflict] : List va_W)) (gc := ([gX9 E a v_now v_tried v_kept v_undos v_saved v_isSaved v_line v_lined v_text v_length v_at v_order v_told v_error v_reason v_detail v_answer (nI 0) v_mixed v_conflicts v_firstConflict] : List va_W)) ⟨hx, hb, hml, hown, hts⟩ (c9_of l E a  (x1) (x2) (v_now) (v_tried) (v_kept) (v_undos) (v_saved) (v_isSaved) (v_line) (v_lined) (v_text) (v_length) (v_at) (v_order) (v_told) (v_error) (v_reason) (v_detail) (v_answer) ((nI 0)) (v_mixed) (v_conflicts) (v_firstConflict) r8 hr9) (cwV 2 hts (ws_v q1296 q1298 q22 q68 q1299) rfl rfl rfl hdV_X9_of (by rw [hR]; exact ⟨Nat.le_of_ble_eq_true rfl, Nat.le_of_ble_eq_true rfl⟩)) hK hN hP hD [0] rfl (by decide) 0 9 rfl rfl rfl rfl hl.1 rfl (Nat.le_of_ble_eq_true rfl) dX9_commitOf_63 (by rw [hR]; exact ⟨Nat.le_of_ble_eq_true rfl, Nat.le_of_ble_eq_true rfl⟩) ?_
        refine W.eq (g2 := F0 m 66 ls [.int r8]) rfl ?_
        cases h
        refine W.widen (k := 1) (n := 24) (by decide) (by decide) ?_
        exact px_eWi hA0 hQ hP hD hS hx hb hr hlocks dX9_commitOf_66
      · rw [if_neg c7] at h
        by_cases c10 : x2 = nI 2
        · rw [if_pos c10] at h
          refine lv_tableIn (off := 40) (tgt := 60) hx hb dX9_commitOf_20 (by rw [c10]; decide) (by rw [c10]; decide) (by rw [c10]; rfl) (by decide) ?_
          refine lv_aload_n hx hb dX9_commitOf_60 rfl (lv_at hl 0 rfl) ?_
          refine lv_iload_n hx hb dX9_commitOf_61 rfl (lv_at hl 1 rfl) ?_
          refine lv_iload_n hx hb dX9_commitOf_62 rfl (lv_at hl 2 rfl) ?_
          obtain ⟨r11, hr12, h⟩ := ob h
          refine px_Vp (As := [.int x1, .int x2]) (rest := []) (gs := ([gX9 E a v_now v_tried v_kept v_undos v_saved v_isSaved v_line v_lined v_text v_length v_at v_order v_told v_error v_reason v_detail v_answer (nI 0) v_mixed v_conflicts v_firstConflict] : List va_W)) (gc := ([gX9 E a v_now v_tried v_kept v_undos v_saved v_isSaved v_line v_lined v_text v_length v_at v_order v_told v_error v_reason v_detail v_answer (nI 0) v_mixed v_conflicts v_firstConflict] : List va_W)) ⟨hx, hb, hml, hown, hts⟩ (c9_of l E a  (x1) (x2) (v_now) (v_tried) (v_kept) (v_undos) (v_saved) (v_isSaved) (v_line) (v_lined) (v_text) (v_length) (v_at) (v_order) (v_told) (v_error) (v_reason) (v_detail) (v_answer) ((nI 0)) (v_mixed) (v_conflicts) (v_firstConflict) r11 hr12) (cwV 2 hts (ws_v q1296 q1298 q22 q68 q1299) rfl rfl rfl hdV_X9_of (by rw [hR]; exact ⟨Nat.le_of_ble_eq_true rfl, Nat.le_of_ble_eq_true rfl⟩)) hK hN hP hD [0] rfl (by decide) 0 9 rfl rfl rfl rfl hl.1 rfl (Nat.le_of_ble_eq_true rfl) dX9_commitOf_63 (by rw [hR]; exact ⟨Nat.le_of_ble_eq_true rfl, Nat.le_of_ble_eq_true rfl⟩) ?_
          refine W.eq (g2 := F0 m 66 ls [.int r11]) rfl ?_
          cases h
          refine W.widen (k := 1) (n := 24) (by decide) (by decide) ?_
          exact px_eWi hA0 hQ hP hD hS hx hb hr hlocks dX9_commitOf_66
        · rw [if_neg c10] at h
          by_cases c13 : x2 = nI 3
          · rw [if_pos c13] at h
            refine lv_tableIn (off := 47) (tgt := 67) hx hb dX9_commitOf_20 (by rw [c13]; decide) (by rw [c13]; decide) (by rw [c13]; rfl) (by decide) ?_
            refine lv_iload_n hx hb dX9_commitOf_67 rfl (lv_at hl 1 rfl) ?_
            refine lv_if_ne (tgt := 75) hx hb dX9_commitOf_68 (by decide) (fun c14 => ?_) (fun c14 => ?_)
            · rw [if_neg c14] at h
              refine lv_aload_n hx hb dX9_commitOf_75 rfl (lv_at hl 0 rfl) ?_
              refine lv_iload_n hx hb dX9_commitOf_76 rfl (lv_at hl 1 rfl) ?_
              refine lv_aload_n hx hb dX9_commitOf_77 rfl (lv_at hl 0 rfl) ?_
              refine lv_iload_n hx hb dX9_commitOf_78 rfl (lv_at hl 1 rfl) ?_
              refine lv_iconst (v := (nI 1)) hx hb dX9_commitOf_79 (by decide) ?_
              obtain ⟨r15, hr16, h⟩ := ob h
              refine px_Vp (As := [.int x1, .int (nI 1)]) (rest := [.int x1, .ref (a 0)]) (gs := ([gX9 E a v_now v_tried v_kept v_undos v_saved v_isSaved v_line v_lined v_text v_length v_at v_order v_told v_error v_reason v_detail v_answer (nI 0) v_mixed v_conflicts v_firstConflict] : List va_W)) (gc := ([gX9 E a v_now v_tried v_kept v_undos v_saved v_isSaved v_line v_lined v_text v_length v_at v_order v_told v_error v_reason v_detail v_answer (nI 0) v_mixed v_conflicts v_firstConflict] : List va_W)) ⟨hx, hb, hml, hown, hts⟩ (c9_of l E a  (x1) ((nI 1)) (v_now) (v_tried) (v_kept) (v_undos) (v_saved) (v_isSaved) (v_line) (v_lined) (v_text) (v_length) (v_at) (v_order) (v_told) (v_error) (v_reason) (v_detail) (v_answer) ((nI 0)) (v_mixed) (v_conflicts) (v_firstConflict) r15 hr16) (cwV 2 hts (ws_v q1296 q1298 q22 q68 q1299) rfl rfl rfl hdV_X9_of (by rw [hR]; exact ⟨Nat.le_of_ble_eq_true rfl, Nat.le_of_ble_eq_true rfl⟩)) hK hN hP hD [0] rfl (by decide) 0 9 rfl rfl rfl rfl hl.1 rfl (Nat.le_of_ble_eq_true rfl) dX9_commitOf_80 (by rw [hR]; exact ⟨Nat.le_of_ble_eq_true rfl, Nat.le_of_ble_eq_true rfl⟩) ?_
              refine W.eq (g2 := F0 m 83 ls [.int r15, .int x1, .ref (a 0)]) rfl ?_
              obtain ⟨r17, hr18, h⟩ := ob h
              refine px_Vp (As := [.int x1, .int r15]) (rest := []) (gs := ([gX9 E a v_now v_tried v_kept v_undos v_saved v_isSaved v_line v_lined v_text v_length v_at v_order v_told v_error v_reason v_detail v_answer (nI 0) v_mixed v_conflicts v_firstConflict] : List va_W)) (gc := ([gX9 E a v_now v_tried v_kept v_undos v_saved v_isSaved v_line v_lined v_text v_length v_at v_order v_told v_error v_reason v_detail v_answer (nI 0) v_mixed v_conflicts v_firstConflict] : List va_W)) ⟨hx, hb, hml, hown, hts⟩ (c9_unlike l E a  (x1) (r15) (v_now) (v_tried) (v_kept) (v_undos) (v_saved) (v_isSaved) (v_line) (v_lined) (v_text) (v_length) (v_at) (v_order) (v_told) (v_error) (v_reason) (v_detail) (v_answer) ((nI 0)) (v_mixed) (v_conflicts) (v_firstConflict) r17 hr18) (cwV 2 hts (ws_v q1360 q1362 q33 q68 q1363) rfl rfl rfl hdV_X9_unlike (by rw [hR]; exact ⟨Nat.le_of_ble_eq_true rfl, Nat.le_of_ble_eq_true rfl⟩)) hK hN hP hD [0] rfl (by decide) 0 9 rfl rfl rfl rfl hl.1 rfl (Nat.le_of_ble_eq_true rfl) dX9_commitOf_83 (by rw [hR]; exact ⟨Nat.le_of_ble_eq_true rfl, Nat.le_of_ble_eq_true rfl⟩) ?_
              refine W.eq (g2 := F0 m 86 ls [.int r17]) rfl ?_
              cases h
              refine W.widen (k := 1) (n := 24) (by decide) (by decide) ?_
              exact px_eWi hA0 hQ hP hD hS hx hb hr hlocks dX9_commitOf_86
            · rw [if_pos c14] at h
              refine lv_iconst (v := (nI 0)) hx hb dX9_commitOf_71 (by decide) ?_
              refine lv_goto (tgt := 86) hx hb dX9_commitOf_72 (by decide) ?_
              cases h
              refine W.widen (k := 1) (n := 24) (by decide) (by decide) ?_
              exact px_eWi hA0 hQ hP hD hS hx hb hr hlocks dX9_commitOf_86
          · rw [if_neg c13] at h
            by_cases c19 : x2 = nI 4
            · rw [if_pos c19] at h
              refine lv_tableIn (off := 67) (tgt := 87) hx hb dX9_commitOf_20 (by rw [c19]; decide) (by rw [c19]; decide) (by rw [c19]; rfl) (by decide) ?_
              refine lv_aload_n hx hb dX9_commitOf_87 rfl (lv_at hl 0 rfl) ?_
              refine lv_iload_n hx hb dX9_commitOf_88 rfl (lv_at hl 1 rfl) ?_
              obtain ⟨r20, hr21, h⟩ := ob h
              refine px_Vp (As := [.int x1]) (rest := []) (gs := ([gX9 E a v_now v_tried v_kept v_undos v_saved v_isSaved v_line v_lined v_text v_length v_at v_order v_told v_error v_reason v_detail v_answer (nI 0) v_mixed v_conflicts v_firstConflict] : List va_W)) (gc := ([gX9 E a v_now v_tried v_kept v_undos v_saved v_isSaved v_line v_lined v_text v_length v_at v_order v_told v_error v_reason v_detail v_answer (nI 0) v_mixed v_conflicts v_firstConflict] : List va_W)) ⟨hx, hb, hml, hown, hts⟩ (c9_family l E a  (x1) (v_now) (v_tried) (v_kept) (v_undos) (v_saved) (v_isSaved) (v_line) (v_lined) (v_text) (v_length) (v_at) (v_order) (v_told) (v_error) (v_reason) (v_detail) (v_answer) ((nI 0)) (v_mixed) (v_conflicts) (v_firstConflict) r20 hr21) (cwV 1 hts (ws_v q1364 q1366 q34 q68 q1367) rfl rfl rfl hdV_X9_family (by rw [hR]; exact ⟨Nat.le_of_ble_eq_true rfl, Nat.le_of_ble_eq_true rfl⟩)) hK hN hP hD [0] rfl (by decide) 0 9 rfl rfl rfl rfl hl.1 rfl (Nat.le_of_ble_eq_true rfl) dX9_commitOf_89 (by rw [hR]; exact ⟨Nat.le_of_ble_eq_true rfl, Nat.le_of_ble_eq_true rfl⟩) ?_
              refine W.eq (g2 := F0 m 92 ls [.int r20]) rfl ?_
              obtain ⟨r22, hr23, h⟩ := ob h
              refine px_Sp (As := [.int r20]) (rest := []) (gs := ([gX9 E a v_now v_tried v_kept v_undos v_saved v_isSaved v_line v_lined v_text v_length v_at v_order v_told v_error v_reason v_detail v_answer (nI 0) v_mixed v_conflicts v_firstConflict] : List va_W)) (gc := ([] : List va_W)) ⟨hx, hb, hml, hown, hts⟩ (kJ6_bitCount_0f7a4 l E   (r20)  r22 hr23) (va_cwS 1 hts (ws_s q1368 q634 q78 q635) rfl rfl rfl hdS_J6_bitCount_0f7a4 (by rw [hR]; exact ⟨Nat.le_of_ble_eq_true rfl, Nat.le_of_ble_eq_true rfl⟩)) hK hN hP hD [] rfl (by decide) rfl hl.1 rfl (Nat.le_of_ble_eq_true rfl) dX9_commitOf_92 (by rw [hR]; exact ⟨Nat.le_of_ble_eq_true rfl, Nat.le_of_ble_eq_true rfl⟩) ?_
              refine W.eq (g2 := F0 m 95 ls [.int r22]) rfl ?_
              refine lv_iconst (v := (nI 1)) hx hb dX9_commitOf_95 (by decide) ?_
              refine lv_isub hx hb dX9_commitOf_96 ?_
              cases h
              refine W.widen (k := 1) (n := 24) (by decide) (by decide) ?_
              exact px_eWi hA0 hQ hP hD hS hx hb hr hlocks dX9_commitOf_97
            · rw [if_neg c19] at h
              by_cases c24 : x2 = nI 5
              · rw [if_pos c24] at h
                refine lv_tableIn (off := 78) (tgt := 98) hx hb dX9_commitOf_20 (by rw [c24]; decide) (by rw [c24]; decide) (by rw [c24]; rfl) (by decide) ?_
                refine lv_aload_n hx hb dX9_commitOf_98 rfl (lv_at hl 0 rfl) ?_
                refine lv_iload_n hx hb dX9_commitOf_99 rfl (lv_at hl 1 rfl) ?_
                obtain ⟨r25, hr26, h⟩ := ob h
                refine px_V (As := [.int x1]) (rest := []) (gs := ([gX9 E a v_now v_tried v_kept v_undos v_saved v_isSaved v_line v_lined v_text v_length v_at v_order v_told v_error v_reason v_detail v_answer (nI 0) v_mixed v_conflicts v_firstConflict] : List va_W)) (gr := ([] : List va_W)) (gc := ([gX9 E a v_now v_tried v_kept v_undos v_saved v_isSaved v_line v_lined v_text v_length v_at v_order v_told v_error v_reason v_detail v_answer (nI 0) v_mixed v_conflicts v_firstConflict] : List va_W)) (g1 := ([gX9 E a v_now v_tried v_kept v_undos v_saved v_isSaved v_line v_lined v_text v_length v_at v_order v_told v_error v_reason v_detail v_answer (nI 0) v_mixed v_conflicts v_firstConflict] : List va_W)) (g2 := ([gX9 E a v_now v_tried v_kept v_undos v_saved v_isSaved v_line v_lined v_text v_length v_at v_order v_told v_error v_reason v_detail v_answer (nI 0) v_mixed v_conflicts v_firstConflict] : List va_W)) ⟨hx, hb, hml, hown, hts⟩ (c9_deep l E a  (x1) (v_now) (v_tried) (v_kept) (v_undos) (v_saved) (v_isSaved) (v_line) (v_lined) (v_text) (v_length) (v_at) (v_order) (v_told) (v_error) (v_reason) (v_detail) (v_answer) ((nI 0)) (v_mixed) (v_conflicts) (v_firstConflict) r25 hr26) (cwV 1 hts (ws_v q1369 q1371 q35 q68 q1372) rfl rfl rfl hdV_X9_deep (by rw [hR]; exact ⟨Nat.le_of_ble_eq_true rfl, Nat.le_of_ble_eq_true rfl⟩)) hK hN hP hD hS hA [] [0] [0] rfl rfl (by decide) (by decide) rfl (by decide) 0 9 rfl rfl rfl rfl hl.1 rfl (Nat.le_of_ble_eq_true rfl) dX9_commitOf_100 (by rw [hR]; exact ⟨Nat.le_of_ble_eq_true rfl, Nat.le_of_ble_eq_true rfl⟩) (fun H locs hP hD hS => ?_)
                refine W.eq (g2 := F0 m 103 ls [.int r25]) rfl ?_
                cases h
                exact px_eWi hA0 hQ hP hD hS hx hb hr hlocks dX9_commitOf_103
              · rw [if_neg c24] at h
                refine px_tdef hx hb dX9_commitOf_20 (fun w1 w2 => ?_) (tgt := 104) (by decide) ?_
                · obtain w | w | w | w | w | w : (x2).toInt = 0 ∨ (x2).toInt = 1 ∨ (x2).toInt = 2 ∨ (x2).toInt = 3 ∨ (x2).toInt = 4 ∨ (x2).toInt = 5 := by omega
                  · exact absurd (Int32.toInt_inj.mp (w.trans (show (0 : Int) = (nI 0).toInt from by decide))) c4
                  · exact absurd (Int32.toInt_inj.mp (w.trans (show (1 : Int) = (nI 1).toInt from by decide))) c7
                  · exact absurd (Int32.toInt_inj.mp (w.trans (show (2 : Int) = (nI 2).toInt from by decide))) c10
                  · exact absurd (Int32.toInt_inj.mp (w.trans (show (3 : Int) = (nI 3).toInt from by decide))) c13
                  · exact absurd (Int32.toInt_inj.mp (w.trans (show (4 : Int) = (nI 4).toInt from by decide))) c19
                  · exact absurd (Int32.toInt_inj.mp (w.trans (show (5 : Int) = (nI 5).toInt from by decide))) c24
                · refine lv_aload_n hx hb dX9_commitOf_104 rfl (lv_at hl 0 rfl) ?_
                  refine lv_iconst (v := (nI 2)) hx hb dX9_commitOf_105 (by decide) ?_
                  obtain ⟨⟨r27, w28⟩, hr29, h⟩ := ob h
                  dsimp only at h
                  refine px_V (As := [.int (nI 2)]) (rest := []) (gs := ([gX9 E a v_now v_tried v_kept v_undos v_saved v_isSaved v_line v_lined v_text v_length v_at v_order v_told v_error v_reason v_detail v_answer (nI 0) v_mixed v_conflicts v_firstConflict] : List va_W)) (gr := ([] : List va_W)) (gc := ([gX9 E a v_now v_tried v_kept v_undos v_saved v_isSaved v_line v_lined v_text v_length v_at v_order v_told v_error v_reason v_detail v_answer (nI 0) v_mixed v_conflicts v_firstConflict] : List va_W)) (g1 := ([gX9 E a v_now v_tried v_kept v_undos v_saved v_isSaved v_line v_lined v_text v_length v_at v_order v_told v_error v_reason v_detail v_answer w28 v_mixed v_conflicts v_firstConflict] : List va_W)) (g2 := ([gX9 E a v_now v_tried v_kept v_undos v_saved v_isSaved v_line v_lined v_text v_length v_at v_order v_told v_error v_reason v_detail v_answer w28 v_mixed v_conflicts v_firstConflict] : List va_W)) ⟨hx, hb, hml, hown, hts⟩ (c9_raises l E a  ((nI 2)) (v_now) (v_tried) (v_kept) (v_undos) (v_saved) (v_isSaved) (v_line) (v_lined) (v_text) (v_length) (v_at) (v_order) (v_told) (v_error) (v_reason) (v_detail) (v_answer) ((nI 0)) (v_mixed) (v_conflicts) (v_firstConflict) r27 w28 hr29) (cwV 1 hts (ws_v q1320 q1322 q28 q68 q1323) rfl rfl rfl hdV_X9_raises (by rw [hR]; exact ⟨Nat.le_of_ble_eq_true rfl, Nat.le_of_ble_eq_true rfl⟩)) hK hN hP hD hS hA [] [0] [0] rfl rfl (by decide) (by decide) rfl (by decide) 0 9 rfl rfl rfl rfl hl.1 rfl (Nat.le_of_ble_eq_true rfl) dX9_commitOf_106 (by rw [hR]; exact ⟨Nat.le_of_ble_eq_true rfl, Nat.le_of_ble_eq_true rfl⟩) (fun H locs hP hD hS => ?_)
                  refine W.eq (g2 := F0 m 109 ls [.int r27]) rfl ?_
                  cases h
                  refine W.widen (k := 1) (n := 24) (by decide) (by decide) ?_
                  exact px_eWi hA0 hQ hP hD hS hx hb hr hlocks dX9_commitOf_109
  · rw [if_pos c3] at h
    refine lv_aload_n hx hb dX9_commitOf_13 rfl (lv_at hl 0 rfl) ?_
    refine lv_iconst (v := (nI 1)) hx hb dX9_commitOf_14 (by decide) ?_
    obtain ⟨⟨r30, w31⟩, hr32, h⟩ := ob h
    dsimp only at h
    refine px_V (As := [.int (nI 1)]) (rest := []) (gs := ([gX9 E a v_now v_tried v_kept v_undos v_saved v_isSaved v_line v_lined v_text v_length v_at v_order v_told v_error v_reason v_detail v_answer (nI 0) v_mixed v_conflicts v_firstConflict] : List va_W)) (gr := ([] : List va_W)) (gc := ([gX9 E a v_now v_tried v_kept v_undos v_saved v_isSaved v_line v_lined v_text v_length v_at v_order v_told v_error v_reason v_detail v_answer (nI 0) v_mixed v_conflicts v_firstConflict] : List va_W)) (g1 := ([gX9 E a v_now v_tried v_kept v_undos v_saved v_isSaved v_line v_lined v_text v_length v_at v_order v_told v_error v_reason v_detail v_answer w31 v_mixed v_conflicts v_firstConflict] : List va_W)) (g2 := ([gX9 E a v_now v_tried v_kept v_undos v_saved v_isSaved v_line v_lined v_text v_length v_at v_order v_told v_error v_reason v_detail v_answer w31 v_mixed v_conflicts v_firstConflict] : List va_W)) ⟨hx, hb, hml, hown, hts⟩ (c9_raises l E a  ((nI 1)) (v_now) (v_tried) (v_kept) (v_undos) (v_saved) (v_isSaved) (v_line) (v_lined) (v_text) (v_length) (v_at) (v_order) (v_told) (v_error) (v_reason) (v_detail) (v_answer) ((nI 0)) (v_mixed) (v_conflicts) (v_firstConflict) r30 w31 hr32) (cwV 1 hts (ws_v q1320 q1322 q28 q68 q1323) rfl rfl rfl hdV_X9_raises (by rw [hR]; exact ⟨Nat.le_of_ble_eq_true rfl, Nat.le_of_ble_eq_true rfl⟩)) hK hN hP hD hS hA [] [0] [0] rfl rfl (by decide) (by decide) rfl (by decide) 0 9 rfl rfl rfl rfl hl.1 rfl (Nat.le_of_ble_eq_true rfl) dX9_commitOf_15 (by rw [hR]; exact ⟨Nat.le_of_ble_eq_true rfl, Nat.le_of_ble_eq_true rfl⟩) (fun H locs hP hD hS => ?_)
    refine W.eq (g2 := F0 m 18 ls [.int r30]) rfl ?_
    cases h
    refine W.widen (k := 1) (n := 24) (by decide) (by decide) ?_
    exact px_eWi hA0 hQ hP hD hS hx hb hr hlocks dX9_commitOf_18
def f9_mixes_L13 (x1 : Int32) (x2 : Int32) (x3 : Int32) (x4 : Int32) (v_now : AI) : Nat → Int32 → AI → Int32 → Int32 → Option (AI × Int32 × Int32)
  | 0, _, _, _, _ => none
  | n + 1, x5, v_mixed, v_conflicts, v_firstConflict => (if (nI 6) ≤ x5 then (some (v_mixed, v_conflicts, v_firstConflict)) else ((f9_has (x1) (x5) (v_now)).bind fun r2 => ((f9_has (x2) (x5) (v_now)).bind fun r4 => ((f9_has (x3) (x5) (v_now)).bind fun r6 => (if inb x5 6 = true then (lt (upd v_mixed (x5).toNatClampNeg r2) fun u9 => (if r2 = r6 then (if inb x5 6 = true then (lt (upd u9 (x5).toNatClampNeg r4) fun u34 => (f9_mixes_L13 x1 x2 x3 x4 v_now n ((x5 + nI 1)) (u34) (v_conflicts) (v_firstConflict))) else none) else (if r4 = r6 then (f9_mixes_L13 x1 x2 x3 x4 v_now n ((x5 + nI 1)) (u9) (v_conflicts) (v_firstConflict)) else (if r2 = r4 then (f9_mixes_L13 x1 x2 x3 x4 v_now n ((x5 + nI 1)) (u9) (v_conflicts) (v_firstConflict)) else (lt (v_conflicts + (nI 1)) fun u14 => (if 0 ≤ v_firstConflict then (if x4 ≤ (nI 1) then (f9_mixes_L13 x1 x2 x3 x4 v_now n ((x5 + nI 1)) (u9) (u14) (v_firstConflict)) else (if x4 = (nI 2) then (if inb x5 6 = true then (lt (upd u9 (x5).toNatClampNeg r4) fun u23 => (f9_mixes_L13 x1 x2 x3 x4 v_now n ((x5 + nI 1)) (u23) (u14) (v_firstConflict))) else none) else (if inb x5 6 = true then (lt (upd u9 (x5).toNatClampNeg ((r2 + r4) / (nI 2))) fun u20 => (f9_mixes_L13 x1 x2 x3 x4 v_now n ((x5 + nI 1)) (u20) (u14) (v_firstConflict))) else none))) else (if x4 ≤ (nI 1) then (f9_mixes_L13 x1 x2 x3 x4 v_now n ((x5 + nI 1)) (u9) (u14) (x5)) else (if x4 = (nI 2) then (if inb x5 6 = true then (lt (upd u9 (x5).toNatClampNeg r4) fun u31 => (f9_mixes_L13 x1 x2 x3 x4 v_now n ((x5 + nI 1)) (u31) (u14) (x5))) else none) else (if inb x5 6 = true then (lt (upd u9 (x5).toNatClampNeg ((r2 + r4) / (nI 2))) fun u28 => (f9_mixes_L13 x1 x2 x3 x4 v_now n ((x5 + nI 1)) (u28) (u14) (x5))) else none))))))))) else none)))))
def f9_mixes (x1 : Int32) (x2 : Int32) (x3 : Int32) (x4 : Int32) (v_now : AI) (v_mixed : AI) (v_conflicts : Int32) (v_firstConflict : Int32) : Option (AI × Int32 × Int32) := (f9_mixes_L13 x1 x2 x3 x4 v_now fuel ((nI 0)) (v_mixed) ((nI 0)) ((-1 : Int32)))
set_option maxHeartbeats 4000000 in
set_option maxRecDepth 100000 in
theorem c9_mixes (l : Launch) (E : PE) (a : Nat → Nat)  (x1 : Int32) (x2 : Int32) (x3 : Int32) (x4 : Int32) (v_now : AI) (v_tried : AI) (v_kept : AI) (v_undos : Int32) (v_saved : AI) (v_isSaved : Int32) (v_line : AI) (v_lined : Int32) (v_text : AI) (v_length : Int32) (v_at : Int32) (v_order : Int32) (v_told : AI) (v_error : Int32) (v_reason : Int32) (v_detail : Int32) (v_answer : Int32) (v_thrown : Int32) (v_mixed : AI) (v_conflicts : Int32) (v_firstConflict : Int32) (z_this_mixed : AI) (z_this_conflicts : Int32) (z_this_firstConflict : Int32) (h : f9_mixes x1 x2 x3 x4 v_now v_mixed v_conflicts v_firstConflict = some (z_this_mixed, z_this_conflicts, z_this_firstConflict)) : MW l yX9_mixes cX9_mixes 9 none { frames := 2, cells := 0, slots := 0, locals := 44 } E [.ref (a 0), .int x1, .int x2, .int x3, .int x4] ([gX9 E a v_now v_tried v_kept v_undos v_saved v_isSaved v_line v_lined v_text v_length v_at v_order v_told v_error v_reason v_detail v_answer v_thrown v_mixed v_conflicts v_firstConflict] : List va_W).flatten 0 0 none ([gX9 E a v_now v_tried v_kept v_undos v_saved v_isSaved v_line v_lined v_text v_length v_at v_order v_told v_error v_reason v_detail v_answer v_thrown z_this_mixed z_this_conflicts z_this_firstConflict] : List va_W).flatten := by
  refine px_startW (by decide +kernel) (Nat.le_of_ble_eq_true rfl) ?_
  intro p e s m args below meth c R Q A ls hC hA0 hQ
  obtain ⟨hx, hb, hr, hml, hts, hown, hlocks, hR, hK, hN, hP, hD, hA, hl, hin⟩ := hC
  have hl : lv_has ls 9 [(0, .ref (a 0)), (1, .int x1), (2, .int x2), (3, .int x3), (4, .int x4)] := hl
  suffices key : ∀ (H : Heap) (locs : List Loc), va_P E.1 vwCl ([gX9 E a v_now v_tried v_kept v_undos v_saved v_isSaved v_line v_lined v_text v_length v_at v_order v_told v_error v_reason v_detail v_answer v_thrown v_mixed v_conflicts v_firstConflict] : List va_W).flatten H → va_S A s.heap H locs → W p l e R s m args below meth c H locs 0 0 Q (F0 m 0 ls []) from key s.heap [] hP va_S.rf
  unfold f9_mixes at h
  have L13 : ∀ (n : Nat) (x5 : Int32) (v_mixed : AI) (v_conflicts : Int32) (v_firstConflict : Int32) (H : Heap) (locs : List Loc) (ls : Array Slot), va_P E.1 vwCl ([gX9 E a v_now v_tried v_kept v_undos v_saved v_isSaved v_line v_lined v_text v_length v_at v_order v_told v_error v_reason v_detail v_answer v_thrown v_mixed v_conflicts v_firstConflict] : List va_W).flatten H → va_D A ([gX9 E a v_now v_tried v_kept v_undos v_saved v_isSaved v_line v_lined v_text v_length v_at v_order v_told v_error v_reason v_detail v_answer v_thrown v_mixed v_conflicts v_firstConflict] : List va_W).flatten → va_S A s.heap H locs → lv_has ls 9 [(0, .ref (a 0)), (1, .int x1), (2, .int x2), (3, .int x3), (4, .int x4), (5, .int x5)] → f9_mixes_L13 x1 x2 x3 x4 v_now n x5 v_mixed v_conflicts v_firstConflict = some (z_this_mixed, z_this_conflicts, z_this_firstConflict) → W p l e R s m args below meth c H locs 0 0 Q (F0 m 13 ls []) := by
    intro n
    induction n with
    | zero =>
      intro x5 v_mixed v_conflicts v_firstConflict H locs ls hP hD hS hl h
      unfold f9_mixes_L13 at h; cases h
    | succ n ih =>
      intro x5 v_mixed v_conflicts v_firstConflict H locs ls hP hD hS hl h
      unfold f9_mixes_L13 at h
      refine lv_iload hx hb dX9_mixes_13 (lv_at hl 5 rfl) ?_
      refine lv_bipush (v := (nI 6)) hx hb dX9_mixes_15 (by decide) ?_
      refine lv_icmp_ge (tgt := 152) hx hb dX9_mixes_17 (by decide) (fun c1 => ?_) (fun c1 => ?_)
      · rw [if_pos c1] at h
        cases h
        exact px_eWv hA0 hQ hP hD hS hx hb hr hlocks dX9_mixes_152
      · rw [if_neg c1] at h
        refine lv_aload_n hx hb dX9_mixes_20 rfl (lv_at hl 0 rfl) ?_
        refine lv_iload_n hx hb dX9_mixes_21 rfl (lv_at hl 1 rfl) ?_
        refine lv_iload hx hb dX9_mixes_22 (lv_at hl 5 rfl) ?_
        obtain ⟨r2, hr3, h⟩ := ob h
        refine px_Vp (As := [.int x1, .int x5]) (rest := []) (gs := ([gX9 E a v_now v_tried v_kept v_undos v_saved v_isSaved v_line v_lined v_text v_length v_at v_order v_told v_error v_reason v_detail v_answer v_thrown v_mixed v_conflicts v_firstConflict] : List va_W)) (gc := ([gX9 E a v_now v_tried v_kept v_undos v_saved v_isSaved v_line v_lined v_text v_length v_at v_order v_told v_error v_reason v_detail v_answer v_thrown v_mixed v_conflicts v_firstConflict] : List va_W)) ⟨hx, hb, hml, hown, hts⟩ (c9_has l E a  (x1) (x5) (v_now) (v_tried) (v_kept) (v_undos) (v_saved) (v_isSaved) (v_line) (v_lined) (v_text) (v_length) (v_at) (v_order) (v_told) (v_error) (v_reason) (v_detail) (v_answer) (v_thrown) (v_mixed) (v_conflicts) (v_firstConflict) r2 hr3) (cwV 2 hts (ws_v q1292 q1294 q21 q68 q1295) rfl rfl rfl hdV_X9_has (by rw [hR]; exact ⟨Nat.le_of_ble_eq_true rfl, Nat.le_of_ble_eq_true rfl⟩)) hK hN hP hD [0] rfl (by decide) 0 9 rfl rfl rfl rfl hl.1 rfl (Nat.le_of_ble_eq_true rfl) dX9_mixes_24 (by rw [hR]; exact ⟨Nat.le_of_ble_eq_true rfl, Nat.le_of_ble_eq_true rfl⟩) ?_
        refine W.eq (g2 := F0 m 27 ls [.int r2]) rfl ?_
        refine lv_istore (lv' := [(6, .int r2), (0, .ref (a 0)), (1, .int x1), (2, .int x2), (3, .int x3), (4, .int x4), (5, .int x5)]) hx hb dX9_mixes_27 hl (by decide) rfl (fun ls hl => ?_)
        refine lv_aload_n hx hb dX9_mixes_29 rfl (lv_at hl 1 rfl) ?_
        refine lv_iload_n hx hb dX9_mixes_30 rfl (lv_at hl 3 rfl) ?_
        refine lv_iload hx hb dX9_mixes_31 (lv_at hl 6 rfl) ?_
        obtain ⟨r4, hr5, h⟩ := ob h
        refine px_Vp (As := [.int x2, .int x5]) (rest := []) (gs := ([gX9 E a v_now v_tried v_kept v_undos v_saved v_isSaved v_line v_lined v_text v_length v_at v_order v_told v_error v_reason v_detail v_answer v_thrown v_mixed v_conflicts v_firstConflict] : List va_W)) (gc := ([gX9 E a v_now v_tried v_kept v_undos v_saved v_isSaved v_line v_lined v_text v_length v_at v_order v_told v_error v_reason v_detail v_answer v_thrown v_mixed v_conflicts v_firstConflict] : List va_W)) ⟨hx, hb, hml, hown, hts⟩ (c9_has l E a  (x2) (x5) (v_now) (v_tried) (v_kept) (v_undos) (v_saved) (v_isSaved) (v_line) (v_lined) (v_text) (v_length) (v_at) (v_order) (v_told) (v_error) (v_reason) (v_detail) (v_answer) (v_thrown) (v_mixed) (v_conflicts) (v_firstConflict) r4 hr5) (cwV 2 hts (ws_v q1292 q1294 q21 q68 q1295) rfl rfl rfl hdV_X9_has (by rw [hR]; exact ⟨Nat.le_of_ble_eq_true rfl, Nat.le_of_ble_eq_true rfl⟩)) hK hN hP hD [0] rfl (by decide) 0 9 rfl rfl rfl rfl hl.1 rfl (Nat.le_of_ble_eq_true rfl) dX9_mixes_33 (by rw [hR]; exact ⟨Nat.le_of_ble_eq_true rfl, Nat.le_of_ble_eq_true rfl⟩) ?_
        refine W.eq (g2 := F0 m 36 ls [.int r4]) rfl ?_
        refine lv_istore (lv' := [(7, .int r4), (6, .int r2), (0, .ref (a 0)), (1, .int x1), (2, .int x2), (3, .int x3), (4, .int x4), (5, .int x5)]) hx hb dX9_mixes_36 hl (by decide) rfl (fun ls hl => ?_)
        refine lv_aload_n hx hb dX9_mixes_38 rfl (lv_at hl 2 rfl) ?_
        refine lv_iload_n hx hb dX9_mixes_39 rfl (lv_at hl 5 rfl) ?_
        refine lv_iload hx hb dX9_mixes_40 (lv_at hl 7 rfl) ?_
        obtain ⟨r6, hr7, h⟩ := ob h
        refine px_Vp (As := [.int x3, .int x5]) (rest := []) (gs := ([gX9 E a v_now v_tried v_kept v_undos v_saved v_isSaved v_line v_lined v_text v_length v_at v_order v_told v_error v_reason v_detail v_answer v_thrown v_mixed v_conflicts v_firstConflict] : List va_W)) (gc := ([gX9 E a v_now v_tried v_kept v_undos v_saved v_isSaved v_line v_lined v_text v_length v_at v_order v_told v_error v_reason v_detail v_answer v_thrown v_mixed v_conflicts v_firstConflict] : List va_W)) ⟨hx, hb, hml, hown, hts⟩ (c9_has l E a  (x3) (x5) (v_now) (v_tried) (v_kept) (v_undos) (v_saved) (v_isSaved) (v_line) (v_lined) (v_text) (v_length) (v_at) (v_order) (v_told) (v_error) (v_reason) (v_detail) (v_answer) (v_thrown) (v_mixed) (v_conflicts) (v_firstConflict) r6 hr7) (cwV 2 hts (ws_v q1292 q1294 q21 q68 q1295) rfl rfl rfl hdV_X9_has (by rw [hR]; exact ⟨Nat.le_of_ble_eq_true rfl, Nat.le_of_ble_eq_true rfl⟩)) hK hN hP hD [0] rfl (by decide) 0 9 rfl rfl rfl rfl hl.1 rfl (Nat.le_of_ble_eq_true rfl) dX9_mixes_42 (by rw [hR]; exact ⟨Nat.le_of_ble_eq_true rfl, Nat.le_of_ble_eq_true rfl⟩) ?_
        refine W.eq (g2 := F0 m 45 ls [.int r6]) rfl ?_
        refine lv_istore (lv' := [(8, .int r6), (7, .int r4), (6, .int r2), (0, .ref (a 0)), (1, .int x1), (2, .int x2), (3, .int x3), (4, .int x4), (5, .int x5)]) hx hb dX9_mixes_45 hl (by decide) rfl (fun ls hl => ?_)
        refine lv_aload_n hx hb dX9_mixes_47 rfl (lv_at hl 3 rfl) ?_
        refine va_get (D := E.1) (ci := 9) (v := .ref (a 8)) (C := RX9) (T := TX9) (N := 21) hx hb hts iX9 hown hK hP 0 rfl rfl 18 (by decide) (hts _ q1216) (fun _ h9 => h9) rfl dX9_mixes_48 ?_
        refine lv_iload hx hb dX9_mixes_51 (lv_at hl 8 rfl) ?_
        refine lv_iload hx hb dX9_mixes_53 (lv_at hl 2 rfl) ?_
        obtain ⟨i8, h⟩ := o_t h
        refine va_iast (f := v_mixed) hx hb hK hP hD hS 8 0 rfl rfl (inb_in i8) dX9_mixes_55 (fun H locs hP hD hS => ?_)
        have hP : va_P E.1 vwCl ([gX9 E a v_now v_tried v_kept v_undos v_saved v_isSaved v_line v_lined v_text v_length v_at v_order v_told v_error v_reason v_detail v_answer v_thrown (upd v_mixed (x5).toNatClampNeg r2) v_conflicts v_firstConflict] : List va_W).flatten H := hP
        have hD : va_D A ([gX9 E a v_now v_tried v_kept v_undos v_saved v_isSaved v_line v_lined v_text v_length v_at v_order v_told v_error v_reason v_detail v_answer v_thrown (upd v_mixed (x5).toNatClampNeg r2) v_conflicts v_firstConflict] : List va_W).flatten := hD
        obtain ⟨u9, e10, h⟩ := lt_e h
        rw [← e10] at hP hD
        refine lv_iload hx hb dX9_mixes_56 (lv_at hl 2 rfl) ?_
        refine lv_iload hx hb dX9_mixes_58 (lv_at hl 0 rfl) ?_
        refine lv_icmp_ne (tgt := 75) hx hb dX9_mixes_60 (by decide) (fun c11 => ?_) (fun c11 => ?_)
        · rw [if_neg c11] at h
          refine lv_iload hx hb dX9_mixes_75 (lv_at hl 1 rfl) ?_
          refine lv_iload hx hb dX9_mixes_77 (lv_at hl 0 rfl) ?_
          refine lv_icmp_eq (tgt := 146) hx hb dX9_mixes_79 (by decide) (fun c12 => ?_) (fun c12 => ?_)
          · rw [if_pos c12] at h
            refine lv_iinc (v := (x5 + nI 1)) (lv' := [(5, .int (x5 + nI 1)), (8, .int r6), (7, .int r4), (6, .int r2), (0, .ref (a 0)), (1, .int x1), (2, .int x2), (3, .int x3), (4, .int x4)]) hx hb dX9_mixes_146 hl (k := 8) rfl rfl (by decide) rfl (fun ls hl => ?_)
            refine lv_goto (tgt := 13) hx hb dX9_mixes_149 (by decide) ?_
            exact ih ((x5 + nI 1)) (u9) (v_conflicts) (v_firstConflict) H locs ls hP hD hS (lv_sub hl [4, 5, 6, 7, 8, 0] rfl) h
          · rw [if_neg c12] at h
            refine lv_iload hx hb dX9_mixes_82 (lv_at hl 2 rfl) ?_
            refine lv_iload hx hb dX9_mixes_84 (lv_at hl 1 rfl) ?_
            refine lv_icmp_ne (tgt := 92) hx hb dX9_mixes_86 (by decide) (fun c13 => ?_) (fun c13 => ?_)
            · rw [if_neg c13] at h
              refine lv_aload_n hx hb dX9_mixes_92 rfl (lv_at hl 3 rfl) ?_
              refine lv_dup hx hb dX9_mixes_93 rfl ?_
              refine va_get (D := E.1) (ci := 9) (v := .int v_conflicts) (C := RX9) (T := TX9) (N := 21) hx hb hts iX9 hown hK hP 0 rfl rfl 19 (by decide) (hts _ q1217) (fun _ h9 => h9) rfl dX9_mixes_94 ?_
              refine lv_iconst (v := (nI 1)) hx hb dX9_mixes_97 (by decide) ?_
              refine lv_iadd hx hb dX9_mixes_98 ?_
              refine va_put (D := E.1) (ci := 9) (v := .int (v_conflicts + (nI 1))) (ty := .int) (C := RX9) (T := TX9) (N := 21) hx hb hts iX9 tyX9 tyX9_ok nmX9 hown hK hP hD hS 0 rfl rfl 19 (by decide) (hts _ q1217) (fun _ h9 => h9) rfl (tyX9_ok 19 (by decide)) rfl rfl (Nat.le_of_ble_eq_true rfl) dX9_mixes_99 (fun H locs hP hD hS => ?_)
              have hP : va_P E.1 vwCl ([gX9 E a v_now v_tried v_kept v_undos v_saved v_isSaved v_line v_lined v_text v_length v_at v_order v_told v_error v_reason v_detail v_answer v_thrown u9 (v_conflicts + (nI 1)) v_firstConflict] : List va_W).flatten H := hP
              have hD : va_D A ([gX9 E a v_now v_tried v_kept v_undos v_saved v_isSaved v_line v_lined v_text v_length v_at v_order v_told v_error v_reason v_detail v_answer v_thrown u9 (v_conflicts + (nI 1)) v_firstConflict] : List va_W).flatten := hD
              obtain ⟨u14, e15, h⟩ := lt_e h
              rw [← e15] at hP hD
              refine lv_aload_n hx hb dX9_mixes_102 rfl (lv_at hl 3 rfl) ?_
              refine va_get (D := E.1) (ci := 9) (v := .int v_firstConflict) (C := RX9) (T := TX9) (N := 21) hx hb hts iX9 hown hK hP 0 rfl rfl 20 (by decide) (hts _ q1218) (fun _ h9 => h9) rfl dX9_mixes_103 ?_
              refine lv_if_ge (tgt := 115) hx hb dX9_mixes_106 (by decide) (fun c16 => ?_) (fun c16 => ?_)
              · rw [if_pos c16] at h
                refine lv_iload hx hb dX9_mixes_115 (lv_at hl 7 rfl) ?_
                refine lv_iconst (v := (nI 1)) hx hb dX9_mixes_117 (by decide) ?_
                refine lv_icmp_le (tgt := 146) hx hb dX9_mixes_118 (by decide) (fun c17 => ?_) (fun c17 => ?_)
                · rw [if_pos c17] at h
                  refine lv_iinc (v := (x5 + nI 1)) (lv' := [(5, .int (x5 + nI 1)), (8, .int r6), (7, .int r4), (6, .int r2), (0, .ref (a 0)), (1, .int x1), (2, .int x2), (3, .int x3), (4, .int x4)]) hx hb dX9_mixes_146 hl (k := 8) rfl rfl (by decide) rfl (fun ls hl => ?_)
                  refine lv_goto (tgt := 13) hx hb dX9_mixes_149 (by decide) ?_
                  exact ih ((x5 + nI 1)) (u9) (u14) (v_firstConflict) H locs ls hP hD hS (lv_sub hl [4, 5, 6, 7, 8, 0] rfl) h
                · rw [if_neg c17] at h
                  refine lv_aload_n hx hb dX9_mixes_121 rfl (lv_at hl 3 rfl) ?_
                  refine va_get (D := E.1) (ci := 9) (v := .ref (a 8)) (C := RX9) (T := TX9) (N := 21) hx hb hts iX9 hown hK hP 0 rfl rfl 18 (by decide) (hts _ q1216) (fun _ h9 => h9) rfl dX9_mixes_122 ?_
                  refine lv_iload hx hb dX9_mixes_125 (lv_at hl 8 rfl) ?_
                  refine lv_iload hx hb dX9_mixes_127 (lv_at hl 7 rfl) ?_
                  refine lv_iconst (v := (nI 2)) hx hb dX9_mixes_129 (by decide) ?_
                  refine lv_icmp_ne (tgt := 138) hx hb dX9_mixes_130 (by decide) (fun c18 => ?_) (fun c18 => ?_)
                  · rw [if_neg c18] at h
                    refine lv_iload hx hb dX9_mixes_138 (lv_at hl 2 rfl) ?_
                    refine lv_iload hx hb dX9_mixes_140 (lv_at hl 1 rfl) ?_
                    refine lv_iadd hx hb dX9_mixes_142 ?_
                    refine lv_iconst (v := (nI 2)) hx hb dX9_mixes_143 (by decide) ?_
                    refine lv_idiv hx hb dX9_mixes_144 (by decide) ?_
                    obtain ⟨i19, h⟩ := o_t h
                    refine va_iast (f := u9) hx hb hK hP hD hS 8 0 rfl rfl (inb_in i19) dX9_mixes_145 (fun H locs hP hD hS => ?_)
                    have hP : va_P E.1 vwCl ([gX9 E a v_now v_tried v_kept v_undos v_saved v_isSaved v_line v_lined v_text v_length v_at v_order v_told v_error v_reason v_detail v_answer v_thrown (upd u9 (x5).toNatClampNeg ((r2 + r4) / (nI 2))) u14 v_firstConflict] : List va_W).flatten H := hP
                    have hD : va_D A ([gX9 E a v_now v_tried v_kept v_undos v_saved v_isSaved v_line v_lined v_text v_length v_at v_order v_told v_error v_reason v_detail v_answer v_thrown (upd u9 (x5).toNatClampNeg ((r2 + r4) / (nI 2))) u14 v_firstConflict] : List va_W).flatten := hD
                    obtain ⟨u20, e21, h⟩ := lt_e h
                    rw [← e21] at hP hD
                    refine lv_iinc (v := (x5 + nI 1)) (lv' := [(5, .int (x5 + nI 1)), (8, .int r6), (7, .int r4), (6, .int r2), (0, .ref (a 0)), (1, .int x1), (2, .int x2), (3, .int x3), (4, .int x4)]) hx hb dX9_mixes_146 hl (k := 8) rfl rfl (by decide) rfl (fun ls hl => ?_)
                    refine lv_goto (tgt := 13) hx hb dX9_mixes_149 (by decide) ?_
                    exact ih ((x5 + nI 1)) (u20) (u14) (v_firstConflict) H locs ls hP hD hS (lv_sub hl [4, 5, 6, 7, 8, 0] rfl) h
                  · rw [if_pos c18] at h
                    refine lv_iload hx hb dX9_mixes_133 (lv_at hl 1 rfl) ?_
                    refine lv_goto (tgt := 145) hx hb dX9_mixes_135 (by decide) ?_
                    obtain ⟨i22, h⟩ := o_t h
                    refine va_iast (f := u9) hx hb hK hP hD hS 8 0 rfl rfl (inb_in i22) dX9_mixes_145 (fun H locs hP hD hS => ?_)
                    have hP : va_P E.1 vwCl ([gX9 E a v_now v_tried v_kept v_undos v_saved v_isSaved v_line v_lined v_text v_length v_at v_order v_told v_error v_reason v_detail v_answer v_thrown (upd u9 (x5).toNatClampNeg r4) u14 v_firstConflict] : List va_W).flatten H := hP
                    have hD : va_D A ([gX9 E a v_now v_tried v_kept v_undos v_saved v_isSaved v_line v_lined v_text v_length v_at v_order v_told v_error v_reason v_detail v_answer v_thrown (upd u9 (x5).toNatClampNeg r4) u14 v_firstConflict] : List va_W).flatten := hD
                    obtain ⟨u23, e24, h⟩ := lt_e h
                    rw [← e24] at hP hD
                    refine lv_iinc (v := (x5 + nI 1)) (lv' := [(5, .int (x5 + nI 1)), (8, .int r6), (7, .int r4), (6, .int r2), (0, .ref (a 0)), (1, .int x1), (2, .int x2), (3, .int x3), (4, .int x4)]) hx hb dX9_mixes_146 hl (k := 8) rfl rfl (by decide) rfl (fun ls hl => ?_)
                    refine lv_goto (tgt := 13) hx hb dX9_mixes_149 (by decide) ?_
                    exact ih ((x5 + nI 1)) (u23) (u14) (v_firstConflict) H locs ls hP hD hS (lv_sub hl [4, 5, 6, 7, 8, 0] rfl) h
              · rw [if_neg c16] at h
                refine lv_aload_n hx hb dX9_mixes_109 rfl (lv_at hl 3 rfl) ?_
                refine lv_iload hx hb dX9_mixes_110 (lv_at hl 8 rfl) ?_
                refine va_put (D := E.1) (ci := 9) (v := .int x5) (ty := .int) (C := RX9) (T := TX9) (N := 21) hx hb hts iX9 tyX9 tyX9_ok nmX9 hown hK hP hD hS 0 rfl rfl 20 (by decide) (hts _ q1218) (fun _ h9 => h9) rfl (tyX9_ok 20 (by decide)) rfl rfl (Nat.le_of_ble_eq_true rfl) dX9_mixes_112 (fun H locs hP hD hS => ?_)
                have hP : va_P E.1 vwCl ([gX9 E a v_now v_tried v_kept v_undos v_saved v_isSaved v_line v_lined v_text v_length v_at v_order v_told v_error v_reason v_detail v_answer v_thrown u9 u14 x5] : List va_W).flatten H := hP
                have hD : va_D A ([gX9 E a v_now v_tried v_kept v_undos v_saved v_isSaved v_line v_lined v_text v_length v_at v_order v_told v_error v_reason v_detail v_answer v_thrown u9 u14 x5] : List va_W).flatten := hD
                refine lv_iload hx hb dX9_mixes_115 (lv_at hl 7 rfl) ?_
                refine lv_iconst (v := (nI 1)) hx hb dX9_mixes_117 (by decide) ?_
                refine lv_icmp_le (tgt := 146) hx hb dX9_mixes_118 (by decide) (fun c25 => ?_) (fun c25 => ?_)
                · rw [if_pos c25] at h
                  refine lv_iinc (v := (x5 + nI 1)) (lv' := [(5, .int (x5 + nI 1)), (8, .int r6), (7, .int r4), (6, .int r2), (0, .ref (a 0)), (1, .int x1), (2, .int x2), (3, .int x3), (4, .int x4)]) hx hb dX9_mixes_146 hl (k := 8) rfl rfl (by decide) rfl (fun ls hl => ?_)
                  refine lv_goto (tgt := 13) hx hb dX9_mixes_149 (by decide) ?_
                  exact ih ((x5 + nI 1)) (u9) (u14) (x5) H locs ls hP hD hS (lv_sub hl [4, 5, 6, 7, 8, 0] rfl) h
                · rw [if_neg c25] at h
                  refine lv_aload_n hx hb dX9_mixes_121 rfl (lv_at hl 3 rfl) ?_
                  refine va_get (D := E.1) (ci := 9) (v := .ref (a 8)) (C := RX9) (T := TX9) (N := 21) hx hb hts iX9 hown hK hP 0 rfl rfl 18 (by decide) (hts _ q1216) (fun _ h9 => h9) rfl dX9_mixes_122 ?_
                  refine lv_iload hx hb dX9_mixes_125 (lv_at hl 8 rfl) ?_
                  refine lv_iload hx hb dX9_mixes_127 (lv_at hl 7 rfl) ?_
                  refine lv_iconst (v := (nI 2)) hx hb dX9_mixes_129 (by decide) ?_
                  refine lv_icmp_ne (tgt := 138) hx hb dX9_mixes_130 (by decide) (fun c26 => ?_) (fun c26 => ?_)
                  · rw [if_neg c26] at h
                    refine lv_iload hx hb dX9_mixes_138 (lv_at hl 2 rfl) ?_
                    refine lv_iload hx hb dX9_mixes_140 (lv_at hl 1 rfl) ?_
                    refine lv_iadd hx hb dX9_mixes_142 ?_
                    refine lv_iconst (v := (nI 2)) hx hb dX9_mixes_143 (by decide) ?_
                    refine lv_idiv hx hb dX9_mixes_144 (by decide) ?_
                    obtain ⟨i27, h⟩ := o_t h
                    refine va_iast (f := u9) hx hb hK hP hD hS 8 0 rfl rfl (inb_in i27) dX9_mixes_145 (fun H locs hP hD hS => ?_)
                    have hP : va_P E.1 vwCl ([gX9 E a v_now v_tried v_kept v_undos v_saved v_isSaved v_line v_lined v_text v_length v_at v_order v_told v_error v_reason v_detail v_answer v_thrown (upd u9 (x5).toNatClampNeg ((r2 + r4) / (nI 2))) u14 x5] : List va_W).flatten H := hP
                    have hD : va_D A ([gX9 E a v_now v_tried v_kept v_undos v_saved v_isSaved v_line v_lined v_text v_length v_at v_order v_told v_error v_reason v_detail v_answer v_thrown (upd u9 (x5).toNatClampNeg ((r2 + r4) / (nI 2))) u14 x5] : List va_W).flatten := hD
                    obtain ⟨u28, e29, h⟩ := lt_e h
                    rw [← e29] at hP hD
                    refine lv_iinc (v := (x5 + nI 1)) (lv' := [(5, .int (x5 + nI 1)), (8, .int r6), (7, .int r4), (6, .int r2), (0, .ref (a 0)), (1, .int x1), (2, .int x2), (3, .int x3), (4, .int x4)]) hx hb dX9_mixes_146 hl (k := 8) rfl rfl (by decide) rfl (fun ls hl => ?_)
                    refine lv_goto (tgt := 13) hx hb dX9_mixes_149 (by decide) ?_
                    exact ih ((x5 + nI 1)) (u28) (u14) (x5) H locs ls hP hD hS (lv_sub hl [4, 5, 6, 7, 8, 0] rfl) h
                  · rw [if_pos c26] at h
                    refine lv_iload hx hb dX9_mixes_133 (lv_at hl 1 rfl) ?_
                    refine lv_goto (tgt := 145) hx hb dX9_mixes_135 (by decide) ?_
                    obtain ⟨i30, h⟩ := o_t h
                    refine va_iast (f := u9) hx hb hK hP hD hS 8 0 rfl rfl (inb_in i30) dX9_mixes_145 (fun H locs hP hD hS => ?_)
                    have hP : va_P E.1 vwCl ([gX9 E a v_now v_tried v_kept v_undos v_saved v_isSaved v_line v_lined v_text v_length v_at v_order v_told v_error v_reason v_detail v_answer v_thrown (upd u9 (x5).toNatClampNeg r4) u14 x5] : List va_W).flatten H := hP
                    have hD : va_D A ([gX9 E a v_now v_tried v_kept v_undos v_saved v_isSaved v_line v_lined v_text v_length v_at v_order v_told v_error v_reason v_detail v_answer v_thrown (upd u9 (x5).toNatClampNeg r4) u14 x5] : List va_W).flatten := hD
                    obtain ⟨u31, e32, h⟩ := lt_e h
                    rw [← e32] at hP hD
                    refine lv_iinc (v := (x5 + nI 1)) (lv' := [(5, .int (x5 + nI 1)), (8, .int r6), (7, .int r4), (6, .int r2), (0, .ref (a 0)), (1, .int x1), (2, .int x2), (3, .int x3), (4, .int x4)]) hx hb dX9_mixes_146 hl (k := 8) rfl rfl (by decide) rfl (fun ls hl => ?_)
                    refine lv_goto (tgt := 13) hx hb dX9_mixes_149 (by decide) ?_
                    exact ih ((x5 + nI 1)) (u31) (u14) (x5) H locs ls hP hD hS (lv_sub hl [4, 5, 6, 7, 8, 0] rfl) h
            · rw [if_pos c13] at h
              refine lv_goto (tgt := 146) hx hb dX9_mixes_89 (by decide) ?_
              refine lv_iinc (v := (x5 + nI 1)) (lv' := [(5, .int (x5 + nI 1)), (8, .int r6), (7, .int r4), (6, .int r2), (0, .ref (a 0)), (1, .int x1), (2, .int x2), (3, .int x3), (4, .int x4)]) hx hb dX9_mixes_146 hl (k := 8) rfl rfl (by decide) rfl (fun ls hl => ?_)
              refine lv_goto (tgt := 13) hx hb dX9_mixes_149 (by decide) ?_
              exact ih ((x5 + nI 1)) (u9) (v_conflicts) (v_firstConflict) H locs ls hP hD hS (lv_sub hl [4, 5, 6, 7, 8, 0] rfl) h
        · rw [if_pos c11] at h
          refine lv_aload_n hx hb dX9_mixes_63 rfl (lv_at hl 3 rfl) ?_
          refine va_get (D := E.1) (ci := 9) (v := .ref (a 8)) (C := RX9) (T := TX9) (N := 21) hx hb hts iX9 hown hK hP 0 rfl rfl 18 (by decide) (hts _ q1216) (fun _ h9 => h9) rfl dX9_mixes_64 ?_
          refine lv_iload hx hb dX9_mixes_67 (lv_at hl 8 rfl) ?_
          refine lv_iload hx hb dX9_mixes_69 (lv_at hl 1 rfl) ?_
          obtain ⟨i33, h⟩ := o_t h
          refine va_iast (f := u9) hx hb hK hP hD hS 8 0 rfl rfl (inb_in i33) dX9_mixes_71 (fun H locs hP hD hS => ?_)
          have hP : va_P E.1 vwCl ([gX9 E a v_now v_tried v_kept v_undos v_saved v_isSaved v_line v_lined v_text v_length v_at v_order v_told v_error v_reason v_detail v_answer v_thrown (upd u9 (x5).toNatClampNeg r4) v_conflicts v_firstConflict] : List va_W).flatten H := hP
          have hD : va_D A ([gX9 E a v_now v_tried v_kept v_undos v_saved v_isSaved v_line v_lined v_text v_length v_at v_order v_told v_error v_reason v_detail v_answer v_thrown (upd u9 (x5).toNatClampNeg r4) v_conflicts v_firstConflict] : List va_W).flatten := hD
          obtain ⟨u34, e35, h⟩ := lt_e h
          rw [← e35] at hP hD
          refine lv_goto (tgt := 146) hx hb dX9_mixes_72 (by decide) ?_
          refine lv_iinc (v := (x5 + nI 1)) (lv' := [(5, .int (x5 + nI 1)), (8, .int r6), (7, .int r4), (6, .int r2), (0, .ref (a 0)), (1, .int x1), (2, .int x2), (3, .int x3), (4, .int x4)]) hx hb dX9_mixes_146 hl (k := 8) rfl rfl (by decide) rfl (fun ls hl => ?_)
          refine lv_goto (tgt := 13) hx hb dX9_mixes_149 (by decide) ?_
          exact ih ((x5 + nI 1)) (u34) (v_conflicts) (v_firstConflict) H locs ls hP hD hS (lv_sub hl [4, 5, 6, 7, 8, 0] rfl) h
  intro H locs hP hS
  refine lv_aload_n hx hb dX9_mixes_0 rfl (lv_at hl 0 rfl) ?_
  refine lv_iconst (v := (nI 0)) hx hb dX9_mixes_1 (by decide) ?_
  refine va_put (D := E.1) (ci := 9) (v := .int (nI 0)) (ty := .int) (C := RX9) (T := TX9) (N := 21) hx hb hts iX9 tyX9 tyX9_ok nmX9 hown hK hP hD hS 0 rfl rfl 19 (by decide) (hts _ q1217) (fun _ h9 => h9) rfl (tyX9_ok 19 (by decide)) rfl rfl (Nat.le_of_ble_eq_true rfl) dX9_mixes_2 (fun H locs hP hD hS => ?_)
  have hP : va_P E.1 vwCl ([gX9 E a v_now v_tried v_kept v_undos v_saved v_isSaved v_line v_lined v_text v_length v_at v_order v_told v_error v_reason v_detail v_answer v_thrown v_mixed (nI 0) v_firstConflict] : List va_W).flatten H := hP
  have hD : va_D A ([gX9 E a v_now v_tried v_kept v_undos v_saved v_isSaved v_line v_lined v_text v_length v_at v_order v_told v_error v_reason v_detail v_answer v_thrown v_mixed (nI 0) v_firstConflict] : List va_W).flatten := hD
  refine lv_aload_n hx hb dX9_mixes_5 rfl (lv_at hl 0 rfl) ?_
  refine lv_iconst (v := (-1 : Int32)) hx hb dX9_mixes_6 (by decide) ?_
  refine va_put (D := E.1) (ci := 9) (v := .int (-1 : Int32)) (ty := .int) (C := RX9) (T := TX9) (N := 21) hx hb hts iX9 tyX9 tyX9_ok nmX9 hown hK hP hD hS 0 rfl rfl 20 (by decide) (hts _ q1218) (fun _ h9 => h9) rfl (tyX9_ok 20 (by decide)) rfl rfl (Nat.le_of_ble_eq_true rfl) dX9_mixes_7 (fun H locs hP hD hS => ?_)
  have hP : va_P E.1 vwCl ([gX9 E a v_now v_tried v_kept v_undos v_saved v_isSaved v_line v_lined v_text v_length v_at v_order v_told v_error v_reason v_detail v_answer v_thrown v_mixed (nI 0) (-1 : Int32)] : List va_W).flatten H := hP
  have hD : va_D A ([gX9 E a v_now v_tried v_kept v_undos v_saved v_isSaved v_line v_lined v_text v_length v_at v_order v_told v_error v_reason v_detail v_answer v_thrown v_mixed (nI 0) (-1 : Int32)] : List va_W).flatten := hD
  refine lv_iconst (v := (nI 0)) hx hb dX9_mixes_10 (by decide) ?_
  refine lv_istore (lv' := [(5, .int (nI 0)), (0, .ref (a 0)), (1, .int x1), (2, .int x2), (3, .int x3), (4, .int x4)]) hx hb dX9_mixes_11 hl (by decide) rfl (fun ls hl => ?_)
  exact L13 fuel ((nI 0)) (v_mixed) ((nI 0)) ((-1 : Int32)) H locs ls hP hD hS (lv_sub hl [1, 2, 3, 4, 5, 0] rfl) h
def f9_lays_L2 (x1 : Int32) (v_mixed : AI) : Nat → Int32 → AI → Option (AI)
  | 0, _, _ => none
  | n + 1, x2, v_now => (if (nI 6) ≤ x2 then (some v_now) else (if inb x2 6 = true then (if inb ((((nI 12) + ((nI 9) * x1)) + (nI 3)) + x2) 228 = true then (lt (upd v_now (((((nI 12) + ((nI 9) * x1)) + (nI 3)) + x2)).toNatClampNeg (v_mixed (x2).toNatClampNeg)) fun u4 => (f9_lays_L2 x1 v_mixed n ((x2 + nI 1)) (u4))) else none) else none))
def f9_lays (x1 : Int32) (v_now : AI) (v_mixed : AI) : Option (AI) := (f9_lays_L2 x1 v_mixed fuel ((nI 0)) (v_now))
set_option maxHeartbeats 4000000 in
set_option maxRecDepth 100000 in
theorem c9_lays (l : Launch) (E : PE) (a : Nat → Nat)  (x1 : Int32) (v_now : AI) (v_tried : AI) (v_kept : AI) (v_undos : Int32) (v_saved : AI) (v_isSaved : Int32) (v_line : AI) (v_lined : Int32) (v_text : AI) (v_length : Int32) (v_at : Int32) (v_order : Int32) (v_told : AI) (v_error : Int32) (v_reason : Int32) (v_detail : Int32) (v_answer : Int32) (v_thrown : Int32) (v_mixed : AI) (v_conflicts : Int32) (v_firstConflict : Int32) (z_this_now : AI) (h : f9_lays x1 v_now v_mixed = some z_this_now) : MW l yX9_lays cX9_lays 3 none { frames := 0, cells := 0, slots := 0, locals := 0 } E [.ref (a 0), .int x1] ([gX9 E a v_now v_tried v_kept v_undos v_saved v_isSaved v_line v_lined v_text v_length v_at v_order v_told v_error v_reason v_detail v_answer v_thrown v_mixed v_conflicts v_firstConflict] : List va_W).flatten 0 0 none ([gX9 E a z_this_now v_tried v_kept v_undos v_saved v_isSaved v_line v_lined v_text v_length v_at v_order v_told v_error v_reason v_detail v_answer v_thrown v_mixed v_conflicts v_firstConflict] : List va_W).flatten := by
  refine px_startW (by decide +kernel) (Nat.le_of_ble_eq_true rfl) ?_
  intro p e s m args below meth c R Q A ls hC hA0 hQ
  obtain ⟨hx, hb, hr, hml, hts, hown, hlocks, hR, hK, hN, hP, hD, hA, hl, hin⟩ := hC
  have hl : lv_has ls 3 [(0, .ref (a 0)), (1, .int x1)] := hl
  suffices key : ∀ (H : Heap) (locs : List Loc), va_P E.1 vwCl ([gX9 E a v_now v_tried v_kept v_undos v_saved v_isSaved v_line v_lined v_text v_length v_at v_order v_told v_error v_reason v_detail v_answer v_thrown v_mixed v_conflicts v_firstConflict] : List va_W).flatten H → va_S A s.heap H locs → W p l e R s m args below meth c H locs 0 0 Q (F0 m 0 ls []) from key s.heap [] hP va_S.rf
  unfold f9_lays at h
  have L2 : ∀ (n : Nat) (x2 : Int32) (v_now : AI) (H : Heap) (locs : List Loc) (ls : Array Slot), va_P E.1 vwCl ([gX9 E a v_now v_tried v_kept v_undos v_saved v_isSaved v_line v_lined v_text v_length v_at v_order v_told v_error v_reason v_detail v_answer v_thrown v_mixed v_conflicts v_firstConflict] : List va_W).flatten H → va_D A ([gX9 E a v_now v_tried v_kept v_undos v_saved v_isSaved v_line v_lined v_text v_length v_at v_order v_told v_error v_reason v_detail v_answer v_thrown v_mixed v_conflicts v_firstConflict] : List va_W).flatten → va_S A s.heap H locs → lv_has ls 3 [(0, .ref (a 0)), (1, .int x1), (2, .int x2)] → f9_lays_L2 x1 v_mixed n x2 v_now = some z_this_now → W p l e R s m args below meth c H locs 0 0 Q (F0 m 2 ls []) := by
    intro n
    induction n with
    | zero =>
      intro x2 v_now H locs ls hP hD hS hl h
      unfold f9_lays_L2 at h; cases h
    | succ n ih =>
      intro x2 v_now H locs ls hP hD hS hl h
      unfold f9_lays_L2 at h
      refine lv_iload_n hx hb dX9_lays_2 rfl (lv_at hl 2 rfl) ?_
      refine lv_bipush (v := (nI 6)) hx hb dX9_lays_3 (by decide) ?_
      refine lv_icmp_ge (tgt := 36) hx hb dX9_lays_5 (by decide) (fun c1 => ?_) (fun c1 => ?_)
      · rw [if_pos c1] at h
        cases h
        exact px_eWv hA0 hQ hP hD hS hx hb hr hlocks dX9_lays_36
      · rw [if_neg c1] at h
        refine lv_aload_n hx hb dX9_lays_8 rfl (lv_at hl 0 rfl) ?_
        refine va_get (D := E.1) (ci := 9) (v := .ref (a 1)) (C := RX9) (T := TX9) (N := 21) hx hb hts iX9 hown hK hP 0 rfl rfl 0 (by decide) (hts _ q1198) (fun _ h9 => h9) rfl dX9_lays_9 ?_
        refine lv_bipush (v := (nI 12)) hx hb dX9_lays_12 (by decide) ?_
        refine lv_bipush (v := (nI 9)) hx hb dX9_lays_14 (by decide) ?_
        refine lv_iload_n hx hb dX9_lays_16 rfl (lv_at hl 1 rfl) ?_
        refine lv_imul hx hb dX9_lays_17 ?_
        refine lv_iadd hx hb dX9_lays_18 ?_
        refine lv_iconst (v := (nI 3)) hx hb dX9_lays_19 (by decide) ?_
        refine lv_iadd hx hb dX9_lays_20 ?_
        refine lv_iload_n hx hb dX9_lays_21 rfl (lv_at hl 2 rfl) ?_
        refine lv_iadd hx hb dX9_lays_22 ?_
        refine lv_aload_n hx hb dX9_lays_23 rfl (lv_at hl 0 rfl) ?_
        refine va_get (D := E.1) (ci := 9) (v := .ref (a 8)) (C := RX9) (T := TX9) (N := 21) hx hb hts iX9 hown hK hP 0 rfl rfl 18 (by decide) (hts _ q1216) (fun _ h9 => h9) rfl dX9_lays_24 ?_
        refine lv_iload_n hx hb dX9_lays_27 rfl (lv_at hl 2 rfl) ?_
        obtain ⟨i2, h⟩ := o_t h
        refine va_iald (f := v_mixed) hx hb hK hP 8 0 rfl rfl (inb_in i2) dX9_lays_28 ?_
        obtain ⟨i3, h⟩ := o_t h
        refine va_iast (f := v_now) hx hb hK hP hD hS 1 0 rfl rfl (inb_in i3) dX9_lays_29 (fun H locs hP hD hS => ?_)
        have hP : va_P E.1 vwCl ([gX9 E a (upd v_now (((((nI 12) + ((nI 9) * x1)) + (nI 3)) + x2)).toNatClampNeg (v_mixed (x2).toNatClampNeg)) v_tried v_kept v_undos v_saved v_isSaved v_line v_lined v_text v_length v_at v_order v_told v_error v_reason v_detail v_answer v_thrown v_mixed v_conflicts v_firstConflict] : List va_W).flatten H := hP
        have hD : va_D A ([gX9 E a (upd v_now (((((nI 12) + ((nI 9) * x1)) + (nI 3)) + x2)).toNatClampNeg (v_mixed (x2).toNatClampNeg)) v_tried v_kept v_undos v_saved v_isSaved v_line v_lined v_text v_length v_at v_order v_told v_error v_reason v_detail v_answer v_thrown v_mixed v_conflicts v_firstConflict] : List va_W).flatten := hD
        obtain ⟨u4, e5, h⟩ := lt_e h
        rw [← e5] at hP hD
        refine lv_iinc (v := (x2 + nI 1)) (lv' := [(2, .int (x2 + nI 1)), (0, .ref (a 0)), (1, .int x1)]) hx hb dX9_lays_30 hl (k := 2) rfl rfl (by decide) rfl (fun ls hl => ?_)
        refine lv_goto (tgt := 2) hx hb dX9_lays_33 (by decide) ?_
        exact ih ((x2 + nI 1)) (u4) H locs ls hP hD hS (lv_sub hl [1, 2, 0] rfl) h
  intro H locs hP hS
  refine lv_iconst (v := (nI 0)) hx hb dX9_lays_0 (by decide) ?_
  refine lv_istore_n (lv' := [(2, .int (nI 0)), (0, .ref (a 0)), (1, .int x1)]) hx hb dX9_lays_1 rfl hl (by decide) rfl (fun ls hl => ?_)
  exact L2 fuel ((nI 0)) (v_now) H locs ls hP hD hS (lv_sub hl [1, 2, 0] rfl) h
def f9_merges (x1 : Int32) (x2 : Int32) (x3 : Int32) (v_now : AI) (v_reason : Int32) (v_detail : Int32) (v_answer : Int32) (v_mixed : AI) (v_conflicts : Int32) (v_firstConflict : Int32) : Option (Int32 × AI × Int32 × Int32 × Int32 × AI × Int32 × Int32) := ((f9_isBranch (x1) (v_now)).bind fun r1 => (if (b2i r1) = 0 then (some ((nI 1), v_now, v_reason, v_detail, v_answer, v_mixed, v_conflicts, v_firstConflict)) else ((f9_isBranch (x2) (v_now)).bind fun r4 => (if (b2i r4) = 0 then (some ((nI 1), v_now, v_reason, v_detail, v_answer, v_mixed, v_conflicts, v_firstConflict)) else ((f9_in (x3) ((nI 0)) ((nI 3))).bind fun r7 => (if (b2i r7) = 0 then (some ((nI 2), v_now, v_reason, v_detail, v_answer, v_mixed, v_conflicts, v_firstConflict)) else ((f9_top (x1) (v_now)).bind fun r10 => ((f9_top (x2) (v_now)).bind fun r12 => ((f9_isWithin (r12) (r10) (v_now)).bind fun r14 => (if (b2i r14) = 0 then ((f9_isWithin (r10) (r12) (v_now)).bind fun r17 => (if (b2i r17) = 0 then ((f9_common (r10) (r12) (v_now)).bind fun r20 => ((f9_mixes (r10) (r12) (r20) (x3) (v_now) (v_mixed) (v_conflicts) (v_firstConflict)).bind fun (w22, w23, w24) => (if w23 ≤ 0 then (if (v_now ((nI 0)).toNatClampNeg) = (nI 24) then ((f9_refuses ((nI 1)) ((nI 24)) (v_reason) (v_detail)).bind fun (r36, w37, w38) => (some (r36, v_now, w37, w38, v_answer, w22, w23, w24))) else ((f9_comes (x1) ((nI 1)) (r12) (v_now)).bind fun (r28, w29) => ((f9_lays (r28) (w29) (w22)).bind fun w31 => ((f9_does (r28) (v_answer)).bind fun (r33, w34) => (some (r33, w31, v_reason, v_detail, w34, w22, w23, w24)))))) else (if x3 = 0 then ((f9_refuses ((nI 5)) (w24) (v_reason) (v_detail)).bind fun (r54, w55, w56) => (some (r54, v_now, w55, w56, v_answer, w22, w23, w24))) else (if (v_now ((nI 0)).toNatClampNeg) = (nI 24) then ((f9_refuses ((nI 1)) ((nI 24)) (v_reason) (v_detail)).bind fun (r50, w51, w52) => (some (r50, v_now, w51, w52, v_answer, w22, w23, w24))) else ((f9_comes (x1) ((nI 1)) (r12) (v_now)).bind fun (r42, w43) => ((f9_lays (r42) (w43) (w22)).bind fun w45 => ((f9_does (r42) (v_answer)).bind fun (r47, w48) => (some (r47, w45, v_reason, v_detail, w48, w22, w23, w24)))))))))) else (if inb ((nI 7) + x1) 228 = true then (lt (upd v_now (((nI 7) + x1)).toNatClampNeg r12) fun u59 => ((f9_does (r12) (v_answer)).bind fun (r61, w62) => (some (r61, u59, v_reason, v_detail, w62, v_mixed, v_conflicts, v_firstConflict)))) else none))) else ((f9_refuses ((nI 4)) (r12) (v_reason) (v_detail)).bind fun (r64, w65, w66) => (some (r64, v_now, w65, w66, v_answer, v_mixed, v_conflicts, v_firstConflict)))))))))))))
set_option maxHeartbeats 4000000 in
set_option maxRecDepth 100000 in
theorem c9_merges (l : Launch) (E : PE) (a : Nat → Nat)  (x1 : Int32) (x2 : Int32) (x3 : Int32) (v_now : AI) (v_tried : AI) (v_kept : AI) (v_undos : Int32) (v_saved : AI) (v_isSaved : Int32) (v_line : AI) (v_lined : Int32) (v_text : AI) (v_length : Int32) (v_at : Int32) (v_order : Int32) (v_told : AI) (v_error : Int32) (v_reason : Int32) (v_detail : Int32) (v_answer : Int32) (v_thrown : Int32) (v_mixed : AI) (v_conflicts : Int32) (v_firstConflict : Int32) (r : Int32) (z_this_now : AI) (z_this_reason : Int32) (z_this_detail : Int32) (z_this_answer : Int32) (z_this_mixed : AI) (z_this_conflicts : Int32) (z_this_firstConflict : Int32) (h : f9_merges x1 x2 x3 v_now v_reason v_detail v_answer v_mixed v_conflicts v_firstConflict = some (r, z_this_now, z_this_reason, z_this_detail, z_this_answer, z_this_mixed, z_this_conflicts, z_this_firstConflict)) : MW l yX9_merges cX9_merges 7 (some .int) { frames := 3, cells := 0, slots := 0, locals := 72 } E [.ref (a 0), .int x1, .int x2, .int x3] ([gX9 E a v_now v_tried v_kept v_undos v_saved v_isSaved v_line v_lined v_text v_length v_at v_order v_told v_error v_reason v_detail v_answer v_thrown v_mixed v_conflicts v_firstConflict] : List va_W).flatten 0 0 (some (.int r)) ([gX9 E a z_this_now v_tried v_kept v_undos v_saved v_isSaved v_line v_lined v_text v_length v_at v_order v_told v_error z_this_reason z_this_detail z_this_answer v_thrown z_this_mixed z_this_conflicts z_this_firstConflict] : List va_W).flatten := by
  refine px_startW (by decide +kernel) (Nat.le_of_ble_eq_true rfl) ?_
  intro p e s m args below meth c R Q A ls hC hA0 hQ
  obtain ⟨hx, hb, hr, hml, hts, hown, hlocks, hR, hK, hN, hP, hD, hA, hl, hin⟩ := hC
  have hl : lv_has ls 7 [(0, .ref (a 0)), (1, .int x1), (2, .int x2), (3, .int x3)] := hl
  suffices key : ∀ (H : Heap) (locs : List Loc), va_P E.1 vwCl ([gX9 E a v_now v_tried v_kept v_undos v_saved v_isSaved v_line v_lined v_text v_length v_at v_order v_told v_error v_reason v_detail v_answer v_thrown v_mixed v_conflicts v_firstConflict] : List va_W).flatten H → va_S A s.heap H locs → W p l e R s m args below meth c H locs 0 0 Q (F0 m 0 ls []) from key s.heap [] hP va_S.rf
  unfold f9_merges at h
  intro H locs hP hS
  refine lv_aload_n hx hb dX9_merges_0 rfl (lv_at hl 0 rfl) ?_
  refine lv_iload_n hx hb dX9_merges_1 rfl (lv_at hl 1 rfl) ?_
  obtain ⟨r1, hr2, h⟩ := ob h
  refine px_Vp (As := [.int x1]) (rest := []) (gs := ([gX9 E a v_now v_tried v_kept v_undos v_saved v_isSaved v_line v_lined v_text v_length v_at v_order v_told v_error v_reason v_detail v_answer v_thrown v_mixed v_conflicts v_firstConflict] : List va_W)) (gc := ([gX9 E a v_now v_tried v_kept v_undos v_saved v_isSaved v_line v_lined v_text v_length v_at v_order v_told v_error v_reason v_detail v_answer v_thrown v_mixed v_conflicts v_firstConflict] : List va_W)) ⟨hx, hb, hml, hown, hts⟩ (c9_isBranch l E a  (x1) (v_now) (v_tried) (v_kept) (v_undos) (v_saved) (v_isSaved) (v_line) (v_lined) (v_text) (v_length) (v_at) (v_order) (v_told) (v_error) (v_reason) (v_detail) (v_answer) (v_thrown) (v_mixed) (v_conflicts) (v_firstConflict) r1 hr2) (cwV 1 hts (ws_v q1278 q1280 q19 q68 q1281) rfl rfl rfl hdV_X9_isBranch (by rw [hR]; exact ⟨Nat.le_of_ble_eq_true rfl, Nat.le_of_ble_eq_true rfl⟩)) hK hN hP hD [0] rfl (by decide) 0 9 rfl rfl rfl rfl hl.1 rfl (Nat.le_of_ble_eq_true rfl) dX9_merges_2 (by rw [hR]; exact ⟨Nat.le_of_ble_eq_true rfl, Nat.le_of_ble_eq_true rfl⟩) ?_
  refine W.eq (g2 := F0 m 5 ls [.int (b2i r1)]) rfl ?_
  refine lv_if_eq (tgt := 16) hx hb dX9_merges_5 (by decide) (fun c3 => ?_) (fun c3 => ?_)
  · rw [if_pos c3] at h
    refine lv_iconst (v := (nI 1)) hx hb dX9_merges_16 (by decide) ?_
    cases h
    exact px_eWi hA0 hQ hP hD hS hx hb hr hlocks dX9_merges_17
  · rw [if_neg c3] at h
    refine lv_aload_n hx hb dX9_merges_8 rfl (lv_at hl 0 rfl) ?_
    refine lv_iload_n hx hb dX9_merges_9 rfl (lv_at hl 2 rfl) ?_
    obtain ⟨r4, hr5, h⟩ := ob h
    refine px_Vp (As := [.int x2]) (rest := []) (gs := ([gX9 E a v_now v_tried v_kept v_undos v_saved v_isSaved v_line v_lined v_text v_length v_at v_order v_told v_error v_reason v_detail v_answer v_thrown v_mixed v_conflicts v_firstConflict] : List va_W)) (gc := ([gX9 E a v_now v_tried v_kept v_undos v_saved v_isSaved v_line v_lined v_text v_length v_at v_order v_told v_error v_reason v_detail v_answer v_thrown v_mixed v_conflicts v_firstConflict] : List va_W)) ⟨hx, hb, hml, hown, hts⟩ (c9_isBranch l E a  (x2) (v_now) (v_tried) (v_kept) (v_undos) (v_saved) (v_isSaved) (v_line) (v_lined) (v_text) (v_length) (v_at) (v_order) (v_told) (v_error) (v_reason) (v_detail) (v_answer) (v_thrown) (v_mixed) (v_conflicts) (v_firstConflict) r4 hr5) (cwV 1 hts (ws_v q1278 q1280 q19 q68 q1281) rfl rfl rfl hdV_X9_isBranch (by rw [hR]; exact ⟨Nat.le_of_ble_eq_true rfl, Nat.le_of_ble_eq_true rfl⟩)) hK hN hP hD [0] rfl (by decide) 0 9 rfl rfl rfl rfl hl.1 rfl (Nat.le_of_ble_eq_true rfl) dX9_merges_10 (by rw [hR]; exact ⟨Nat.le_of_ble_eq_true rfl, Nat.le_of_ble_eq_true rfl⟩) ?_
    refine W.eq (g2 := F0 m 13 ls [.int (b2i r4)]) rfl ?_
    refine lv_if_ne (tgt := 18) hx hb dX9_merges_13 (by decide) (fun c6 => ?_) (fun c6 => ?_)
    · rw [if_neg c6] at h
      refine lv_iload_n hx hb dX9_merges_18 rfl (lv_at hl 3 rfl) ?_
      refine lv_iconst (v := (nI 0)) hx hb dX9_merges_19 (by decide) ?_
      refine lv_iconst (v := (nI 3)) hx hb dX9_merges_20 (by decide) ?_
      obtain ⟨r7, hr8, h⟩ := ob h
      refine px_Sp (As := [.int x3, .int (nI 0), .int (nI 3)]) (rest := []) (gs := ([gX9 E a v_now v_tried v_kept v_undos v_saved v_isSaved v_line v_lined v_text v_length v_at v_order v_told v_error v_reason v_detail v_answer v_thrown v_mixed v_conflicts v_firstConflict] : List va_W)) (gc := ([] : List va_W)) ⟨hx, hb, hml, hown, hts⟩ (c9_in l E   (x3) ((nI 0)) ((nI 3))  r7 hr8) (va_cwS 3 hts (ws_s q1282 q1283 q68 q1284) rfl rfl rfl hdS_X9_in (by rw [hR]; exact ⟨Nat.le_of_ble_eq_true rfl, Nat.le_of_ble_eq_true rfl⟩)) hK hN hP hD [] rfl (by decide) rfl hl.1 rfl (Nat.le_of_ble_eq_true rfl) dX9_merges_21 (by rw [hR]; exact ⟨Nat.le_of_ble_eq_true rfl, Nat.le_of_ble_eq_true rfl⟩) ?_
      refine W.eq (g2 := F0 m 24 ls [.int (b2i r7)]) rfl ?_
      refine lv_if_ne (tgt := 29) hx hb dX9_merges_24 (by decide) (fun c9 => ?_) (fun c9 => ?_)
      · rw [if_neg c9] at h
        refine lv_aload_n hx hb dX9_merges_29 rfl (lv_at hl 0 rfl) ?_
        refine lv_iload_n hx hb dX9_merges_30 rfl (lv_at hl 1 rfl) ?_
        obtain ⟨r10, hr11, h⟩ := ob h
        refine px_Vp (As := [.int x1]) (rest := []) (gs := ([gX9 E a v_now v_tried v_kept v_undos v_saved v_isSaved v_line v_lined v_text v_length v_at v_order v_told v_error v_reason v_detail v_answer v_thrown v_mixed v_conflicts v_firstConflict] : List va_W)) (gc := ([gX9 E a v_now v_tried v_kept v_undos v_saved v_isSaved v_line v_lined v_text v_length v_at v_order v_told v_error v_reason v_detail v_answer v_thrown v_mixed v_conflicts v_firstConflict] : List va_W)) ⟨hx, hb, hml, hown, hts⟩ (c9_top l E a  (x1) (v_now) (v_tried) (v_kept) (v_undos) (v_saved) (v_isSaved) (v_line) (v_lined) (v_text) (v_length) (v_at) (v_order) (v_told) (v_error) (v_reason) (v_detail) (v_answer) (v_thrown) (v_mixed) (v_conflicts) (v_firstConflict) r10 hr11) (cwV 1 hts (ws_v q1288 q1290 q20 q68 q1291) rfl rfl rfl hdV_X9_top (by rw [hR]; exact ⟨Nat.le_of_ble_eq_true rfl, Nat.le_of_ble_eq_true rfl⟩)) hK hN hP hD [0] rfl (by decide) 0 9 rfl rfl rfl rfl hl.1 rfl (Nat.le_of_ble_eq_true rfl) dX9_merges_31 (by rw [hR]; exact ⟨Nat.le_of_ble_eq_true rfl, Nat.le_of_ble_eq_true rfl⟩) ?_
        refine W.eq (g2 := F0 m 34 ls [.int r10]) rfl ?_
        refine lv_istore (lv' := [(4, .int r10), (0, .ref (a 0)), (1, .int x1), (2, .int x2), (3, .int x3)]) hx hb dX9_merges_34 hl (by decide) rfl (fun ls hl => ?_)
        refine lv_aload_n hx hb dX9_merges_36 rfl (lv_at hl 1 rfl) ?_
        refine lv_iload_n hx hb dX9_merges_37 rfl (lv_at hl 3 rfl) ?_
        obtain ⟨r12, hr13, h⟩ := ob h
        refine px_Vp (As := [.int x2]) (rest := []) (gs := ([gX9 E a v_now v_tried v_kept v_undos v_saved v_isSaved v_line v_lined v_text v_length v_at v_order v_told v_error v_reason v_detail v_answer v_thrown v_mixed v_conflicts v_firstConflict] : List va_W)) (gc := ([gX9 E a v_now v_tried v_kept v_undos v_saved v_isSaved v_line v_lined v_text v_length v_at v_order v_told v_error v_reason v_detail v_answer v_thrown v_mixed v_conflicts v_firstConflict] : List va_W)) ⟨hx, hb, hml, hown, hts⟩ (c9_top l E a  (x2) (v_now) (v_tried) (v_kept) (v_undos) (v_saved) (v_isSaved) (v_line) (v_lined) (v_text) (v_length) (v_at) (v_order) (v_told) (v_error) (v_reason) (v_detail) (v_answer) (v_thrown) (v_mixed) (v_conflicts) (v_firstConflict) r12 hr13) (cwV 1 hts (ws_v q1288 q1290 q20 q68 q1291) rfl rfl rfl hdV_X9_top (by rw [hR]; exact ⟨Nat.le_of_ble_eq_true rfl, Nat.le_of_ble_eq_true rfl⟩)) hK hN hP hD [0] rfl (by decide) 0 9 rfl rfl rfl rfl hl.1 rfl (Nat.le_of_ble_eq_true rfl) dX9_merges_38 (by rw [hR]; exact ⟨Nat.le_of_ble_eq_true rfl, Nat.le_of_ble_eq_true rfl⟩) ?_
        refine W.eq (g2 := F0 m 41 ls [.int r12]) rfl ?_
        refine lv_istore (lv' := [(5, .int r12), (4, .int r10), (0, .ref (a 0)), (1, .int x1), (2, .int x2), (3, .int x3)]) hx hb dX9_merges_41 hl (by decide) rfl (fun ls hl => ?_)
        refine lv_aload_n hx hb dX9_merges_43 rfl (lv_at hl 2 rfl) ?_
        refine lv_iload hx hb dX9_merges_44 (lv_at hl 0 rfl) ?_
        refine lv_iload hx hb dX9_merges_46 (lv_at hl 1 rfl) ?_
        obtain ⟨r14, hr15, h⟩ := ob h
        refine px_Vp (As := [.int r12, .int r10]) (rest := []) (gs := ([gX9 E a v_now v_tried v_kept v_undos v_saved v_isSaved v_line v_lined v_text v_length v_at v_order v_told v_error v_reason v_detail v_answer v_thrown v_mixed v_conflicts v_firstConflict] : List va_W)) (gc := ([gX9 E a v_now v_tried v_kept v_undos v_saved v_isSaved v_line v_lined v_text v_length v_at v_order v_told v_error v_reason v_detail v_answer v_thrown v_mixed v_conflicts v_firstConflict] : List va_W)) ⟨hx, hb, hml, hown, hts⟩ (c9_isWithin l E a  (r12) (r10) (v_now) (v_tried) (v_kept) (v_undos) (v_saved) (v_isSaved) (v_line) (v_lined) (v_text) (v_length) (v_at) (v_order) (v_told) (v_error) (v_reason) (v_detail) (v_answer) (v_thrown) (v_mixed) (v_conflicts) (v_firstConflict) r14 hr15) (cwV 2 hts (ws_v q1382 q1384 q37 q68 q1385) rfl rfl rfl hdV_X9_isWithin (by rw [hR]; exact ⟨Nat.le_of_ble_eq_true rfl, Nat.le_of_ble_eq_true rfl⟩)) hK hN hP hD [0] rfl (by decide) 0 9 rfl rfl rfl rfl hl.1 rfl (Nat.le_of_ble_eq_true rfl) dX9_merges_48 (by rw [hR]; exact ⟨Nat.le_of_ble_eq_true rfl, Nat.le_of_ble_eq_true rfl⟩) ?_
        refine W.eq (g2 := F0 m 51 ls [.int (b2i r14)]) rfl ?_
        refine lv_if_eq (tgt := 62) hx hb dX9_merges_51 (by decide) (fun c16 => ?_) (fun c16 => ?_)
        · rw [if_pos c16] at h
          refine lv_aload_n hx hb dX9_merges_62 rfl (lv_at hl 2 rfl) ?_
          refine lv_iload hx hb dX9_merges_63 (lv_at hl 1 rfl) ?_
          refine lv_iload hx hb dX9_merges_65 (lv_at hl 0 rfl) ?_
          obtain ⟨r17, hr18, h⟩ := ob h
          refine px_Vp (As := [.int r10, .int r12]) (rest := []) (gs := ([gX9 E a v_now v_tried v_kept v_undos v_saved v_isSaved v_line v_lined v_text v_length v_at v_order v_told v_error v_reason v_detail v_answer v_thrown v_mixed v_conflicts v_firstConflict] : List va_W)) (gc := ([gX9 E a v_now v_tried v_kept v_undos v_saved v_isSaved v_line v_lined v_text v_length v_at v_order v_told v_error v_reason v_detail v_answer v_thrown v_mixed v_conflicts v_firstConflict] : List va_W)) ⟨hx, hb, hml, hown, hts⟩ (c9_isWithin l E a  (r10) (r12) (v_now) (v_tried) (v_kept) (v_undos) (v_saved) (v_isSaved) (v_line) (v_lined) (v_text) (v_length) (v_at) (v_order) (v_told) (v_error) (v_reason) (v_detail) (v_answer) (v_thrown) (v_mixed) (v_conflicts) (v_firstConflict) r17 hr18) (cwV 2 hts (ws_v q1382 q1384 q37 q68 q1385) rfl rfl rfl hdV_X9_isWithin (by rw [hR]; exact ⟨Nat.le_of_ble_eq_true rfl, Nat.le_of_ble_eq_true rfl⟩)) hK hN hP hD [0] rfl (by decide) 0 9 rfl rfl rfl rfl hl.1 rfl (Nat.le_of_ble_eq_true rfl) dX9_merges_67 (by rw [hR]; exact ⟨Nat.le_of_ble_eq_true rfl, Nat.le_of_ble_eq_true rfl⟩) ?_
          refine W.eq (g2 := F0 m 70 ls [.int (b2i r17)]) rfl ?_
          refine lv_if_eq (tgt := 91) hx hb dX9_merges_70 (by decide) (fun c19 => ?_) (fun c19 => ?_)
          · rw [if_pos c19] at h
            refine lv_aload_n hx hb dX9_merges_91 rfl (lv_at hl 2 rfl) ?_
            refine lv_iload hx hb dX9_merges_92 (lv_at hl 1 rfl) ?_
            refine lv_iload hx hb dX9_merges_94 (lv_at hl 0 rfl) ?_
            refine lv_aload_n hx hb dX9_merges_96 rfl (lv_at hl 2 rfl) ?_
            refine lv_iload hx hb dX9_merges_97 (lv_at hl 1 rfl) ?_
            refine lv_iload hx hb dX9_merges_99 (lv_at hl 0 rfl) ?_
            obtain ⟨r20, hr21, h⟩ := ob h
            refine px_Vp (As := [.int r10, .int r12]) (rest := [.int r12, .int r10, .ref (a 0)]) (gs := ([gX9 E a v_now v_tried v_kept v_undos v_saved v_isSaved v_line v_lined v_text v_length v_at v_order v_told v_error v_reason v_detail v_answer v_thrown v_mixed v_conflicts v_firstConflict] : List va_W)) (gc := ([gX9 E a v_now v_tried v_kept v_undos v_saved v_isSaved v_line v_lined v_text v_length v_at v_order v_told v_error v_reason v_detail v_answer v_thrown v_mixed v_conflicts v_firstConflict] : List va_W)) ⟨hx, hb, hml, hown, hts⟩ (c9_common l E a  (r10) (r12) (v_now) (v_tried) (v_kept) (v_undos) (v_saved) (v_isSaved) (v_line) (v_lined) (v_text) (v_length) (v_at) (v_order) (v_told) (v_error) (v_reason) (v_detail) (v_answer) (v_thrown) (v_mixed) (v_conflicts) (v_firstConflict) r20 hr21) (cwV 2 hts (ws_v q1386 q1388 q38 q68 q1389) rfl rfl rfl hdV_X9_common (by rw [hR]; exact ⟨Nat.le_of_ble_eq_true rfl, Nat.le_of_ble_eq_true rfl⟩)) hK hN hP hD [0] rfl (by decide) 0 9 rfl rfl rfl rfl hl.1 rfl (Nat.le_of_ble_eq_true rfl) dX9_merges_101 (by rw [hR]; exact ⟨Nat.le_of_ble_eq_true rfl, Nat.le_of_ble_eq_true rfl⟩) ?_
            refine W.eq (g2 := F0 m 104 ls [.int r20, .int r12, .int r10, .ref (a 0)]) rfl ?_
            refine lv_iload_n hx hb dX9_merges_104 rfl (lv_at hl 5 rfl) ?_
            obtain ⟨⟨w22, w23, w24⟩, hr25, h⟩ := ob h
            dsimp only at h
            refine px_V (As := [.int r10, .int r12, .int r20, .int x3]) (rest := []) (gs := ([gX9 E a v_now v_tried v_kept v_undos v_saved v_isSaved v_line v_lined v_text v_length v_at v_order v_told v_error v_reason v_detail v_answer v_thrown v_mixed v_conflicts v_firstConflict] : List va_W)) (gr := ([] : List va_W)) (gc := ([gX9 E a v_now v_tried v_kept v_undos v_saved v_isSaved v_line v_lined v_text v_length v_at v_order v_told v_error v_reason v_detail v_answer v_thrown v_mixed v_conflicts v_firstConflict] : List va_W)) (g1 := ([gX9 E a v_now v_tried v_kept v_undos v_saved v_isSaved v_line v_lined v_text v_length v_at v_order v_told v_error v_reason v_detail v_answer v_thrown w22 w23 w24] : List va_W)) (g2 := ([gX9 E a v_now v_tried v_kept v_undos v_saved v_isSaved v_line v_lined v_text v_length v_at v_order v_told v_error v_reason v_detail v_answer v_thrown w22 w23 w24] : List va_W)) ⟨hx, hb, hml, hown, hts⟩ (c9_mixes l E a  (r10) (r12) (r20) (x3) (v_now) (v_tried) (v_kept) (v_undos) (v_saved) (v_isSaved) (v_line) (v_lined) (v_text) (v_length) (v_at) (v_order) (v_told) (v_error) (v_reason) (v_detail) (v_answer) (v_thrown) (v_mixed) (v_conflicts) (v_firstConflict) w22 w23 w24 hr25) (cwV 4 hts (ws_v q1390 q1392 q39 q68 q1393) rfl rfl rfl hdV_X9_mixes (by rw [hR]; exact ⟨Nat.le_of_ble_eq_true rfl, Nat.le_of_ble_eq_true rfl⟩)) hK hN hP hD hS hA [] [0] [0] rfl rfl (by decide) (by decide) rfl (by decide) 0 9 rfl rfl rfl rfl hl.1 rfl (Nat.le_of_ble_eq_true rfl) dX9_merges_105 (by rw [hR]; exact ⟨Nat.le_of_ble_eq_true rfl, Nat.le_of_ble_eq_true rfl⟩) (fun H locs hP hD hS => ?_)
            refine W.eq (g2 := F0 m 108 ls []) rfl ?_
            refine lv_aload_n hx hb dX9_merges_108 rfl (lv_at hl 2 rfl) ?_
            refine va_get (D := E.1) (ci := 9) (v := .int w23) (C := RX9) (T := TX9) (N := 21) hx hb hts iX9 hown hK hP 0 rfl rfl 19 (by decide) (hts _ q1217) (fun _ h9 => h9) rfl dX9_merges_109 ?_
            refine lv_if_le (tgt := 129) hx hb dX9_merges_112 (by decide) (fun c26 => ?_) (fun c26 => ?_)
            · rw [if_pos c26] at h
              refine lv_aload_n hx hb dX9_merges_129 rfl (lv_at hl 2 rfl) ?_
              refine va_get (D := E.1) (ci := 9) (v := .ref (a 1)) (C := RX9) (T := TX9) (N := 21) hx hb hts iX9 hown hK hP 0 rfl rfl 0 (by decide) (hts _ q1198) (fun _ h9 => h9) rfl dX9_merges_130 ?_
              refine lv_iconst (v := (nI 0)) hx hb dX9_merges_133 (by decide) ?_
              refine va_iald (f := v_now) hx hb hK hP 1 0 rfl rfl (inb_in (i := (nI 0)) (n := 228) (by decide)) dX9_merges_134 ?_
              refine lv_bipush (v := (nI 24)) hx hb dX9_merges_135 (by decide) ?_
              refine lv_icmp_ne (tgt := 148) hx hb dX9_merges_137 (by decide) (fun c27 => ?_) (fun c27 => ?_)
              · rw [if_neg c27] at h
                refine lv_aload_n hx hb dX9_merges_148 rfl (lv_at hl 2 rfl) ?_
                refine lv_iload_n hx hb dX9_merges_149 rfl (lv_at hl 3 rfl) ?_
                refine lv_iconst (v := (nI 1)) hx hb dX9_merges_150 (by decide) ?_
                refine lv_iload hx hb dX9_merges_151 (lv_at hl 0 rfl) ?_
                obtain ⟨⟨r28, w29⟩, hr30, h⟩ := ob h
                dsimp only at h
                refine px_V (As := [.int x1, .int (nI 1), .int r12]) (rest := []) (gs := ([gX9 E a v_now v_tried v_kept v_undos v_saved v_isSaved v_line v_lined v_text v_length v_at v_order v_told v_error v_reason v_detail v_answer v_thrown w22 w23 w24] : List va_W)) (gr := ([] : List va_W)) (gc := ([gX9 E a v_now v_tried v_kept v_undos v_saved v_isSaved v_line v_lined v_text v_length v_at v_order v_told v_error v_reason v_detail v_answer v_thrown w22 w23 w24] : List va_W)) (g1 := ([gX9 E a w29 v_tried v_kept v_undos v_saved v_isSaved v_line v_lined v_text v_length v_at v_order v_told v_error v_reason v_detail v_answer v_thrown w22 w23 w24] : List va_W)) (g2 := ([gX9 E a w29 v_tried v_kept v_undos v_saved v_isSaved v_line v_lined v_text v_length v_at v_order v_told v_error v_reason v_detail v_answer v_thrown w22 w23 w24] : List va_W)) ⟨hx, hb, hml, hown, hts⟩ (c9_comes l E a  (x1) ((nI 1)) (r12) (v_now) (v_tried) (v_kept) (v_undos) (v_saved) (v_isSaved) (v_line) (v_lined) (v_text) (v_length) (v_at) (v_order) (v_told) (v_error) (v_reason) (v_detail) (v_answer) (v_thrown) (w22) (w23) (w24) r28 w29 hr30) (cwV 3 hts (ws_v q1304 q1306 q24 q68 q1307) rfl rfl rfl hdV_X9_comes (by rw [hR]; exact ⟨Nat.le_of_ble_eq_true rfl, Nat.le_of_ble_eq_true rfl⟩)) hK hN hP hD hS hA [] [0] [0] rfl rfl (by decide) (by decide) rfl (by decide) 0 9 rfl rfl rfl rfl hl.1 rfl (Nat.le_of_ble_eq_true rfl) dX9_merges_153 (by rw [hR]; exact ⟨Nat.le_of_ble_eq_true rfl, Nat.le_of_ble_eq_true rfl⟩) (fun H locs hP hD hS => ?_)
                refine W.eq (g2 := F0 m 156 ls [.int r28]) rfl ?_
                refine lv_istore (lv' := [(6, .int r28), (5, .int r12), (4, .int r10), (0, .ref (a 0)), (1, .int x1), (2, .int x2), (3, .int x3)]) hx hb dX9_merges_156 hl (by decide) rfl (fun ls hl => ?_)
                refine lv_aload_n hx hb dX9_merges_158 rfl (lv_at hl 3 rfl) ?_
                refine lv_iload hx hb dX9_merges_159 (lv_at hl 0 rfl) ?_
                obtain ⟨w31, hr32, h⟩ := ob h
                refine px_V (As := [.int r28]) (rest := []) (gs := ([gX9 E a w29 v_tried v_kept v_undos v_saved v_isSaved v_line v_lined v_text v_length v_at v_order v_told v_error v_reason v_detail v_answer v_thrown w22 w23 w24] : List va_W)) (gr := ([] : List va_W)) (gc := ([gX9 E a w29 v_tried v_kept v_undos v_saved v_isSaved v_line v_lined v_text v_length v_at v_order v_told v_error v_reason v_detail v_answer v_thrown w22 w23 w24] : List va_W)) (g1 := ([gX9 E a w31 v_tried v_kept v_undos v_saved v_isSaved v_line v_lined v_text v_length v_at v_order v_told v_error v_reason v_detail v_answer v_thrown w22 w23 w24] : List va_W)) (g2 := ([gX9 E a w31 v_tried v_kept v_undos v_saved v_isSaved v_line v_lined v_text v_length v_at v_order v_told v_error v_reason v_detail v_answer v_thrown w22 w23 w24] : List va_W)) ⟨hx, hb, hml, hown, hts⟩ (c9_lays l E a  (r28) (w29) (v_tried) (v_kept) (v_undos) (v_saved) (v_isSaved) (v_line) (v_lined) (v_text) (v_length) (v_at) (v_order) (v_told) (v_error) (v_reason) (v_detail) (v_answer) (v_thrown) (w22) (w23) (w24) w31 hr32) (cwV 1 hts (ws_v q1394 q1396 q40 q68 q1397) rfl rfl rfl hdV_X9_lays (by rw [hR]; exact ⟨Nat.le_of_ble_eq_true rfl, Nat.le_of_ble_eq_true rfl⟩)) hK hN hP hD hS hA [] [0] [0] rfl rfl (by decide) (by decide) rfl (by decide) 0 9 rfl rfl rfl rfl hl.1 rfl (Nat.le_of_ble_eq_true rfl) dX9_merges_161 (by rw [hR]; exact ⟨Nat.le_of_ble_eq_true rfl, Nat.le_of_ble_eq_true rfl⟩) (fun H locs hP hD hS => ?_)
                refine W.eq (g2 := F0 m 164 ls []) rfl ?_
                refine lv_aload_n hx hb dX9_merges_164 rfl (lv_at hl 3 rfl) ?_
                refine lv_iload hx hb dX9_merges_165 (lv_at hl 0 rfl) ?_
                obtain ⟨⟨r33, w34⟩, hr35, h⟩ := ob h
                dsimp only at h
                refine px_V (As := [.int r28]) (rest := []) (gs := ([gX9 E a w31 v_tried v_kept v_undos v_saved v_isSaved v_line v_lined v_text v_length v_at v_order v_told v_error v_reason v_detail v_answer v_thrown w22 w23 w24] : List va_W)) (gr := ([] : List va_W)) (gc := ([gX9 E a w31 v_tried v_kept v_undos v_saved v_isSaved v_line v_lined v_text v_length v_at v_order v_told v_error v_reason v_detail v_answer v_thrown w22 w23 w24] : List va_W)) (g1 := ([gX9 E a w31 v_tried v_kept v_undos v_saved v_isSaved v_line v_lined v_text v_length v_at v_order v_told v_error v_reason v_detail w34 v_thrown w22 w23 w24] : List va_W)) (g2 := ([gX9 E a w31 v_tried v_kept v_undos v_saved v_isSaved v_line v_lined v_text v_length v_at v_order v_told v_error v_reason v_detail w34 v_thrown w22 w23 w24] : List va_W)) ⟨hx, hb, hml, hown, hts⟩ (c9_does l E a  (r28) (w31) (v_tried) (v_kept) (v_undos) (v_saved) (v_isSaved) (v_line) (v_lined) (v_text) (v_length) (v_at) (v_order) (v_told) (v_error) (v_reason) (v_detail) (v_answer) (v_thrown) (w22) (w23) (w24) r33 w34 hr35) (cwV 1 hts (ws_v q1308 q1310 q25 q68 q1311) rfl rfl rfl hdV_X9_does (by rw [hR]; exact ⟨Nat.le_of_ble_eq_true rfl, Nat.le_of_ble_eq_true rfl⟩)) hK hN hP hD hS hA [] [0] [0] rfl rfl (by decide) (by decide) rfl (by decide) 0 9 rfl rfl rfl rfl hl.1 rfl (Nat.le_of_ble_eq_true rfl) dX9_merges_167 (by rw [hR]; exact ⟨Nat.le_of_ble_eq_true rfl, Nat.le_of_ble_eq_true rfl⟩) (fun H locs hP hD hS => ?_)
                refine W.eq (g2 := F0 m 170 ls [.int r33]) rfl ?_
                cases h
                exact px_eWi hA0 hQ hP hD hS hx hb hr hlocks dX9_merges_170
              · rw [if_pos c27] at h
                refine lv_aload_n hx hb dX9_merges_140 rfl (lv_at hl 2 rfl) ?_
                refine lv_iconst (v := (nI 1)) hx hb dX9_merges_141 (by decide) ?_
                refine lv_bipush (v := (nI 24)) hx hb dX9_merges_142 (by decide) ?_
                obtain ⟨⟨r36, w37, w38⟩, hr39, h⟩ := ob h
                dsimp only at h
                refine px_V (As := [.int (nI 1), .int (nI 24)]) (rest := []) (gs := ([gX9 E a v_now v_tried v_kept v_undos v_saved v_isSaved v_line v_lined v_text v_length v_at v_order v_told v_error v_reason v_detail v_answer v_thrown w22 w23 w24] : List va_W)) (gr := ([] : List va_W)) (gc := ([gX9 E a v_now v_tried v_kept v_undos v_saved v_isSaved v_line v_lined v_text v_length v_at v_order v_told v_error v_reason v_detail v_answer v_thrown w22 w23 w24] : List va_W)) (g1 := ([gX9 E a v_now v_tried v_kept v_undos v_saved v_isSaved v_line v_lined v_text v_length v_at v_order v_told v_error w37 w38 v_answer v_thrown w22 w23 w24] : List va_W)) (g2 := ([gX9 E a v_now v_tried v_kept v_undos v_saved v_isSaved v_line v_lined v_text v_length v_at v_order v_told v_error w37 w38 v_answer v_thrown w22 w23 w24] : List va_W)) ⟨hx, hb, hml, hown, hts⟩ (c9_refuses l E a  ((nI 1)) ((nI 24)) (v_now) (v_tried) (v_kept) (v_undos) (v_saved) (v_isSaved) (v_line) (v_lined) (v_text) (v_length) (v_at) (v_order) (v_told) (v_error) (v_reason) (v_detail) (v_answer) (v_thrown) (w22) (w23) (w24) r36 w37 w38 hr39) (cwV 2 hts (ws_v q1300 q1302 q23 q68 q1303) rfl rfl rfl hdV_X9_refuses (by rw [hR]; exact ⟨Nat.le_of_ble_eq_true rfl, Nat.le_of_ble_eq_true rfl⟩)) hK hN hP hD hS hA [] [0] [0] rfl rfl (by decide) (by decide) rfl (by decide) 0 9 rfl rfl rfl rfl hl.1 rfl (Nat.le_of_ble_eq_true rfl) dX9_merges_144 (by rw [hR]; exact ⟨Nat.le_of_ble_eq_true rfl, Nat.le_of_ble_eq_true rfl⟩) (fun H locs hP hD hS => ?_)
                refine W.eq (g2 := F0 m 147 ls [.int r36]) rfl ?_
                cases h
                exact px_eWi hA0 hQ hP hD hS hx hb hr hlocks dX9_merges_147
            · rw [if_neg c26] at h
              refine lv_iload_n hx hb dX9_merges_115 rfl (lv_at hl 5 rfl) ?_
              refine lv_if_ne (tgt := 129) hx hb dX9_merges_116 (by decide) (fun c40 => ?_) (fun c40 => ?_)
              · rw [if_neg c40] at h
                refine lv_aload_n hx hb dX9_merges_129 rfl (lv_at hl 2 rfl) ?_
                refine va_get (D := E.1) (ci := 9) (v := .ref (a 1)) (C := RX9) (T := TX9) (N := 21) hx hb hts iX9 hown hK hP 0 rfl rfl 0 (by decide) (hts _ q1198) (fun _ h9 => h9) rfl dX9_merges_130 ?_
                refine lv_iconst (v := (nI 0)) hx hb dX9_merges_133 (by decide) ?_
                refine va_iald (f := v_now) hx hb hK hP 1 0 rfl rfl (inb_in (i := (nI 0)) (n := 228) (by decide)) dX9_merges_134 ?_
                refine lv_bipush (v := (nI 24)) hx hb dX9_merges_135 (by decide) ?_
                refine lv_icmp_ne (tgt := 148) hx hb dX9_merges_137 (by decide) (fun c41 => ?_) (fun c41 => ?_)
                · rw [if_neg c41] at h
                  refine lv_aload_n hx hb dX9_merges_148 rfl (lv_at hl 2 rfl) ?_
                  refine lv_iload_n hx hb dX9_merges_149 rfl (lv_at hl 3 rfl) ?_
                  refine lv_iconst (v := (nI 1)) hx hb dX9_merges_150 (by decide) ?_
                  refine lv_iload hx hb dX9_merges_151 (lv_at hl 0 rfl) ?_
                  obtain ⟨⟨r42, w43⟩, hr44, h⟩ := ob h
                  dsimp only at h
                  refine px_V (As := [.int x1, .int (nI 1), .int r12]) (rest := []) (gs := ([gX9 E a v_now v_tried v_kept v_undos v_saved v_isSaved v_line v_lined v_text v_length v_at v_order v_told v_error v_reason v_detail v_answer v_thrown w22 w23 w24] : List va_W)) (gr := ([] : List va_W)) (gc := ([gX9 E a v_now v_tried v_kept v_undos v_saved v_isSaved v_line v_lined v_text v_length v_at v_order v_told v_error v_reason v_detail v_answer v_thrown w22 w23 w24] : List va_W)) (g1 := ([gX9 E a w43 v_tried v_kept v_undos v_saved v_isSaved v_line v_lined v_text v_length v_at v_order v_told v_error v_reason v_detail v_answer v_thrown w22 w23 w24] : List va_W)) (g2 := ([gX9 E a w43 v_tried v_kept v_undos v_saved v_isSaved v_line v_lined v_text v_length v_at v_order v_told v_error v_reason v_detail v_answer v_thrown w22 w23 w24] : List va_W)) ⟨hx, hb, hml, hown, hts⟩ (c9_comes l E a  (x1) ((nI 1)) (r12) (v_now) (v_tried) (v_kept) (v_undos) (v_saved) (v_isSaved) (v_line) (v_lined) (v_text) (v_length) (v_at) (v_order) (v_told) (v_error) (v_reason) (v_detail) (v_answer) (v_thrown) (w22) (w23) (w24) r42 w43 hr44) (cwV 3 hts (ws_v q1304 q1306 q24 q68 q1307) rfl rfl rfl hdV_X9_comes (by rw [hR]; exact ⟨Nat.le_of_ble_eq_true rfl, Nat.le_of_ble_eq_true rfl⟩)) hK hN hP hD hS hA [] [0] [0] rfl rfl (by decide) (by decide) rfl (by decide) 0 9 rfl rfl rfl rfl hl.1 rfl (Nat.le_of_ble_eq_true rfl) dX9_merges_153 (by rw [hR]; exact ⟨Nat.le_of_ble_eq_true rfl, Nat.le_of_ble_eq_true rfl⟩) (fun H locs hP hD hS => ?_)
                  refine W.eq (g2 := F0 m 156 ls [.int r42]) rfl ?_
                  refine lv_istore (lv' := [(6, .int r42), (5, .int r12), (4, .int r10), (0, .ref (a 0)), (1, .int x1), (2, .int x2), (3, .int x3)]) hx hb dX9_merges_156 hl (by decide) rfl (fun ls hl => ?_)
                  refine lv_aload_n hx hb dX9_merges_158 rfl (lv_at hl 3 rfl) ?_
                  refine lv_iload hx hb dX9_merges_159 (lv_at hl 0 rfl) ?_
                  obtain ⟨w45, hr46, h⟩ := ob h
                  refine px_V (As := [.int r42]) (rest := []) (gs := ([gX9 E a w43 v_tried v_kept v_undos v_saved v_isSaved v_line v_lined v_text v_length v_at v_order v_told v_error v_reason v_detail v_answer v_thrown w22 w23 w24] : List va_W)) (gr := ([] : List va_W)) (gc := ([gX9 E a w43 v_tried v_kept v_undos v_saved v_isSaved v_line v_lined v_text v_length v_at v_order v_told v_error v_reason v_detail v_answer v_thrown w22 w23 w24] : List va_W)) (g1 := ([gX9 E a w45 v_tried v_kept v_undos v_saved v_isSaved v_line v_lined v_text v_length v_at v_order v_told v_error v_reason v_detail v_answer v_thrown w22 w23 w24] : List va_W)) (g2 := ([gX9 E a w45 v_tried v_kept v_undos v_saved v_isSaved v_line v_lined v_text v_length v_at v_order v_told v_error v_reason v_detail v_answer v_thrown w22 w23 w24] : List va_W)) ⟨hx, hb, hml, hown, hts⟩ (c9_lays l E a  (r42) (w43) (v_tried) (v_kept) (v_undos) (v_saved) (v_isSaved) (v_line) (v_lined) (v_text) (v_length) (v_at) (v_order) (v_told) (v_error) (v_reason) (v_detail) (v_answer) (v_thrown) (w22) (w23) (w24) w45 hr46) (cwV 1 hts (ws_v q1394 q1396 q40 q68 q1397) rfl rfl rfl hdV_X9_lays (by rw [hR]; exact ⟨Nat.le_of_ble_eq_true rfl, Nat.le_of_ble_eq_true rfl⟩)) hK hN hP hD hS hA [] [0] [0] rfl rfl (by decide) (by decide) rfl (by decide) 0 9 rfl rfl rfl rfl hl.1 rfl (Nat.le_of_ble_eq_true rfl) dX9_merges_161 (by rw [hR]; exact ⟨Nat.le_of_ble_eq_true rfl, Nat.le_of_ble_eq_true rfl⟩) (fun H locs hP hD hS => ?_)
                  refine W.eq (g2 := F0 m 164 ls []) rfl ?_
                  refine lv_aload_n hx hb dX9_merges_164 rfl (lv_at hl 3 rfl) ?_
                  refine lv_iload hx hb dX9_merges_165 (lv_at hl 0 rfl) ?_
                  obtain ⟨⟨r47, w48⟩, hr49, h⟩ := ob h
                  dsimp only at h
                  refine px_V (As := [.int r42]) (rest := []) (gs := ([gX9 E a w45 v_tried v_kept v_undos v_saved v_isSaved v_line v_lined v_text v_length v_at v_order v_told v_error v_reason v_detail v_answer v_thrown w22 w23 w24] : List va_W)) (gr := ([] : List va_W)) (gc := ([gX9 E a w45 v_tried v_kept v_undos v_saved v_isSaved v_line v_lined v_text v_length v_at v_order v_told v_error v_reason v_detail v_answer v_thrown w22 w23 w24] : List va_W)) (g1 := ([gX9 E a w45 v_tried v_kept v_undos v_saved v_isSaved v_line v_lined v_text v_length v_at v_order v_told v_error v_reason v_detail w48 v_thrown w22 w23 w24] : List va_W)) (g2 := ([gX9 E a w45 v_tried v_kept v_undos v_saved v_isSaved v_line v_lined v_text v_length v_at v_order v_told v_error v_reason v_detail w48 v_thrown w22 w23 w24] : List va_W)) ⟨hx, hb, hml, hown, hts⟩ (c9_does l E a  (r42) (w45) (v_tried) (v_kept) (v_undos) (v_saved) (v_isSaved) (v_line) (v_lined) (v_text) (v_length) (v_at) (v_order) (v_told) (v_error) (v_reason) (v_detail) (v_answer) (v_thrown) (w22) (w23) (w24) r47 w48 hr49) (cwV 1 hts (ws_v q1308 q1310 q25 q68 q1311) rfl rfl rfl hdV_X9_does (by rw [hR]; exact ⟨Nat.le_of_ble_eq_true rfl, Nat.le_of_ble_eq_true rfl⟩)) hK hN hP hD hS hA [] [0] [0] rfl rfl (by decide) (by decide) rfl (by decide) 0 9 rfl rfl rfl rfl hl.1 rfl (Nat.le_of_ble_eq_true rfl) dX9_merges_167 (by rw [hR]; exact ⟨Nat.le_of_ble_eq_true rfl, Nat.le_of_ble_eq_true rfl⟩) (fun H locs hP hD hS => ?_)
                  refine W.eq (g2 := F0 m 170 ls [.int r47]) rfl ?_
                  cases h
                  exact px_eWi hA0 hQ hP hD hS hx hb hr hlocks dX9_merges_170
                · rw [if_pos c41] at h
                  refine lv_aload_n hx hb dX9_merges_140 rfl (lv_at hl 2 rfl) ?_
                  refine lv_iconst (v := (nI 1)) hx hb dX9_merges_141 (by decide) ?_
                  refine lv_bipush (v := (nI 24)) hx hb dX9_merges_142 (by decide) ?_
                  obtain ⟨⟨r50, w51, w52⟩, hr53, h⟩ := ob h
                  dsimp only at h
                  refine px_V (As := [.int (nI 1), .int (nI 24)]) (rest := []) (gs := ([gX9 E a v_now v_tried v_kept v_undos v_saved v_isSaved v_line v_lined v_text v_length v_at v_order v_told v_error v_reason v_detail v_answer v_thrown w22 w23 w24] : List va_W)) (gr := ([] : List va_W)) (gc := ([gX9 E a v_now v_tried v_kept v_undos v_saved v_isSaved v_line v_lined v_text v_length v_at v_order v_told v_error v_reason v_detail v_answer v_thrown w22 w23 w24] : List va_W)) (g1 := ([gX9 E a v_now v_tried v_kept v_undos v_saved v_isSaved v_line v_lined v_text v_length v_at v_order v_told v_error w51 w52 v_answer v_thrown w22 w23 w24] : List va_W)) (g2 := ([gX9 E a v_now v_tried v_kept v_undos v_saved v_isSaved v_line v_lined v_text v_length v_at v_order v_told v_error w51 w52 v_answer v_thrown w22 w23 w24] : List va_W)) ⟨hx, hb, hml, hown, hts⟩ (c9_refuses l E a  ((nI 1)) ((nI 24)) (v_now) (v_tried) (v_kept) (v_undos) (v_saved) (v_isSaved) (v_line) (v_lined) (v_text) (v_length) (v_at) (v_order) (v_told) (v_error) (v_reason) (v_detail) (v_answer) (v_thrown) (w22) (w23) (w24) r50 w51 w52 hr53) (cwV 2 hts (ws_v q1300 q1302 q23 q68 q1303) rfl rfl rfl hdV_X9_refuses (by rw [hR]; exact ⟨Nat.le_of_ble_eq_true rfl, Nat.le_of_ble_eq_true rfl⟩)) hK hN hP hD hS hA [] [0] [0] rfl rfl (by decide) (by decide) rfl (by decide) 0 9 rfl rfl rfl rfl hl.1 rfl (Nat.le_of_ble_eq_true rfl) dX9_merges_144 (by rw [hR]; exact ⟨Nat.le_of_ble_eq_true rfl, Nat.le_of_ble_eq_true rfl⟩) (fun H locs hP hD hS => ?_)
                  refine W.eq (g2 := F0 m 147 ls [.int r50]) rfl ?_
                  cases h
                  exact px_eWi hA0 hQ hP hD hS hx hb hr hlocks dX9_merges_147
              · rw [if_pos c40] at h
                refine lv_aload_n hx hb dX9_merges_119 rfl (lv_at hl 2 rfl) ?_
                refine lv_iconst (v := (nI 5)) hx hb dX9_merges_120 (by decide) ?_
                refine lv_aload_n hx hb dX9_merges_121 rfl (lv_at hl 2 rfl) ?_
                refine va_get (D := E.1) (ci := 9) (v := .int w24) (C := RX9) (T := TX9) (N := 21) hx hb hts iX9 hown hK hP 0 rfl rfl 20 (by decide) (hts _ q1218) (fun _ h9 => h9) rfl dX9_merges_122 ?_
                obtain ⟨⟨r54, w55, w56⟩, hr57, h⟩ := ob h
                dsimp only at h
                refine px_V (As := [.int (nI 5), .int w24]) (rest := []) (gs := ([gX9 E a v_now v_tried v_kept v_undos v_saved v_isSaved v_line v_lined v_text v_length v_at v_order v_told v_error v_reason v_detail v_answer v_thrown w22 w23 w24] : List va_W)) (gr := ([] : List va_W)) (gc := ([gX9 E a v_now v_tried v_kept v_undos v_saved v_isSaved v_line v_lined v_text v_length v_at v_order v_told v_error v_reason v_detail v_answer v_thrown w22 w23 w24] : List va_W)) (g1 := ([gX9 E a v_now v_tried v_kept v_undos v_saved v_isSaved v_line v_lined v_text v_length v_at v_order v_told v_error w55 w56 v_answer v_thrown w22 w23 w24] : List va_W)) (g2 := ([gX9 E a v_now v_tried v_kept v_undos v_saved v_isSaved v_line v_lined v_text v_length v_at v_order v_told v_error w55 w56 v_answer v_thrown w22 w23 w24] : List va_W)) ⟨hx, hb, hml, hown, hts⟩ (c9_refuses l E a  ((nI 5)) (w24) (v_now) (v_tried) (v_kept) (v_undos) (v_saved) (v_isSaved) (v_line) (v_lined) (v_text) (v_length) (v_at) (v_order) (v_told) (v_error) (v_reason) (v_detail) (v_answer) (v_thrown) (w22) (w23) (w24) r54 w55 w56 hr57) (cwV 2 hts (ws_v q1300 q1302 q23 q68 q1303) rfl rfl rfl hdV_X9_refuses (by rw [hR]; exact ⟨Nat.le_of_ble_eq_true rfl, Nat.le_of_ble_eq_true rfl⟩)) hK hN hP hD hS hA [] [0] [0] rfl rfl (by decide) (by decide) rfl (by decide) 0 9 rfl rfl rfl rfl hl.1 rfl (Nat.le_of_ble_eq_true rfl) dX9_merges_125 (by rw [hR]; exact ⟨Nat.le_of_ble_eq_true rfl, Nat.le_of_ble_eq_true rfl⟩) (fun H locs hP hD hS => ?_)
                refine W.eq (g2 := F0 m 128 ls [.int r54]) rfl ?_
                cases h
                exact px_eWi hA0 hQ hP hD hS hx hb hr hlocks dX9_merges_128
          · rw [if_neg c19] at h
            refine lv_aload_n hx hb dX9_merges_73 rfl (lv_at hl 2 rfl) ?_
            refine va_get (D := E.1) (ci := 9) (v := .ref (a 1)) (C := RX9) (T := TX9) (N := 21) hx hb hts iX9 hown hK hP 0 rfl rfl 0 (by decide) (hts _ q1198) (fun _ h9 => h9) rfl dX9_merges_74 ?_
            refine lv_bipush (v := (nI 7)) hx hb dX9_merges_77 (by decide) ?_
            refine lv_iload_n hx hb dX9_merges_79 rfl (lv_at hl 3 rfl) ?_
            refine lv_iadd hx hb dX9_merges_80 ?_
            refine lv_iload hx hb dX9_merges_81 (lv_at hl 0 rfl) ?_
            obtain ⟨i58, h⟩ := o_t h
            refine va_iast (f := v_now) hx hb hK hP hD hS 1 0 rfl rfl (inb_in i58) dX9_merges_83 (fun H locs hP hD hS => ?_)
            have hP : va_P E.1 vwCl ([gX9 E a (upd v_now (((nI 7) + x1)).toNatClampNeg r12) v_tried v_kept v_undos v_saved v_isSaved v_line v_lined v_text v_length v_at v_order v_told v_error v_reason v_detail v_answer v_thrown v_mixed v_conflicts v_firstConflict] : List va_W).flatten H := hP
            have hD : va_D A ([gX9 E a (upd v_now (((nI 7) + x1)).toNatClampNeg r12) v_tried v_kept v_undos v_saved v_isSaved v_line v_lined v_text v_length v_at v_order v_told v_error v_reason v_detail v_answer v_thrown v_mixed v_conflicts v_firstConflict] : List va_W).flatten := hD
            obtain ⟨u59, e60, h⟩ := lt_e h
            rw [← e60] at hP hD
            refine lv_aload_n hx hb dX9_merges_84 rfl (lv_at hl 2 rfl) ?_
            refine lv_iload hx hb dX9_merges_85 (lv_at hl 0 rfl) ?_
            obtain ⟨⟨r61, w62⟩, hr63, h⟩ := ob h
            dsimp only at h
            refine px_V (As := [.int r12]) (rest := []) (gs := ([gX9 E a u59 v_tried v_kept v_undos v_saved v_isSaved v_line v_lined v_text v_length v_at v_order v_told v_error v_reason v_detail v_answer v_thrown v_mixed v_conflicts v_firstConflict] : List va_W)) (gr := ([] : List va_W)) (gc := ([gX9 E a u59 v_tried v_kept v_undos v_saved v_isSaved v_line v_lined v_text v_length v_at v_order v_told v_error v_reason v_detail v_answer v_thrown v_mixed v_conflicts v_firstConflict] : List va_W)) (g1 := ([gX9 E a u59 v_tried v_kept v_undos v_saved v_isSaved v_line v_lined v_text v_length v_at v_order v_told v_error v_reason v_detail w62 v_thrown v_mixed v_conflicts v_firstConflict] : List va_W)) (g2 := ([gX9 E a u59 v_tried v_kept v_undos v_saved v_isSaved v_line v_lined v_text v_length v_at v_order v_told v_error v_reason v_detail w62 v_thrown v_mixed v_conflicts v_firstConflict] : List va_W)) ⟨hx, hb, hml, hown, hts⟩ (c9_does l E a  (r12) (u59) (v_tried) (v_kept) (v_undos) (v_saved) (v_isSaved) (v_line) (v_lined) (v_text) (v_length) (v_at) (v_order) (v_told) (v_error) (v_reason) (v_detail) (v_answer) (v_thrown) (v_mixed) (v_conflicts) (v_firstConflict) r61 w62 hr63) (cwV 1 hts (ws_v q1308 q1310 q25 q68 q1311) rfl rfl rfl hdV_X9_does (by rw [hR]; exact ⟨Nat.le_of_ble_eq_true rfl, Nat.le_of_ble_eq_true rfl⟩)) hK hN hP hD hS hA [] [0] [0] rfl rfl (by decide) (by decide) rfl (by decide) 0 9 rfl rfl rfl rfl hl.1 rfl (Nat.le_of_ble_eq_true rfl) dX9_merges_87 (by rw [hR]; exact ⟨Nat.le_of_ble_eq_true rfl, Nat.le_of_ble_eq_true rfl⟩) (fun H locs hP hD hS => ?_)
            refine W.eq (g2 := F0 m 90 ls [.int r61]) rfl ?_
            cases h
            exact px_eWi hA0 hQ hP hD hS hx hb hr hlocks dX9_merges_90
        · rw [if_neg c16] at h
          refine lv_aload_n hx hb dX9_merges_54 rfl (lv_at hl 2 rfl) ?_
          refine lv_iconst (v := (nI 4)) hx hb dX9_merges_55 (by decide) ?_
          refine lv_iload hx hb dX9_merges_56 (lv_at hl 0 rfl) ?_
          obtain ⟨⟨r64, w65, w66⟩, hr67, h⟩ := ob h
          dsimp only at h
          refine px_V (As := [.int (nI 4), .int r12]) (rest := []) (gs := ([gX9 E a v_now v_tried v_kept v_undos v_saved v_isSaved v_line v_lined v_text v_length v_at v_order v_told v_error v_reason v_detail v_answer v_thrown v_mixed v_conflicts v_firstConflict] : List va_W)) (gr := ([] : List va_W)) (gc := ([gX9 E a v_now v_tried v_kept v_undos v_saved v_isSaved v_line v_lined v_text v_length v_at v_order v_told v_error v_reason v_detail v_answer v_thrown v_mixed v_conflicts v_firstConflict] : List va_W)) (g1 := ([gX9 E a v_now v_tried v_kept v_undos v_saved v_isSaved v_line v_lined v_text v_length v_at v_order v_told v_error w65 w66 v_answer v_thrown v_mixed v_conflicts v_firstConflict] : List va_W)) (g2 := ([gX9 E a v_now v_tried v_kept v_undos v_saved v_isSaved v_line v_lined v_text v_length v_at v_order v_told v_error w65 w66 v_answer v_thrown v_mixed v_conflicts v_firstConflict] : List va_W)) ⟨hx, hb, hml, hown, hts⟩ (c9_refuses l E a  ((nI 4)) (r12) (v_now) (v_tried) (v_kept) (v_undos) (v_saved) (v_isSaved) (v_line) (v_lined) (v_text) (v_length) (v_at) (v_order) (v_told) (v_error) (v_reason) (v_detail) (v_answer) (v_thrown) (v_mixed) (v_conflicts) (v_firstConflict) r64 w65 w66 hr67) (cwV 2 hts (ws_v q1300 q1302 q23 q68 q1303) rfl rfl rfl hdV_X9_refuses (by rw [hR]; exact ⟨Nat.le_of_ble_eq_true rfl, Nat.le_of_ble_eq_true rfl⟩)) hK hN hP hD hS hA [] [0] [0] rfl rfl (by decide) (by decide) rfl (by decide) 0 9 rfl rfl rfl rfl hl.1 rfl (Nat.le_of_ble_eq_true rfl) dX9_merges_58 (by rw [hR]; exact ⟨Nat.le_of_ble_eq_true rfl, Nat.le_of_ble_eq_true rfl⟩) (fun H locs hP hD hS => ?_)
          refine W.eq (g2 := F0 m 61 ls [.int r64]) rfl ?_
          cases h
          exact px_eWi hA0 hQ hP hD hS hx hb hr hlocks dX9_merges_61
      · rw [if_pos c9] at h
        refine lv_iconst (v := (nI 2)) hx hb dX9_merges_27 (by decide) ?_
        cases h
        exact px_eWi hA0 hQ hP hD hS hx hb hr hlocks dX9_merges_28
    · rw [if_pos c6] at h
      refine lv_iconst (v := (nI 1)) hx hb dX9_merges_16 (by decide) ?_
      cases h
      exact px_eWi hA0 hQ hP hD hS hx hb hr hlocks dX9_merges_17
def f9_merge (x1 : Int32) (x2 : Int32) (x3 : Int32) (v_now : AI) (v_tried : AI) (v_kept : AI) (v_undos : Int32) (v_reason : Int32) (v_detail : Int32) (v_answer : Int32) (v_thrown : Int32) (v_mixed : AI) (v_conflicts : Int32) (v_firstConflict : Int32) : Option (Int32 × AI × AI × AI × Int32 × Int32 × Int32 × Int32 × Int32 × AI × Int32 × Int32) := ((f9_tries (v_now) (v_tried) (v_thrown)).bind fun (w1, w2) => ((f9_merges (x1) (x2) (x3) (v_now) (v_reason) (v_detail) (v_answer) (v_mixed) (v_conflicts) (v_firstConflict)).bind fun (r4, w5, w6, w7, w8, w9, w10, w11) => ((f9_ends (r4) (w1) (v_kept) (v_undos) (w8) (w2)).bind fun (r13, w14, w15, w16) => (some (r13, w5, w1, w14, w15, w6, w7, w8, w16, w9, w10, w11)))))
set_option maxHeartbeats 4000000 in
set_option maxRecDepth 100000 in
theorem c9_merge (l : Launch) (E : PE) (a : Nat → Nat)  (x1 : Int32) (x2 : Int32) (x3 : Int32) (v_now : AI) (v_tried : AI) (v_kept : AI) (v_undos : Int32) (v_saved : AI) (v_isSaved : Int32) (v_line : AI) (v_lined : Int32) (v_text : AI) (v_length : Int32) (v_at : Int32) (v_order : Int32) (v_told : AI) (v_error : Int32) (v_reason : Int32) (v_detail : Int32) (v_answer : Int32) (v_thrown : Int32) (v_mixed : AI) (v_conflicts : Int32) (v_firstConflict : Int32) (r : Int32) (z_this_now : AI) (z_this_tried : AI) (z_this_kept : AI) (z_this_undos : Int32) (z_this_reason : Int32) (z_this_detail : Int32) (z_this_answer : Int32) (z_this_thrown : Int32) (z_this_mixed : AI) (z_this_conflicts : Int32) (z_this_firstConflict : Int32) (h : f9_merge x1 x2 x3 v_now v_tried v_kept v_undos v_reason v_detail v_answer v_thrown v_mixed v_conflicts v_firstConflict = some (r, z_this_now, z_this_tried, z_this_kept, z_this_undos, z_this_reason, z_this_detail, z_this_answer, z_this_thrown, z_this_mixed, z_this_conflicts, z_this_firstConflict)) : MW l yX9_merge cX9_merge 4 (some .int) { frames := 4, cells := 0, slots := 0, locals := 98 } E [.ref (a 0), .int x1, .int x2, .int x3] ([gX9 E a v_now v_tried v_kept v_undos v_saved v_isSaved v_line v_lined v_text v_length v_at v_order v_told v_error v_reason v_detail v_answer v_thrown v_mixed v_conflicts v_firstConflict] : List va_W).flatten 0 0 (some (.int r)) ([gX9 E a z_this_now z_this_tried z_this_kept z_this_undos v_saved v_isSaved v_line v_lined v_text v_length v_at v_order v_told v_error z_this_reason z_this_detail z_this_answer z_this_thrown z_this_mixed z_this_conflicts z_this_firstConflict] : List va_W).flatten := by
  refine px_startW (by decide +kernel) (Nat.le_of_ble_eq_true rfl) ?_
  intro p e s m args below meth c R Q A ls hC hA0 hQ
  obtain ⟨hx, hb, hr, hml, hts, hown, hlocks, hR, hK, hN, hP, hD, hA, hl, hin⟩ := hC
  have hl : lv_has ls 4 [(0, .ref (a 0)), (1, .int x1), (2, .int x2), (3, .int x3)] := hl
  suffices key : ∀ (H : Heap) (locs : List Loc), va_P E.1 vwCl ([gX9 E a v_now v_tried v_kept v_undos v_saved v_isSaved v_line v_lined v_text v_length v_at v_order v_told v_error v_reason v_detail v_answer v_thrown v_mixed v_conflicts v_firstConflict] : List va_W).flatten H → va_S A s.heap H locs → W p l e R s m args below meth c H locs 0 0 Q (F0 m 0 ls []) from key s.heap [] hP va_S.rf
  unfold f9_merge at h
  intro H locs hP hS
  refine lv_aload_n hx hb dX9_merge_0 rfl (lv_at hl 0 rfl) ?_
  obtain ⟨⟨w1, w2⟩, hr3, h⟩ := ob h
  dsimp only at h
  refine px_V (As := []) (rest := []) (gs := ([gX9 E a v_now v_tried v_kept v_undos v_saved v_isSaved v_line v_lined v_text v_length v_at v_order v_told v_error v_reason v_detail v_answer v_thrown v_mixed v_conflicts v_firstConflict] : List va_W)) (gr := ([] : List va_W)) (gc := ([gX9 E a v_now v_tried v_kept v_undos v_saved v_isSaved v_line v_lined v_text v_length v_at v_order v_told v_error v_reason v_detail v_answer v_thrown v_mixed v_conflicts v_firstConflict] : List va_W)) (g1 := ([gX9 E a v_now w1 v_kept v_undos v_saved v_isSaved v_line v_lined v_text v_length v_at v_order v_told v_error v_reason v_detail v_answer w2 v_mixed v_conflicts v_firstConflict] : List va_W)) (g2 := ([gX9 E a v_now w1 v_kept v_undos v_saved v_isSaved v_line v_lined v_text v_length v_at v_order v_told v_error v_reason v_detail v_answer w2 v_mixed v_conflicts v_firstConflict] : List va_W)) ⟨hx, hb, hml, hown, hts⟩ (c9_tries l E a   (v_now) (v_tried) (v_kept) (v_undos) (v_saved) (v_isSaved) (v_line) (v_lined) (v_text) (v_length) (v_at) (v_order) (v_told) (v_error) (v_reason) (v_detail) (v_answer) (v_thrown) (v_mixed) (v_conflicts) (v_firstConflict) w1 w2 hr3) (cwV 0 hts (ws_v q1270 q1272 q17 q68 q1273) rfl rfl rfl hdV_X9_tries (by rw [hR]; exact ⟨Nat.le_of_ble_eq_true rfl, Nat.le_of_ble_eq_true rfl⟩)) hK hN hP hD hS hA [] [0] [0] rfl rfl (by decide) (by decide) rfl (by decide) 0 9 rfl rfl rfl rfl hl.1 rfl (Nat.le_of_ble_eq_true rfl) dX9_merge_1 (by rw [hR]; exact ⟨Nat.le_of_ble_eq_true rfl, Nat.le_of_ble_eq_true rfl⟩) (fun H locs hP hD hS => ?_)
  refine W.eq (g2 := F0 m 4 ls []) rfl ?_
  refine lv_aload_n hx hb dX9_merge_4 rfl (lv_at hl 0 rfl) ?_
  refine lv_aload_n hx hb dX9_merge_5 rfl (lv_at hl 0 rfl) ?_
  refine lv_iload_n hx hb dX9_merge_6 rfl (lv_at hl 1 rfl) ?_
  refine lv_iload_n hx hb dX9_merge_7 rfl (lv_at hl 2 rfl) ?_
  refine lv_iload_n hx hb dX9_merge_8 rfl (lv_at hl 3 rfl) ?_
  obtain ⟨⟨r4, w5, w6, w7, w8, w9, w10, w11⟩, hr12, h⟩ := ob h
  dsimp only at h
  refine px_V (As := [.int x1, .int x2, .int x3]) (rest := [.ref (a 0)]) (gs := ([gX9 E a v_now w1 v_kept v_undos v_saved v_isSaved v_line v_lined v_text v_length v_at v_order v_told v_error v_reason v_detail v_answer w2 v_mixed v_conflicts v_firstConflict] : List va_W)) (gr := ([] : List va_W)) (gc := ([gX9 E a v_now w1 v_kept v_undos v_saved v_isSaved v_line v_lined v_text v_length v_at v_order v_told v_error v_reason v_detail v_answer w2 v_mixed v_conflicts v_firstConflict] : List va_W)) (g1 := ([gX9 E a w5 w1 v_kept v_undos v_saved v_isSaved v_line v_lined v_text v_length v_at v_order v_told v_error w6 w7 w8 w2 w9 w10 w11] : List va_W)) (g2 := ([gX9 E a w5 w1 v_kept v_undos v_saved v_isSaved v_line v_lined v_text v_length v_at v_order v_told v_error w6 w7 w8 w2 w9 w10 w11] : List va_W)) ⟨hx, hb, hml, hown, hts⟩ (c9_merges l E a  (x1) (x2) (x3) (v_now) (w1) (v_kept) (v_undos) (v_saved) (v_isSaved) (v_line) (v_lined) (v_text) (v_length) (v_at) (v_order) (v_told) (v_error) (v_reason) (v_detail) (v_answer) (w2) (v_mixed) (v_conflicts) (v_firstConflict) r4 w5 w6 w7 w8 w9 w10 w11 hr12) (cwV 3 hts (ws_v q1378 q1380 q36 q68 q1381) rfl rfl rfl hdV_X9_merges (by rw [hR]; exact ⟨Nat.le_of_ble_eq_true rfl, Nat.le_of_ble_eq_true rfl⟩)) hK hN hP hD hS hA [] [0] [0] rfl rfl (by decide) (by decide) rfl (by decide) 0 9 rfl rfl rfl rfl hl.1 rfl (Nat.le_of_ble_eq_true rfl) dX9_merge_9 (by rw [hR]; exact ⟨Nat.le_of_ble_eq_true rfl, Nat.le_of_ble_eq_true rfl⟩) (fun H locs hP hD hS => ?_)
  refine W.eq (g2 := F0 m 12 ls [.int r4, .ref (a 0)]) rfl ?_
  obtain ⟨⟨r13, w14, w15, w16⟩, hr17, h⟩ := ob h
  dsimp only at h
  refine px_V (As := [.int r4]) (rest := []) (gs := ([gX9 E a w5 w1 v_kept v_undos v_saved v_isSaved v_line v_lined v_text v_length v_at v_order v_told v_error w6 w7 w8 w2 w9 w10 w11] : List va_W)) (gr := ([] : List va_W)) (gc := ([gX9 E a w5 w1 v_kept v_undos v_saved v_isSaved v_line v_lined v_text v_length v_at v_order v_told v_error w6 w7 w8 w2 w9 w10 w11] : List va_W)) (g1 := ([gX9 E a w5 w1 w14 w15 v_saved v_isSaved v_line v_lined v_text v_length v_at v_order v_told v_error w6 w7 w8 w16 w9 w10 w11] : List va_W)) (g2 := ([gX9 E a w5 w1 w14 w15 v_saved v_isSaved v_line v_lined v_text v_length v_at v_order v_told v_error w6 w7 w8 w16 w9 w10 w11] : List va_W)) ⟨hx, hb, hml, hown, hts⟩ (c9_ends l E a  (r4) (w5) (w1) (v_kept) (v_undos) (v_saved) (v_isSaved) (v_line) (v_lined) (v_text) (v_length) (v_at) (v_order) (v_told) (v_error) (w6) (w7) (w8) (w2) (w9) (w10) (w11) r13 w14 w15 w16 hr17) (cwV 1 hts (ws_v q1312 q1314 q26 q68 q1315) rfl rfl rfl hdV_X9_ends (by rw [hR]; exact ⟨Nat.le_of_ble_eq_true rfl, Nat.le_of_ble_eq_true rfl⟩)) hK hN hP hD hS hA [] [0] [0] rfl rfl (by decide) (by decide) rfl (by decide) 0 9 rfl rfl rfl rfl hl.1 rfl (Nat.le_of_ble_eq_true rfl) dX9_merge_12 (by rw [hR]; exact ⟨Nat.le_of_ble_eq_true rfl, Nat.le_of_ble_eq_true rfl⟩) (fun H locs hP hD hS => ?_)
  refine W.eq (g2 := F0 m 15 ls [.int r13]) rfl ?_
  cases h
  exact px_eWi hA0 hQ hP hD hS hx hb hr hlocks dX9_merge_15
def f9_picked_L26 (x1 : Int32) (x2 : Int32) (v_mixed : AI) (v_conflicts : Int32) (v_firstConflict : Int32) : Nat → Int32 → Int32 → AI → Int32 → Int32 → Int32 → Option (Int32 × AI × Int32 × Int32 × Int32)
  | 0, _, _, _, _, _, _ => none
  | n + 1, x3, x4, v_now, v_reason, v_detail, v_answer => (if (nI 6) ≤ x4 then (if x3 = 0 then (if (v_now ((nI 0)).toNatClampNeg) = (nI 24) then ((f9_refuses ((nI 1)) ((nI 24)) (v_reason) (v_detail)).bind fun (r18, w19, w20) => (some (r18, v_now, w19, w20, v_answer))) else ((f9_comes (x1) ((nI 2)) ((-1 : Int32)) (v_now)).bind fun (r10, w11) => ((f9_lays (r10) (w11) (v_mixed)).bind fun w13 => ((f9_does (r10) (v_answer)).bind fun (r15, w16) => (some (r15, w13, v_reason, v_detail, w16)))))) else ((f9_top (x1) (v_now)).bind fun r22 => ((f9_refuses ((nI 7)) (r22) (v_reason) (v_detail)).bind fun (r24, w25, w26) => (some (r24, v_now, w25, w26, v_answer))))) else (if inb x4 6 = true then ((f9_top (x1) (v_now)).bind fun r29 => ((f9_has (r29) (x4) (v_now)).bind fun r31 => (if (v_mixed (x4).toNatClampNeg) = r31 then (f9_picked_L26 x1 x2 v_mixed v_conflicts v_firstConflict n ((x3 &&& (nI 1))) ((x4 + nI 1)) (v_now) (v_reason) (v_detail) (v_answer)) else (f9_picked_L26 x1 x2 v_mixed v_conflicts v_firstConflict n ((x3 &&& (nI 0))) ((x4 + nI 1)) (v_now) (v_reason) (v_detail) (v_answer))))) else none))
def f9_picked (x1 : Int32) (x2 : Int32) (v_now : AI) (v_reason : Int32) (v_detail : Int32) (v_answer : Int32) (v_mixed : AI) (v_conflicts : Int32) (v_firstConflict : Int32) : Option (Int32 × AI × Int32 × Int32 × Int32) := (if v_conflicts ≤ 0 then (f9_picked_L26 x1 x2 v_mixed v_conflicts v_firstConflict fuel ((nI 1)) ((nI 0)) (v_now) (v_reason) (v_detail) (v_answer)) else (if x2 = 0 then ((f9_refuses ((nI 5)) (v_firstConflict) (v_reason) (v_detail)).bind fun (r3, w4, w5) => (some (r3, v_now, w4, w5, v_answer))) else (f9_picked_L26 x1 x2 v_mixed v_conflicts v_firstConflict fuel ((nI 1)) ((nI 0)) (v_now) (v_reason) (v_detail) (v_answer))))
set_option maxHeartbeats 4000000 in
set_option maxRecDepth 100000 in
theorem c9_picked (l : Launch) (E : PE) (a : Nat → Nat)  (x1 : Int32) (x2 : Int32) (v_now : AI) (v_tried : AI) (v_kept : AI) (v_undos : Int32) (v_saved : AI) (v_isSaved : Int32) (v_line : AI) (v_lined : Int32) (v_text : AI) (v_length : Int32) (v_at : Int32) (v_order : Int32) (v_told : AI) (v_error : Int32) (v_reason : Int32) (v_detail : Int32) (v_answer : Int32) (v_thrown : Int32) (v_mixed : AI) (v_conflicts : Int32) (v_firstConflict : Int32) (r : Int32) (z_this_now : AI) (z_this_reason : Int32) (z_this_detail : Int32) (z_this_answer : Int32) (h : f9_picked x1 x2 v_now v_reason v_detail v_answer v_mixed v_conflicts v_firstConflict = some (r, z_this_now, z_this_reason, z_this_detail, z_this_answer)) : MW l yX9_picked cX9_picked 5 (some .int) { frames := 3, cells := 0, slots := 0, locals := 69 } E [.ref (a 0), .int x1, .int x2] ([gX9 E a v_now v_tried v_kept v_undos v_saved v_isSaved v_line v_lined v_text v_length v_at v_order v_told v_error v_reason v_detail v_answer v_thrown v_mixed v_conflicts v_firstConflict] : List va_W).flatten 0 0 (some (.int r)) ([gX9 E a z_this_now v_tried v_kept v_undos v_saved v_isSaved v_line v_lined v_text v_length v_at v_order v_told v_error z_this_reason z_this_detail z_this_answer v_thrown v_mixed v_conflicts v_firstConflict] : List va_W).flatten := by
  refine px_startW (by decide +kernel) (Nat.le_of_ble_eq_true rfl) ?_
  intro p e s m args below meth c R Q A ls hC hA0 hQ
  obtain ⟨hx, hb, hr, hml, hts, hown, hlocks, hR, hK, hN, hP, hD, hA, hl, hin⟩ := hC
  have hl : lv_has ls 5 [(0, .ref (a 0)), (1, .int x1), (2, .int x2)] := hl
  suffices key : ∀ (H : Heap) (locs : List Loc), va_P E.1 vwCl ([gX9 E a v_now v_tried v_kept v_undos v_saved v_isSaved v_line v_lined v_text v_length v_at v_order v_told v_error v_reason v_detail v_answer v_thrown v_mixed v_conflicts v_firstConflict] : List va_W).flatten H → va_S A s.heap H locs → W p l e R s m args below meth c H locs 0 0 Q (F0 m 0 ls []) from key s.heap [] hP va_S.rf
  unfold f9_picked at h
  have L26 : ∀ (n : Nat) (x3 : Int32) (x4 : Int32) (v_now : AI) (v_reason : Int32) (v_detail : Int32) (v_answer : Int32) (H : Heap) (locs : List Loc) (ls : Array Slot), va_P E.1 vwCl ([gX9 E a v_now v_tried v_kept v_undos v_saved v_isSaved v_line v_lined v_text v_length v_at v_order v_told v_error v_reason v_detail v_answer v_thrown v_mixed v_conflicts v_firstConflict] : List va_W).flatten H → va_D A ([gX9 E a v_now v_tried v_kept v_undos v_saved v_isSaved v_line v_lined v_text v_length v_at v_order v_told v_error v_reason v_detail v_answer v_thrown v_mixed v_conflicts v_firstConflict] : List va_W).flatten → va_S A s.heap H locs → lv_has ls 5 [(0, .ref (a 0)), (1, .int x1), (3, .int x3), (4, .int x4)] → f9_picked_L26 x1 x2 v_mixed v_conflicts v_firstConflict n x3 x4 v_now v_reason v_detail v_answer = some (r, z_this_now, z_this_reason, z_this_detail, z_this_answer) → W p l e R s m args below meth c H locs 0 0 Q (F0 m 26 ls []) := by
    intro n
    induction n with
    | zero =>
      intro x3 x4 v_now v_reason v_detail v_answer H locs ls hP hD hS hl h
      unfold f9_picked_L26 at h; cases h
    | succ n ih =>
      intro x3 x4 v_now v_reason v_detail v_answer H locs ls hP hD hS hl h
      unfold f9_picked_L26 at h
      refine lv_iload hx hb dX9_picked_26 (lv_at hl 3 rfl) ?_
      refine lv_bipush (v := (nI 6)) hx hb dX9_picked_28 (by decide) ?_
      refine lv_icmp_ge (tgt := 68) hx hb dX9_picked_30 (by decide) (fun c7 => ?_) (fun c7 => ?_)
      · rw [if_pos c7] at h
        refine lv_iload_n hx hb dX9_picked_68 rfl (lv_at hl 2 rfl) ?_
        refine lv_if_eq (tgt := 84) hx hb dX9_picked_69 (by decide) (fun c8 => ?_) (fun c8 => ?_)
        · rw [if_pos c8] at h
          refine lv_aload_n hx hb dX9_picked_84 rfl (lv_at hl 0 rfl) ?_
          refine va_get (D := E.1) (ci := 9) (v := .ref (a 1)) (C := RX9) (T := TX9) (N := 21) hx hb hts iX9 hown hK hP 0 rfl rfl 0 (by decide) (hts _ q1198) (fun _ h9 => h9) rfl dX9_picked_85 ?_
          refine lv_iconst (v := (nI 0)) hx hb dX9_picked_88 (by decide) ?_
          refine va_iald (f := v_now) hx hb hK hP 1 0 rfl rfl (inb_in (i := (nI 0)) (n := 228) (by decide)) dX9_picked_89 ?_
          refine lv_bipush (v := (nI 24)) hx hb dX9_picked_90 (by decide) ?_
          refine lv_icmp_ne (tgt := 103) hx hb dX9_picked_92 (by decide) (fun c9 => ?_) (fun c9 => ?_)
          · rw [if_neg c9] at h
            refine lv_aload_n hx hb dX9_picked_103 rfl (lv_at hl 0 rfl) ?_
            refine lv_iload_n hx hb dX9_picked_104 rfl (lv_at hl 1 rfl) ?_
            refine lv_iconst (v := (nI 2)) hx hb dX9_picked_105 (by decide) ?_
            refine lv_iconst (v := (-1 : Int32)) hx hb dX9_picked_106 (by decide) ?_
            obtain ⟨⟨r10, w11⟩, hr12, h⟩ := ob h
            dsimp only at h
            refine px_V (As := [.int x1, .int (nI 2), .int (-1 : Int32)]) (rest := []) (gs := ([gX9 E a v_now v_tried v_kept v_undos v_saved v_isSaved v_line v_lined v_text v_length v_at v_order v_told v_error v_reason v_detail v_answer v_thrown v_mixed v_conflicts v_firstConflict] : List va_W)) (gr := ([] : List va_W)) (gc := ([gX9 E a v_now v_tried v_kept v_undos v_saved v_isSaved v_line v_lined v_text v_length v_at v_order v_told v_error v_reason v_detail v_answer v_thrown v_mixed v_conflicts v_firstConflict] : List va_W)) (g1 := ([gX9 E a w11 v_tried v_kept v_undos v_saved v_isSaved v_line v_lined v_text v_length v_at v_order v_told v_error v_reason v_detail v_answer v_thrown v_mixed v_conflicts v_firstConflict] : List va_W)) (g2 := ([gX9 E a w11 v_tried v_kept v_undos v_saved v_isSaved v_line v_lined v_text v_length v_at v_order v_told v_error v_reason v_detail v_answer v_thrown v_mixed v_conflicts v_firstConflict] : List va_W)) ⟨hx, hb, hml, hown, hts⟩ (c9_comes l E a  (x1) ((nI 2)) ((-1 : Int32)) (v_now) (v_tried) (v_kept) (v_undos) (v_saved) (v_isSaved) (v_line) (v_lined) (v_text) (v_length) (v_at) (v_order) (v_told) (v_error) (v_reason) (v_detail) (v_answer) (v_thrown) (v_mixed) (v_conflicts) (v_firstConflict) r10 w11 hr12) (cwV 3 hts (ws_v q1304 q1306 q24 q68 q1307) rfl rfl rfl hdV_X9_comes (by rw [hR]; exact ⟨Nat.le_of_ble_eq_true rfl, Nat.le_of_ble_eq_true rfl⟩)) hK hN hP hD hS hA [] [0] [0] rfl rfl (by decide) (by decide) rfl (by decide) 0 9 rfl rfl rfl rfl hl.1 rfl (Nat.le_of_ble_eq_true rfl) dX9_picked_107 (by rw [hR]; exact ⟨Nat.le_of_ble_eq_true rfl, Nat.le_of_ble_eq_true rfl⟩) (fun H locs hP hD hS => ?_)
            refine W.eq (g2 := F0 m 110 ls [.int r10]) rfl ?_
            refine lv_istore (lv' := [(4, .int r10), (0, .ref (a 0)), (1, .int x1), (3, .int x3)]) hx hb dX9_picked_110 hl (by decide) rfl (fun ls hl => ?_)
            refine lv_aload_n hx hb dX9_picked_112 rfl (lv_at hl 1 rfl) ?_
            refine lv_iload hx hb dX9_picked_113 (lv_at hl 0 rfl) ?_
            obtain ⟨w13, hr14, h⟩ := ob h
            refine px_V (As := [.int r10]) (rest := []) (gs := ([gX9 E a w11 v_tried v_kept v_undos v_saved v_isSaved v_line v_lined v_text v_length v_at v_order v_told v_error v_reason v_detail v_answer v_thrown v_mixed v_conflicts v_firstConflict] : List va_W)) (gr := ([] : List va_W)) (gc := ([gX9 E a w11 v_tried v_kept v_undos v_saved v_isSaved v_line v_lined v_text v_length v_at v_order v_told v_error v_reason v_detail v_answer v_thrown v_mixed v_conflicts v_firstConflict] : List va_W)) (g1 := ([gX9 E a w13 v_tried v_kept v_undos v_saved v_isSaved v_line v_lined v_text v_length v_at v_order v_told v_error v_reason v_detail v_answer v_thrown v_mixed v_conflicts v_firstConflict] : List va_W)) (g2 := ([gX9 E a w13 v_tried v_kept v_undos v_saved v_isSaved v_line v_lined v_text v_length v_at v_order v_told v_error v_reason v_detail v_answer v_thrown v_mixed v_conflicts v_firstConflict] : List va_W)) ⟨hx, hb, hml, hown, hts⟩ (c9_lays l E a  (r10) (w11) (v_tried) (v_kept) (v_undos) (v_saved) (v_isSaved) (v_line) (v_lined) (v_text) (v_length) (v_at) (v_order) (v_told) (v_error) (v_reason) (v_detail) (v_answer) (v_thrown) (v_mixed) (v_conflicts) (v_firstConflict) w13 hr14) (cwV 1 hts (ws_v q1394 q1396 q40 q68 q1397) rfl rfl rfl hdV_X9_lays (by rw [hR]; exact ⟨Nat.le_of_ble_eq_true rfl, Nat.le_of_ble_eq_true rfl⟩)) hK hN hP hD hS hA [] [0] [0] rfl rfl (by decide) (by decide) rfl (by decide) 0 9 rfl rfl rfl rfl hl.1 rfl (Nat.le_of_ble_eq_true rfl) dX9_picked_115 (by rw [hR]; exact ⟨Nat.le_of_ble_eq_true rfl, Nat.le_of_ble_eq_true rfl⟩) (fun H locs hP hD hS => ?_)
            refine W.eq (g2 := F0 m 118 ls []) rfl ?_
            refine lv_aload_n hx hb dX9_picked_118 rfl (lv_at hl 1 rfl) ?_
            refine lv_iload hx hb dX9_picked_119 (lv_at hl 0 rfl) ?_
            obtain ⟨⟨r15, w16⟩, hr17, h⟩ := ob h
            dsimp only at h
            refine px_V (As := [.int r10]) (rest := []) (gs := ([gX9 E a w13 v_tried v_kept v_undos v_saved v_isSaved v_line v_lined v_text v_length v_at v_order v_told v_error v_reason v_detail v_answer v_thrown v_mixed v_conflicts v_firstConflict] : List va_W)) (gr := ([] : List va_W)) (gc := ([gX9 E a w13 v_tried v_kept v_undos v_saved v_isSaved v_line v_lined v_text v_length v_at v_order v_told v_error v_reason v_detail v_answer v_thrown v_mixed v_conflicts v_firstConflict] : List va_W)) (g1 := ([gX9 E a w13 v_tried v_kept v_undos v_saved v_isSaved v_line v_lined v_text v_length v_at v_order v_told v_error v_reason v_detail w16 v_thrown v_mixed v_conflicts v_firstConflict] : List va_W)) (g2 := ([gX9 E a w13 v_tried v_kept v_undos v_saved v_isSaved v_line v_lined v_text v_length v_at v_order v_told v_error v_reason v_detail w16 v_thrown v_mixed v_conflicts v_firstConflict] : List va_W)) ⟨hx, hb, hml, hown, hts⟩ (c9_does l E a  (r10) (w13) (v_tried) (v_kept) (v_undos) (v_saved) (v_isSaved) (v_line) (v_lined) (v_text) (v_length) (v_at) (v_order) (v_told) (v_error) (v_reason) (v_detail) (v_answer) (v_thrown) (v_mixed) (v_conflicts) (v_firstConflict) r15 w16 hr17) (cwV 1 hts (ws_v q1308 q1310 q25 q68 q1311) rfl rfl rfl hdV_X9_does (by rw [hR]; exact ⟨Nat.le_of_ble_eq_true rfl, Nat.le_of_ble_eq_true rfl⟩)) hK hN hP hD hS hA [] [0] [0] rfl rfl (by decide) (by decide) rfl (by decide) 0 9 rfl rfl rfl rfl hl.1 rfl (Nat.le_of_ble_eq_true rfl) dX9_picked_121 (by rw [hR]; exact ⟨Nat.le_of_ble_eq_true rfl, Nat.le_of_ble_eq_true rfl⟩) (fun H locs hP hD hS => ?_)
            refine W.eq (g2 := F0 m 124 ls [.int r15]) rfl ?_
            cases h
            exact px_eWi hA0 hQ hP hD hS hx hb hr hlocks dX9_picked_124
          · rw [if_pos c9] at h
            refine lv_aload_n hx hb dX9_picked_95 rfl (lv_at hl 0 rfl) ?_
            refine lv_iconst (v := (nI 1)) hx hb dX9_picked_96 (by decide) ?_
            refine lv_bipush (v := (nI 24)) hx hb dX9_picked_97 (by decide) ?_
            obtain ⟨⟨r18, w19, w20⟩, hr21, h⟩ := ob h
            dsimp only at h
            refine px_V (As := [.int (nI 1), .int (nI 24)]) (rest := []) (gs := ([gX9 E a v_now v_tried v_kept v_undos v_saved v_isSaved v_line v_lined v_text v_length v_at v_order v_told v_error v_reason v_detail v_answer v_thrown v_mixed v_conflicts v_firstConflict] : List va_W)) (gr := ([] : List va_W)) (gc := ([gX9 E a v_now v_tried v_kept v_undos v_saved v_isSaved v_line v_lined v_text v_length v_at v_order v_told v_error v_reason v_detail v_answer v_thrown v_mixed v_conflicts v_firstConflict] : List va_W)) (g1 := ([gX9 E a v_now v_tried v_kept v_undos v_saved v_isSaved v_line v_lined v_text v_length v_at v_order v_told v_error w19 w20 v_answer v_thrown v_mixed v_conflicts v_firstConflict] : List va_W)) (g2 := ([gX9 E a v_now v_tried v_kept v_undos v_saved v_isSaved v_line v_lined v_text v_length v_at v_order v_told v_error w19 w20 v_answer v_thrown v_mixed v_conflicts v_firstConflict] : List va_W)) ⟨hx, hb, hml, hown, hts⟩ (c9_refuses l E a  ((nI 1)) ((nI 24)) (v_now) (v_tried) (v_kept) (v_undos) (v_saved) (v_isSaved) (v_line) (v_lined) (v_text) (v_length) (v_at) (v_order) (v_told) (v_error) (v_reason) (v_detail) (v_answer) (v_thrown) (v_mixed) (v_conflicts) (v_firstConflict) r18 w19 w20 hr21) (cwV 2 hts (ws_v q1300 q1302 q23 q68 q1303) rfl rfl rfl hdV_X9_refuses (by rw [hR]; exact ⟨Nat.le_of_ble_eq_true rfl, Nat.le_of_ble_eq_true rfl⟩)) hK hN hP hD hS hA [] [0] [0] rfl rfl (by decide) (by decide) rfl (by decide) 0 9 rfl rfl rfl rfl hl.1 rfl (Nat.le_of_ble_eq_true rfl) dX9_picked_99 (by rw [hR]; exact ⟨Nat.le_of_ble_eq_true rfl, Nat.le_of_ble_eq_true rfl⟩) (fun H locs hP hD hS => ?_)
            refine W.eq (g2 := F0 m 102 ls [.int r18]) rfl ?_
            cases h
            exact px_eWi hA0 hQ hP hD hS hx hb hr hlocks dX9_picked_102
        · rw [if_neg c8] at h
          refine lv_aload_n hx hb dX9_picked_72 rfl (lv_at hl 0 rfl) ?_
          refine lv_bipush (v := (nI 7)) hx hb dX9_picked_73 (by decide) ?_
          refine lv_aload_n hx hb dX9_picked_75 rfl (lv_at hl 0 rfl) ?_
          refine lv_iload_n hx hb dX9_picked_76 rfl (lv_at hl 1 rfl) ?_
          obtain ⟨r22, hr23, h⟩ := ob h
          refine px_Vp (As := [.int x1]) (rest := [.int (nI 7), .ref (a 0)]) (gs := ([gX9 E a v_now v_tried v_kept v_undos v_saved v_isSaved v_line v_lined v_text v_length v_at v_order v_told v_error v_reason v_detail v_answer v_thrown v_mixed v_conflicts v_firstConflict] : List va_W)) (gc := ([gX9 E a v_now v_tried v_kept v_undos v_saved v_isSaved v_line v_lined v_text v_length v_at v_order v_told v_error v_reason v_detail v_answer v_thrown v_mixed v_conflicts v_firstConflict] : List va_W)) ⟨hx, hb, hml, hown, hts⟩ (c9_top l E a  (x1) (v_now) (v_tried) (v_kept) (v_undos) (v_saved) (v_isSaved) (v_line) (v_lined) (v_text) (v_length) (v_at) (v_order) (v_told) (v_error) (v_reason) (v_detail) (v_answer) (v_thrown) (v_mixed) (v_conflicts) (v_firstConflict) r22 hr23) (cwV 1 hts (ws_v q1288 q1290 q20 q68 q1291) rfl rfl rfl hdV_X9_top (by rw [hR]; exact ⟨Nat.le_of_ble_eq_true rfl, Nat.le_of_ble_eq_true rfl⟩)) hK hN hP hD [0] rfl (by decide) 0 9 rfl rfl rfl rfl hl.1 rfl (Nat.le_of_ble_eq_true rfl) dX9_picked_77 (by rw [hR]; exact ⟨Nat.le_of_ble_eq_true rfl, Nat.le_of_ble_eq_true rfl⟩) ?_
          refine W.eq (g2 := F0 m 80 ls [.int r22, .int (nI 7), .ref (a 0)]) rfl ?_
          obtain ⟨⟨r24, w25, w26⟩, hr27, h⟩ := ob h
          dsimp only at h
          refine px_V (As := [.int (nI 7), .int r22]) (rest := []) (gs := ([gX9 E a v_now v_tried v_kept v_undos v_saved v_isSaved v_line v_lined v_text v_length v_at v_order v_told v_error v_reason v_detail v_answer v_thrown v_mixed v_conflicts v_firstConflict] : List va_W)) (gr := ([] : List va_W)) (gc := ([gX9 E a v_now v_tried v_kept v_undos v_saved v_isSaved v_line v_lined v_text v_length v_at v_order v_told v_error v_reason v_detail v_answer v_thrown v_mixed v_conflicts v_firstConflict] : List va_W)) (g1 := ([gX9 E a v_now v_tried v_kept v_undos v_saved v_isSaved v_line v_lined v_text v_length v_at v_order v_told v_error w25 w26 v_answer v_thrown v_mixed v_conflicts v_firstConflict] : List va_W)) (g2 := ([gX9 E a v_now v_tried v_kept v_undos v_saved v_isSaved v_line v_lined v_text v_length v_at v_order v_told v_error w25 w26 v_answer v_thrown v_mixed v_conflicts v_firstConflict] : List va_W)) ⟨hx, hb, hml, hown, hts⟩ (c9_refuses l E a  ((nI 7)) (r22) (v_now) (v_tried) (v_kept) (v_undos) (v_saved) (v_isSaved) (v_line) (v_lined) (v_text) (v_length) (v_at) (v_order) (v_told) (v_error) (v_reason) (v_detail) (v_answer) (v_thrown) (v_mixed) (v_conflicts) (v_firstConflict) r24 w25 w26 hr27) (cwV 2 hts (ws_v q1300 q1302 q23 q68 q1303) rfl rfl rfl hdV_X9_refuses (by rw [hR]; exact ⟨Nat.le_of_ble_eq_true rfl, Nat.le_of_ble_eq_true rfl⟩)) hK hN hP hD hS hA [] [0] [0] rfl rfl (by decide) (by decide) rfl (by decide) 0 9 rfl rfl rfl rfl hl.1 rfl (Nat.le_of_ble_eq_true rfl) dX9_picked_80 (by rw [hR]; exact ⟨Nat.le_of_ble_eq_true rfl, Nat.le_of_ble_eq_true rfl⟩) (fun H locs hP hD hS => ?_)
          refine W.eq (g2 := F0 m 83 ls [.int r24]) rfl ?_
          cases h
          exact px_eWi hA0 hQ hP hD hS hx hb hr hlocks dX9_picked_83
      · rw [if_neg c7] at h
        refine lv_iload_n hx hb dX9_picked_33 rfl (lv_at hl 2 rfl) ?_
        refine lv_aload_n hx hb dX9_picked_34 rfl (lv_at hl 0 rfl) ?_
        refine va_get (D := E.1) (ci := 9) (v := .ref (a 8)) (C := RX9) (T := TX9) (N := 21) hx hb hts iX9 hown hK hP 0 rfl rfl 18 (by decide) (hts _ q1216) (fun _ h9 => h9) rfl dX9_picked_35 ?_
        refine lv_iload hx hb dX9_picked_38 (lv_at hl 3 rfl) ?_
        obtain ⟨i28, h⟩ := o_t h
        refine va_iald (f := v_mixed) hx hb hK hP 8 0 rfl rfl (inb_in i28) dX9_picked_40 ?_
        refine lv_aload_n hx hb dX9_picked_41 rfl (lv_at hl 0 rfl) ?_
        refine lv_aload_n hx hb dX9_picked_42 rfl (lv_at hl 0 rfl) ?_
        refine lv_iload_n hx hb dX9_picked_43 rfl (lv_at hl 1 rfl) ?_
        obtain ⟨r29, hr30, h⟩ := ob h
        refine px_Vp (As := [.int x1]) (rest := [.ref (a 0), .int (v_mixed (x4).toNatClampNeg), .int x3]) (gs := ([gX9 E a v_now v_tried v_kept v_undos v_saved v_isSaved v_line v_lined v_text v_length v_at v_order v_told v_error v_reason v_detail v_answer v_thrown v_mixed v_conflicts v_firstConflict] : List va_W)) (gc := ([gX9 E a v_now v_tried v_kept v_undos v_saved v_isSaved v_line v_lined v_text v_length v_at v_order v_told v_error v_reason v_detail v_answer v_thrown v_mixed v_conflicts v_firstConflict] : List va_W)) ⟨hx, hb, hml, hown, hts⟩ (c9_top l E a  (x1) (v_now) (v_tried) (v_kept) (v_undos) (v_saved) (v_isSaved) (v_line) (v_lined) (v_text) (v_length) (v_at) (v_order) (v_told) (v_error) (v_reason) (v_detail) (v_answer) (v_thrown) (v_mixed) (v_conflicts) (v_firstConflict) r29 hr30) (cwV 1 hts (ws_v q1288 q1290 q20 q68 q1291) rfl rfl rfl hdV_X9_top (by rw [hR]; exact ⟨Nat.le_of_ble_eq_true rfl, Nat.le_of_ble_eq_true rfl⟩)) hK hN hP hD [0] rfl (by decide) 0 9 rfl rfl rfl rfl hl.1 rfl (Nat.le_of_ble_eq_true rfl) dX9_picked_44 (by rw [hR]; exact ⟨Nat.le_of_ble_eq_true rfl, Nat.le_of_ble_eq_true rfl⟩) ?_
        refine W.eq (g2 := F0 m 47 ls [.int r29, .ref (a 0), .int (v_mixed (x4).toNatClampNeg), .int x3]) rfl ?_
        refine lv_iload hx hb dX9_picked_47 (lv_at hl 3 rfl) ?_
        obtain ⟨r31, hr32, h⟩ := ob h
        refine px_Vp (As := [.int r29, .int x4]) (rest := [.int (v_mixed (x4).toNatClampNeg), .int x3]) (gs := ([gX9 E a v_now v_tried v_kept v_undos v_saved v_isSaved v_line v_lined v_text v_length v_at v_order v_told v_error v_reason v_detail v_answer v_thrown v_mixed v_conflicts v_firstConflict] : List va_W)) (gc := ([gX9 E a v_now v_tried v_kept v_undos v_saved v_isSaved v_line v_lined v_text v_length v_at v_order v_told v_error v_reason v_detail v_answer v_thrown v_mixed v_conflicts v_firstConflict] : List va_W)) ⟨hx, hb, hml, hown, hts⟩ (c9_has l E a  (r29) (x4) (v_now) (v_tried) (v_kept) (v_undos) (v_saved) (v_isSaved) (v_line) (v_lined) (v_text) (v_length) (v_at) (v_order) (v_told) (v_error) (v_reason) (v_detail) (v_answer) (v_thrown) (v_mixed) (v_conflicts) (v_firstConflict) r31 hr32) (cwV 2 hts (ws_v q1292 q1294 q21 q68 q1295) rfl rfl rfl hdV_X9_has (by rw [hR]; exact ⟨Nat.le_of_ble_eq_true rfl, Nat.le_of_ble_eq_true rfl⟩)) hK hN hP hD [0] rfl (by decide) 0 9 rfl rfl rfl rfl hl.1 rfl (Nat.le_of_ble_eq_true rfl) dX9_picked_49 (by rw [hR]; exact ⟨Nat.le_of_ble_eq_true rfl, Nat.le_of_ble_eq_true rfl⟩) ?_
        refine W.eq (g2 := F0 m 52 ls [.int r31, .int (v_mixed (x4).toNatClampNeg), .int x3]) rfl ?_
        refine lv_icmp_ne (tgt := 59) hx hb dX9_picked_52 (by decide) (fun c33 => ?_) (fun c33 => ?_)
        · rw [if_neg c33] at h
          refine lv_iconst (v := (nI 0)) hx hb dX9_picked_59 (by decide) ?_
          refine lv_iand hx hb dX9_picked_60 ?_
          refine lv_istore_n (lv' := [(3, .int (x3 &&& (nI 0))), (0, .ref (a 0)), (1, .int x1), (4, .int x4)]) hx hb dX9_picked_61 rfl hl (by decide) rfl (fun ls hl => ?_)
          refine lv_iinc (v := (x4 + nI 1)) (lv' := [(4, .int (x4 + nI 1)), (3, .int (x3 &&& (nI 0))), (0, .ref (a 0)), (1, .int x1)]) hx hb dX9_picked_62 hl (k := 3) rfl rfl (by decide) rfl (fun ls hl => ?_)
          refine lv_goto (tgt := 26) hx hb dX9_picked_65 (by decide) ?_
          exact ih ((x3 &&& (nI 0))) ((x4 + nI 1)) (v_now) (v_reason) (v_detail) (v_answer) H locs ls hP hD hS (lv_sub hl [2, 3, 1, 0] rfl) h
        · rw [if_pos c33] at h
          refine lv_iconst (v := (nI 1)) hx hb dX9_picked_55 (by decide) ?_
          refine lv_goto (tgt := 60) hx hb dX9_picked_56 (by decide) ?_
          refine lv_iand hx hb dX9_picked_60 ?_
          refine lv_istore_n (lv' := [(3, .int (x3 &&& (nI 1))), (0, .ref (a 0)), (1, .int x1), (4, .int x4)]) hx hb dX9_picked_61 rfl hl (by decide) rfl (fun ls hl => ?_)
          refine lv_iinc (v := (x4 + nI 1)) (lv' := [(4, .int (x4 + nI 1)), (3, .int (x3 &&& (nI 1))), (0, .ref (a 0)), (1, .int x1)]) hx hb dX9_picked_62 hl (k := 3) rfl rfl (by decide) rfl (fun ls hl => ?_)
          refine lv_goto (tgt := 26) hx hb dX9_picked_65 (by decide) ?_
          exact ih ((x3 &&& (nI 1))) ((x4 + nI 1)) (v_now) (v_reason) (v_detail) (v_answer) H locs ls hP hD hS (lv_sub hl [2, 3, 1, 0] rfl) h
  intro H locs hP hS
  refine lv_aload_n hx hb dX9_picked_0 rfl (lv_at hl 0 rfl) ?_
  refine va_get (D := E.1) (ci := 9) (v := .int v_conflicts) (C := RX9) (T := TX9) (N := 21) hx hb hts iX9 hown hK hP 0 rfl rfl 19 (by decide) (hts _ q1217) (fun _ h9 => h9) rfl dX9_picked_1 ?_
  refine lv_if_le (tgt := 21) hx hb dX9_picked_4 (by decide) (fun c1 => ?_) (fun c1 => ?_)
  · rw [if_pos c1] at h
    refine lv_iconst (v := (nI 1)) hx hb dX9_picked_21 (by decide) ?_
    refine lv_istore_n (lv' := [(3, .int (nI 1)), (0, .ref (a 0)), (1, .int x1), (2, .int x2)]) hx hb dX9_picked_22 rfl hl (by decide) rfl (fun ls hl => ?_)
    refine lv_iconst (v := (nI 0)) hx hb dX9_picked_23 (by decide) ?_
    refine lv_istore (lv' := [(4, .int (nI 0)), (3, .int (nI 1)), (0, .ref (a 0)), (1, .int x1), (2, .int x2)]) hx hb dX9_picked_24 hl (by decide) rfl (fun ls hl => ?_)
    exact L26 fuel ((nI 1)) ((nI 0)) (v_now) (v_reason) (v_detail) (v_answer) H locs ls hP hD hS (lv_sub hl [2, 3, 1, 0] rfl) h
  · rw [if_neg c1] at h
    refine lv_iload_n hx hb dX9_picked_7 rfl (lv_at hl 2 rfl) ?_
    refine lv_if_ne (tgt := 21) hx hb dX9_picked_8 (by decide) (fun c2 => ?_) (fun c2 => ?_)
    · rw [if_neg c2] at h
      refine lv_iconst (v := (nI 1)) hx hb dX9_picked_21 (by decide) ?_
      refine lv_istore_n (lv' := [(3, .int (nI 1)), (0, .ref (a 0)), (1, .int x1), (2, .int x2)]) hx hb dX9_picked_22 rfl hl (by decide) rfl (fun ls hl => ?_)
      refine lv_iconst (v := (nI 0)) hx hb dX9_picked_23 (by decide) ?_
      refine lv_istore (lv' := [(4, .int (nI 0)), (3, .int (nI 1)), (0, .ref (a 0)), (1, .int x1), (2, .int x2)]) hx hb dX9_picked_24 hl (by decide) rfl (fun ls hl => ?_)
      exact L26 fuel ((nI 1)) ((nI 0)) (v_now) (v_reason) (v_detail) (v_answer) H locs ls hP hD hS (lv_sub hl [2, 3, 1, 0] rfl) h
    · rw [if_pos c2] at h
      refine lv_aload_n hx hb dX9_picked_11 rfl (lv_at hl 0 rfl) ?_
      refine lv_iconst (v := (nI 5)) hx hb dX9_picked_12 (by decide) ?_
      refine lv_aload_n hx hb dX9_picked_13 rfl (lv_at hl 0 rfl) ?_
      refine va_get (D := E.1) (ci := 9) (v := .int v_firstConflict) (C := RX9) (T := TX9) (N := 21) hx hb hts iX9 hown hK hP 0 rfl rfl 20 (by decide) (hts _ q1218) (fun _ h9 => h9) rfl dX9_picked_14 ?_
      obtain ⟨⟨r3, w4, w5⟩, hr6, h⟩ := ob h
      dsimp only at h
      refine px_V (As := [.int (nI 5), .int v_firstConflict]) (rest := []) (gs := ([gX9 E a v_now v_tried v_kept v_undos v_saved v_isSaved v_line v_lined v_text v_length v_at v_order v_told v_error v_reason v_detail v_answer v_thrown v_mixed v_conflicts v_firstConflict] : List va_W)) (gr := ([] : List va_W)) (gc := ([gX9 E a v_now v_tried v_kept v_undos v_saved v_isSaved v_line v_lined v_text v_length v_at v_order v_told v_error v_reason v_detail v_answer v_thrown v_mixed v_conflicts v_firstConflict] : List va_W)) (g1 := ([gX9 E a v_now v_tried v_kept v_undos v_saved v_isSaved v_line v_lined v_text v_length v_at v_order v_told v_error w4 w5 v_answer v_thrown v_mixed v_conflicts v_firstConflict] : List va_W)) (g2 := ([gX9 E a v_now v_tried v_kept v_undos v_saved v_isSaved v_line v_lined v_text v_length v_at v_order v_told v_error w4 w5 v_answer v_thrown v_mixed v_conflicts v_firstConflict] : List va_W)) ⟨hx, hb, hml, hown, hts⟩ (c9_refuses l E a  ((nI 5)) (v_firstConflict) (v_now) (v_tried) (v_kept) (v_undos) (v_saved) (v_isSaved) (v_line) (v_lined) (v_text) (v_length) (v_at) (v_order) (v_told) (v_error) (v_reason) (v_detail) (v_answer) (v_thrown) (v_mixed) (v_conflicts) (v_firstConflict) r3 w4 w5 hr6) (cwV 2 hts (ws_v q1300 q1302 q23 q68 q1303) rfl rfl rfl hdV_X9_refuses (by rw [hR]; exact ⟨Nat.le_of_ble_eq_true rfl, Nat.le_of_ble_eq_true rfl⟩)) hK hN hP hD hS hA [] [0] [0] rfl rfl (by decide) (by decide) rfl (by decide) 0 9 rfl rfl rfl rfl hl.1 rfl (Nat.le_of_ble_eq_true rfl) dX9_picked_17 (by rw [hR]; exact ⟨Nat.le_of_ble_eq_true rfl, Nat.le_of_ble_eq_true rfl⟩) (fun H locs hP hD hS => ?_)
      refine W.eq (g2 := F0 m 20 ls [.int r3]) rfl ?_
      cases h
      exact px_eWi hA0 hQ hP hD hS hx hb hr hlocks dX9_picked_20
def f9_picks (x1 : Int32) (x2 : Int32) (x3 : Int32) (v_now : AI) (v_reason : Int32) (v_detail : Int32) (v_answer : Int32) (v_mixed : AI) (v_conflicts : Int32) (v_firstConflict : Int32) : Option (Int32 × AI × Int32 × Int32 × Int32 × AI × Int32 × Int32) := ((f9_isBranch (x1) (v_now)).bind fun r1 => (if (b2i r1) = 0 then (some ((nI 1), v_now, v_reason, v_detail, v_answer, v_mixed, v_conflicts, v_firstConflict)) else ((f9_isCommit (x2) (v_now)).bind fun r4 => (if (b2i r4) = 0 then (some ((nI 1), v_now, v_reason, v_detail, v_answer, v_mixed, v_conflicts, v_firstConflict)) else ((f9_in (x3) ((nI 0)) ((nI 3))).bind fun r7 => (if (b2i r7) = 0 then (some ((nI 2), v_now, v_reason, v_detail, v_answer, v_mixed, v_conflicts, v_firstConflict)) else ((f9_top (x1) (v_now)).bind fun r10 => ((f9_isWithin (x2) (r10) (v_now)).bind fun r12 => (if (b2i r12) = 0 then (if x2 = 0 then ((f9_refuses ((nI 6)) ((nI 0)) (v_reason) (v_detail)).bind fun (r30, w31, w32) => (some (r30, v_now, w31, w32, v_answer, v_mixed, v_conflicts, v_firstConflict))) else ((f9_top (x1) (v_now)).bind fun r16 => ((f9_of (x2) ((nI 1)) (v_now)).bind fun r18 => ((f9_mixes (r16) (x2) (r18) (x3) (v_now) (v_mixed) (v_conflicts) (v_firstConflict)).bind fun (w20, w21, w22) => ((f9_picked (x1) (x3) (v_now) (v_reason) (v_detail) (v_answer) (w20) (w21) (w22)).bind fun (r24, w25, w26, w27, w28) => (some (r24, w25, w26, w27, w28, w20, w21, w22))))))) else ((f9_refuses ((nI 4)) (x2) (v_reason) (v_detail)).bind fun (r34, w35, w36) => (some (r34, v_now, w35, w36, v_answer, v_mixed, v_conflicts, v_firstConflict))))))))))))
set_option maxHeartbeats 4000000 in
set_option maxRecDepth 100000 in
theorem c9_picks (l : Launch) (E : PE) (a : Nat → Nat)  (x1 : Int32) (x2 : Int32) (x3 : Int32) (v_now : AI) (v_tried : AI) (v_kept : AI) (v_undos : Int32) (v_saved : AI) (v_isSaved : Int32) (v_line : AI) (v_lined : Int32) (v_text : AI) (v_length : Int32) (v_at : Int32) (v_order : Int32) (v_told : AI) (v_error : Int32) (v_reason : Int32) (v_detail : Int32) (v_answer : Int32) (v_thrown : Int32) (v_mixed : AI) (v_conflicts : Int32) (v_firstConflict : Int32) (r : Int32) (z_this_now : AI) (z_this_reason : Int32) (z_this_detail : Int32) (z_this_answer : Int32) (z_this_mixed : AI) (z_this_conflicts : Int32) (z_this_firstConflict : Int32) (h : f9_picks x1 x2 x3 v_now v_reason v_detail v_answer v_mixed v_conflicts v_firstConflict = some (r, z_this_now, z_this_reason, z_this_detail, z_this_answer, z_this_mixed, z_this_conflicts, z_this_firstConflict)) : MW l yX9_picks cX9_picks 4 (some .int) { frames := 4, cells := 0, slots := 0, locals := 93 } E [.ref (a 0), .int x1, .int x2, .int x3] ([gX9 E a v_now v_tried v_kept v_undos v_saved v_isSaved v_line v_lined v_text v_length v_at v_order v_told v_error v_reason v_detail v_answer v_thrown v_mixed v_conflicts v_firstConflict] : List va_W).flatten 0 0 (some (.int r)) ([gX9 E a z_this_now v_tried v_kept v_undos v_saved v_isSaved v_line v_lined v_text v_length v_at v_order v_told v_error z_this_reason z_this_detail z_this_answer v_thrown z_this_mixed z_this_conflicts z_this_firstConflict] : List va_W).flatten := by
  refine px_startW (by decide +kernel) (Nat.le_of_ble_eq_true rfl) ?_
  intro p e s m args below meth c R Q A ls hC hA0 hQ
  obtain ⟨hx, hb, hr, hml, hts, hown, hlocks, hR, hK, hN, hP, hD, hA, hl, hin⟩ := hC
  have hl : lv_has ls 4 [(0, .ref (a 0)), (1, .int x1), (2, .int x2), (3, .int x3)] := hl
  suffices key : ∀ (H : Heap) (locs : List Loc), va_P E.1 vwCl ([gX9 E a v_now v_tried v_kept v_undos v_saved v_isSaved v_line v_lined v_text v_length v_at v_order v_told v_error v_reason v_detail v_answer v_thrown v_mixed v_conflicts v_firstConflict] : List va_W).flatten H → va_S A s.heap H locs → W p l e R s m args below meth c H locs 0 0 Q (F0 m 0 ls []) from key s.heap [] hP va_S.rf
  unfold f9_picks at h
  intro H locs hP hS
  refine lv_aload_n hx hb dX9_picks_0 rfl (lv_at hl 0 rfl) ?_
  refine lv_iload_n hx hb dX9_picks_1 rfl (lv_at hl 1 rfl) ?_
  obtain ⟨r1, hr2, h⟩ := ob h
  refine px_Vp (As := [.int x1]) (rest := []) (gs := ([gX9 E a v_now v_tried v_kept v_undos v_saved v_isSaved v_line v_lined v_text v_length v_at v_order v_told v_error v_reason v_detail v_answer v_thrown v_mixed v_conflicts v_firstConflict] : List va_W)) (gc := ([gX9 E a v_now v_tried v_kept v_undos v_saved v_isSaved v_line v_lined v_text v_length v_at v_order v_told v_error v_reason v_detail v_answer v_thrown v_mixed v_conflicts v_firstConflict] : List va_W)) ⟨hx, hb, hml, hown, hts⟩ (c9_isBranch l E a  (x1) (v_now) (v_tried) (v_kept) (v_undos) (v_saved) (v_isSaved) (v_line) (v_lined) (v_text) (v_length) (v_at) (v_order) (v_told) (v_error) (v_reason) (v_detail) (v_answer) (v_thrown) (v_mixed) (v_conflicts) (v_firstConflict) r1 hr2) (cwV 1 hts (ws_v q1278 q1280 q19 q68 q1281) rfl rfl rfl hdV_X9_isBranch (by rw [hR]; exact ⟨Nat.le_of_ble_eq_true rfl, Nat.le_of_ble_eq_true rfl⟩)) hK hN hP hD [0] rfl (by decide) 0 9 rfl rfl rfl rfl hl.1 rfl (Nat.le_of_ble_eq_true rfl) dX9_picks_2 (by rw [hR]; exact ⟨Nat.le_of_ble_eq_true rfl, Nat.le_of_ble_eq_true rfl⟩) ?_
  refine W.eq (g2 := F0 m 5 ls [.int (b2i r1)]) rfl ?_
  refine lv_if_eq (tgt := 16) hx hb dX9_picks_5 (by decide) (fun c3 => ?_) (fun c3 => ?_)
  · rw [if_pos c3] at h
    refine lv_iconst (v := (nI 1)) hx hb dX9_picks_16 (by decide) ?_
    cases h
    exact px_eWi hA0 hQ hP hD hS hx hb hr hlocks dX9_picks_17
  · rw [if_neg c3] at h
    refine lv_aload_n hx hb dX9_picks_8 rfl (lv_at hl 0 rfl) ?_
    refine lv_iload_n hx hb dX9_picks_9 rfl (lv_at hl 2 rfl) ?_
    obtain ⟨r4, hr5, h⟩ := ob h
    refine px_Vp (As := [.int x2]) (rest := []) (gs := ([gX9 E a v_now v_tried v_kept v_undos v_saved v_isSaved v_line v_lined v_text v_length v_at v_order v_told v_error v_reason v_detail v_answer v_thrown v_mixed v_conflicts v_firstConflict] : List va_W)) (gc := ([gX9 E a v_now v_tried v_kept v_undos v_saved v_isSaved v_line v_lined v_text v_length v_at v_order v_told v_error v_reason v_detail v_answer v_thrown v_mixed v_conflicts v_firstConflict] : List va_W)) ⟨hx, hb, hml, hown, hts⟩ (c9_isCommit l E a  (x2) (v_now) (v_tried) (v_kept) (v_undos) (v_saved) (v_isSaved) (v_line) (v_lined) (v_text) (v_length) (v_at) (v_order) (v_told) (v_error) (v_reason) (v_detail) (v_answer) (v_thrown) (v_mixed) (v_conflicts) (v_firstConflict) r4 hr5) (cwV 1 hts (ws_v q1344 q1346 q32 q68 q1347) rfl rfl rfl hdV_X9_isCommit (by rw [hR]; exact ⟨Nat.le_of_ble_eq_true rfl, Nat.le_of_ble_eq_true rfl⟩)) hK hN hP hD [0] rfl (by decide) 0 9 rfl rfl rfl rfl hl.1 rfl (Nat.le_of_ble_eq_true rfl) dX9_picks_10 (by rw [hR]; exact ⟨Nat.le_of_ble_eq_true rfl, Nat.le_of_ble_eq_true rfl⟩) ?_
    refine W.eq (g2 := F0 m 13 ls [.int (b2i r4)]) rfl ?_
    refine lv_if_ne (tgt := 18) hx hb dX9_picks_13 (by decide) (fun c6 => ?_) (fun c6 => ?_)
    · rw [if_neg c6] at h
      refine lv_iload_n hx hb dX9_picks_18 rfl (lv_at hl 3 rfl) ?_
      refine lv_iconst (v := (nI 0)) hx hb dX9_picks_19 (by decide) ?_
      refine lv_iconst (v := (nI 3)) hx hb dX9_picks_20 (by decide) ?_
      obtain ⟨r7, hr8, h⟩ := ob h
      refine px_Sp (As := [.int x3, .int (nI 0), .int (nI 3)]) (rest := []) (gs := ([gX9 E a v_now v_tried v_kept v_undos v_saved v_isSaved v_line v_lined v_text v_length v_at v_order v_told v_error v_reason v_detail v_answer v_thrown v_mixed v_conflicts v_firstConflict] : List va_W)) (gc := ([] : List va_W)) ⟨hx, hb, hml, hown, hts⟩ (c9_in l E   (x3) ((nI 0)) ((nI 3))  r7 hr8) (va_cwS 3 hts (ws_s q1282 q1283 q68 q1284) rfl rfl rfl hdS_X9_in (by rw [hR]; exact ⟨Nat.le_of_ble_eq_true rfl, Nat.le_of_ble_eq_true rfl⟩)) hK hN hP hD [] rfl (by decide) rfl hl.1 rfl (Nat.le_of_ble_eq_true rfl) dX9_picks_21 (by rw [hR]; exact ⟨Nat.le_of_ble_eq_true rfl, Nat.le_of_ble_eq_true rfl⟩) ?_
      refine W.eq (g2 := F0 m 24 ls [.int (b2i r7)]) rfl ?_
      refine lv_if_ne (tgt := 29) hx hb dX9_picks_24 (by decide) (fun c9 => ?_) (fun c9 => ?_)
      · rw [if_neg c9] at h
        refine lv_aload_n hx hb dX9_picks_29 rfl (lv_at hl 0 rfl) ?_
        refine lv_iload_n hx hb dX9_picks_30 rfl (lv_at hl 2 rfl) ?_
        refine lv_aload_n hx hb dX9_picks_31 rfl (lv_at hl 0 rfl) ?_
        refine lv_iload_n hx hb dX9_picks_32 rfl (lv_at hl 1 rfl) ?_
        obtain ⟨r10, hr11, h⟩ := ob h
        refine px_Vp (As := [.int x1]) (rest := [.int x2, .ref (a 0)]) (gs := ([gX9 E a v_now v_tried v_kept v_undos v_saved v_isSaved v_line v_lined v_text v_length v_at v_order v_told v_error v_reason v_detail v_answer v_thrown v_mixed v_conflicts v_firstConflict] : List va_W)) (gc := ([gX9 E a v_now v_tried v_kept v_undos v_saved v_isSaved v_line v_lined v_text v_length v_at v_order v_told v_error v_reason v_detail v_answer v_thrown v_mixed v_conflicts v_firstConflict] : List va_W)) ⟨hx, hb, hml, hown, hts⟩ (c9_top l E a  (x1) (v_now) (v_tried) (v_kept) (v_undos) (v_saved) (v_isSaved) (v_line) (v_lined) (v_text) (v_length) (v_at) (v_order) (v_told) (v_error) (v_reason) (v_detail) (v_answer) (v_thrown) (v_mixed) (v_conflicts) (v_firstConflict) r10 hr11) (cwV 1 hts (ws_v q1288 q1290 q20 q68 q1291) rfl rfl rfl hdV_X9_top (by rw [hR]; exact ⟨Nat.le_of_ble_eq_true rfl, Nat.le_of_ble_eq_true rfl⟩)) hK hN hP hD [0] rfl (by decide) 0 9 rfl rfl rfl rfl hl.1 rfl (Nat.le_of_ble_eq_true rfl) dX9_picks_33 (by rw [hR]; exact ⟨Nat.le_of_ble_eq_true rfl, Nat.le_of_ble_eq_true rfl⟩) ?_
        refine W.eq (g2 := F0 m 36 ls [.int r10, .int x2, .ref (a 0)]) rfl ?_
        obtain ⟨r12, hr13, h⟩ := ob h
        refine px_Vp (As := [.int x2, .int r10]) (rest := []) (gs := ([gX9 E a v_now v_tried v_kept v_undos v_saved v_isSaved v_line v_lined v_text v_length v_at v_order v_told v_error v_reason v_detail v_answer v_thrown v_mixed v_conflicts v_firstConflict] : List va_W)) (gc := ([gX9 E a v_now v_tried v_kept v_undos v_saved v_isSaved v_line v_lined v_text v_length v_at v_order v_told v_error v_reason v_detail v_answer v_thrown v_mixed v_conflicts v_firstConflict] : List va_W)) ⟨hx, hb, hml, hown, hts⟩ (c9_isWithin l E a  (x2) (r10) (v_now) (v_tried) (v_kept) (v_undos) (v_saved) (v_isSaved) (v_line) (v_lined) (v_text) (v_length) (v_at) (v_order) (v_told) (v_error) (v_reason) (v_detail) (v_answer) (v_thrown) (v_mixed) (v_conflicts) (v_firstConflict) r12 hr13) (cwV 2 hts (ws_v q1382 q1384 q37 q68 q1385) rfl rfl rfl hdV_X9_isWithin (by rw [hR]; exact ⟨Nat.le_of_ble_eq_true rfl, Nat.le_of_ble_eq_true rfl⟩)) hK hN hP hD [0] rfl (by decide) 0 9 rfl rfl rfl rfl hl.1 rfl (Nat.le_of_ble_eq_true rfl) dX9_picks_36 (by rw [hR]; exact ⟨Nat.le_of_ble_eq_true rfl, Nat.le_of_ble_eq_true rfl⟩) ?_
        refine W.eq (g2 := F0 m 39 ls [.int (b2i r12)]) rfl ?_
        refine lv_if_eq (tgt := 49) hx hb dX9_picks_39 (by decide) (fun c14 => ?_) (fun c14 => ?_)
        · rw [if_pos c14] at h
          refine lv_iload_n hx hb dX9_picks_49 rfl (lv_at hl 2 rfl) ?_
          refine lv_if_ne (tgt := 61) hx hb dX9_picks_50 (by decide) (fun c15 => ?_) (fun c15 => ?_)
          · rw [if_neg c15] at h
            refine lv_aload_n hx hb dX9_picks_61 rfl (lv_at hl 0 rfl) ?_
            refine lv_aload_n hx hb dX9_picks_62 rfl (lv_at hl 0 rfl) ?_
            refine lv_iload_n hx hb dX9_picks_63 rfl (lv_at hl 1 rfl) ?_
            obtain ⟨r16, hr17, h⟩ := ob h
            refine px_Vp (As := [.int x1]) (rest := [.ref (a 0)]) (gs := ([gX9 E a v_now v_tried v_kept v_undos v_saved v_isSaved v_line v_lined v_text v_length v_at v_order v_told v_error v_reason v_detail v_answer v_thrown v_mixed v_conflicts v_firstConflict] : List va_W)) (gc := ([gX9 E a v_now v_tried v_kept v_undos v_saved v_isSaved v_line v_lined v_text v_length v_at v_order v_told v_error v_reason v_detail v_answer v_thrown v_mixed v_conflicts v_firstConflict] : List va_W)) ⟨hx, hb, hml, hown, hts⟩ (c9_top l E a  (x1) (v_now) (v_tried) (v_kept) (v_undos) (v_saved) (v_isSaved) (v_line) (v_lined) (v_text) (v_length) (v_at) (v_order) (v_told) (v_error) (v_reason) (v_detail) (v_answer) (v_thrown) (v_mixed) (v_conflicts) (v_firstConflict) r16 hr17) (cwV 1 hts (ws_v q1288 q1290 q20 q68 q1291) rfl rfl rfl hdV_X9_top (by rw [hR]; exact ⟨Nat.le_of_ble_eq_true rfl, Nat.le_of_ble_eq_true rfl⟩)) hK hN hP hD [0] rfl (by decide) 0 9 rfl rfl rfl rfl hl.1 rfl (Nat.le_of_ble_eq_true rfl) dX9_picks_64 (by rw [hR]; exact ⟨Nat.le_of_ble_eq_true rfl, Nat.le_of_ble_eq_true rfl⟩) ?_
            refine W.eq (g2 := F0 m 67 ls [.int r16, .ref (a 0)]) rfl ?_
            refine lv_iload_n hx hb dX9_picks_67 rfl (lv_at hl 2 rfl) ?_
            refine lv_aload_n hx hb dX9_picks_68 rfl (lv_at hl 0 rfl) ?_
            refine lv_iload_n hx hb dX9_picks_69 rfl (lv_at hl 2 rfl) ?_
            refine lv_iconst (v := (nI 1)) hx hb dX9_picks_70 (by decide) ?_
            obtain ⟨r18, hr19, h⟩ := ob h
            refine px_Vp (As := [.int x2, .int (nI 1)]) (rest := [.int x2, .int r16, .ref (a 0)]) (gs := ([gX9 E a v_now v_tried v_kept v_undos v_saved v_isSaved v_line v_lined v_text v_length v_at v_order v_told v_error v_reason v_detail v_answer v_thrown v_mixed v_conflicts v_firstConflict] : List va_W)) (gc := ([gX9 E a v_now v_tried v_kept v_undos v_saved v_isSaved v_line v_lined v_text v_length v_at v_order v_told v_error v_reason v_detail v_answer v_thrown v_mixed v_conflicts v_firstConflict] : List va_W)) ⟨hx, hb, hml, hown, hts⟩ (c9_of l E a  (x2) ((nI 1)) (v_now) (v_tried) (v_kept) (v_undos) (v_saved) (v_isSaved) (v_line) (v_lined) (v_text) (v_length) (v_at) (v_order) (v_told) (v_error) (v_reason) (v_detail) (v_answer) (v_thrown) (v_mixed) (v_conflicts) (v_firstConflict) r18 hr19) (cwV 2 hts (ws_v q1296 q1298 q22 q68 q1299) rfl rfl rfl hdV_X9_of (by rw [hR]; exact ⟨Nat.le_of_ble_eq_true rfl, Nat.le_of_ble_eq_true rfl⟩)) hK hN hP hD [0] rfl (by decide) 0 9 rfl rfl rfl rfl hl.1 rfl (Nat.le_of_ble_eq_true rfl) dX9_picks_71 (by rw [hR]; exact ⟨Nat.le_of_ble_eq_true rfl, Nat.le_of_ble_eq_true rfl⟩) ?_
            refine W.eq (g2 := F0 m 74 ls [.int r18, .int x2, .int r16, .ref (a 0)]) rfl ?_
            refine lv_iload_n hx hb dX9_picks_74 rfl (lv_at hl 3 rfl) ?_
            obtain ⟨⟨w20, w21, w22⟩, hr23, h⟩ := ob h
            dsimp only at h
            refine px_V (As := [.int r16, .int x2, .int r18, .int x3]) (rest := []) (gs := ([gX9 E a v_now v_tried v_kept v_undos v_saved v_isSaved v_line v_lined v_text v_length v_at v_order v_told v_error v_reason v_detail v_answer v_thrown v_mixed v_conflicts v_firstConflict] : List va_W)) (gr := ([] : List va_W)) (gc := ([gX9 E a v_now v_tried v_kept v_undos v_saved v_isSaved v_line v_lined v_text v_length v_at v_order v_told v_error v_reason v_detail v_answer v_thrown v_mixed v_conflicts v_firstConflict] : List va_W)) (g1 := ([gX9 E a v_now v_tried v_kept v_undos v_saved v_isSaved v_line v_lined v_text v_length v_at v_order v_told v_error v_reason v_detail v_answer v_thrown w20 w21 w22] : List va_W)) (g2 := ([gX9 E a v_now v_tried v_kept v_undos v_saved v_isSaved v_line v_lined v_text v_length v_at v_order v_told v_error v_reason v_detail v_answer v_thrown w20 w21 w22] : List va_W)) ⟨hx, hb, hml, hown, hts⟩ (c9_mixes l E a  (r16) (x2) (r18) (x3) (v_now) (v_tried) (v_kept) (v_undos) (v_saved) (v_isSaved) (v_line) (v_lined) (v_text) (v_length) (v_at) (v_order) (v_told) (v_error) (v_reason) (v_detail) (v_answer) (v_thrown) (v_mixed) (v_conflicts) (v_firstConflict) w20 w21 w22 hr23) (cwV 4 hts (ws_v q1390 q1392 q39 q68 q1393) rfl rfl rfl hdV_X9_mixes (by rw [hR]; exact ⟨Nat.le_of_ble_eq_true rfl, Nat.le_of_ble_eq_true rfl⟩)) hK hN hP hD hS hA [] [0] [0] rfl rfl (by decide) (by decide) rfl (by decide) 0 9 rfl rfl rfl rfl hl.1 rfl (Nat.le_of_ble_eq_true rfl) dX9_picks_75 (by rw [hR]; exact ⟨Nat.le_of_ble_eq_true rfl, Nat.le_of_ble_eq_true rfl⟩) (fun H locs hP hD hS => ?_)
            refine W.eq (g2 := F0 m 78 ls []) rfl ?_
            refine lv_aload_n hx hb dX9_picks_78 rfl (lv_at hl 0 rfl) ?_
            refine lv_iload_n hx hb dX9_picks_79 rfl (lv_at hl 1 rfl) ?_
            refine lv_iload_n hx hb dX9_picks_80 rfl (lv_at hl 3 rfl) ?_
            obtain ⟨⟨r24, w25, w26, w27, w28⟩, hr29, h⟩ := ob h
            dsimp only at h
            refine px_V (As := [.int x1, .int x3]) (rest := []) (gs := ([gX9 E a v_now v_tried v_kept v_undos v_saved v_isSaved v_line v_lined v_text v_length v_at v_order v_told v_error v_reason v_detail v_answer v_thrown w20 w21 w22] : List va_W)) (gr := ([] : List va_W)) (gc := ([gX9 E a v_now v_tried v_kept v_undos v_saved v_isSaved v_line v_lined v_text v_length v_at v_order v_told v_error v_reason v_detail v_answer v_thrown w20 w21 w22] : List va_W)) (g1 := ([gX9 E a w25 v_tried v_kept v_undos v_saved v_isSaved v_line v_lined v_text v_length v_at v_order v_told v_error w26 w27 w28 v_thrown w20 w21 w22] : List va_W)) (g2 := ([gX9 E a w25 v_tried v_kept v_undos v_saved v_isSaved v_line v_lined v_text v_length v_at v_order v_told v_error w26 w27 w28 v_thrown w20 w21 w22] : List va_W)) ⟨hx, hb, hml, hown, hts⟩ (c9_picked l E a  (x1) (x3) (v_now) (v_tried) (v_kept) (v_undos) (v_saved) (v_isSaved) (v_line) (v_lined) (v_text) (v_length) (v_at) (v_order) (v_told) (v_error) (v_reason) (v_detail) (v_answer) (v_thrown) (w20) (w21) (w22) r24 w25 w26 w27 w28 hr29) (cwV 2 hts (ws_v q1406 q1408 q42 q68 q1409) rfl rfl rfl hdV_X9_picked (by rw [hR]; exact ⟨Nat.le_of_ble_eq_true rfl, Nat.le_of_ble_eq_true rfl⟩)) hK hN hP hD hS hA [] [0] [0] rfl rfl (by decide) (by decide) rfl (by decide) 0 9 rfl rfl rfl rfl hl.1 rfl (Nat.le_of_ble_eq_true rfl) dX9_picks_81 (by rw [hR]; exact ⟨Nat.le_of_ble_eq_true rfl, Nat.le_of_ble_eq_true rfl⟩) (fun H locs hP hD hS => ?_)
            refine W.eq (g2 := F0 m 84 ls [.int r24]) rfl ?_
            cases h
            exact px_eWi hA0 hQ hP hD hS hx hb hr hlocks dX9_picks_84
          · rw [if_pos c15] at h
            refine lv_aload_n hx hb dX9_picks_53 rfl (lv_at hl 0 rfl) ?_
            refine lv_bipush (v := (nI 6)) hx hb dX9_picks_54 (by decide) ?_
            refine lv_iconst (v := (nI 0)) hx hb dX9_picks_56 (by decide) ?_
            obtain ⟨⟨r30, w31, w32⟩, hr33, h⟩ := ob h
            dsimp only at h
            refine px_V (As := [.int (nI 6), .int (nI 0)]) (rest := []) (gs := ([gX9 E a v_now v_tried v_kept v_undos v_saved v_isSaved v_line v_lined v_text v_length v_at v_order v_told v_error v_reason v_detail v_answer v_thrown v_mixed v_conflicts v_firstConflict] : List va_W)) (gr := ([] : List va_W)) (gc := ([gX9 E a v_now v_tried v_kept v_undos v_saved v_isSaved v_line v_lined v_text v_length v_at v_order v_told v_error v_reason v_detail v_answer v_thrown v_mixed v_conflicts v_firstConflict] : List va_W)) (g1 := ([gX9 E a v_now v_tried v_kept v_undos v_saved v_isSaved v_line v_lined v_text v_length v_at v_order v_told v_error w31 w32 v_answer v_thrown v_mixed v_conflicts v_firstConflict] : List va_W)) (g2 := ([gX9 E a v_now v_tried v_kept v_undos v_saved v_isSaved v_line v_lined v_text v_length v_at v_order v_told v_error w31 w32 v_answer v_thrown v_mixed v_conflicts v_firstConflict] : List va_W)) ⟨hx, hb, hml, hown, hts⟩ (c9_refuses l E a  ((nI 6)) ((nI 0)) (v_now) (v_tried) (v_kept) (v_undos) (v_saved) (v_isSaved) (v_line) (v_lined) (v_text) (v_length) (v_at) (v_order) (v_told) (v_error) (v_reason) (v_detail) (v_answer) (v_thrown) (v_mixed) (v_conflicts) (v_firstConflict) r30 w31 w32 hr33) (cwV 2 hts (ws_v q1300 q1302 q23 q68 q1303) rfl rfl rfl hdV_X9_refuses (by rw [hR]; exact ⟨Nat.le_of_ble_eq_true rfl, Nat.le_of_ble_eq_true rfl⟩)) hK hN hP hD hS hA [] [0] [0] rfl rfl (by decide) (by decide) rfl (by decide) 0 9 rfl rfl rfl rfl hl.1 rfl (Nat.le_of_ble_eq_true rfl) dX9_picks_57 (by rw [hR]; exact ⟨Nat.le_of_ble_eq_true rfl, Nat.le_of_ble_eq_true rfl⟩) (fun H locs hP hD hS => ?_)
            refine W.eq (g2 := F0 m 60 ls [.int r30]) rfl ?_
            cases h
            exact px_eWi hA0 hQ hP hD hS hx hb hr hlocks dX9_picks_60
        · rw [if_neg c14] at h
          refine lv_aload_n hx hb dX9_picks_42 rfl (lv_at hl 0 rfl) ?_
          refine lv_iconst (v := (nI 4)) hx hb dX9_picks_43 (by decide) ?_
          refine lv_iload_n hx hb dX9_picks_44 rfl (lv_at hl 2 rfl) ?_
          obtain ⟨⟨r34, w35, w36⟩, hr37, h⟩ := ob h
          dsimp only at h
          refine px_V (As := [.int (nI 4), .int x2]) (rest := []) (gs := ([gX9 E a v_now v_tried v_kept v_undos v_saved v_isSaved v_line v_lined v_text v_length v_at v_order v_told v_error v_reason v_detail v_answer v_thrown v_mixed v_conflicts v_firstConflict] : List va_W)) (gr := ([] : List va_W)) (gc := ([gX9 E a v_now v_tried v_kept v_undos v_saved v_isSaved v_line v_lined v_text v_length v_at v_order v_told v_error v_reason v_detail v_answer v_thrown v_mixed v_conflicts v_firstConflict] : List va_W)) (g1 := ([gX9 E a v_now v_tried v_kept v_undos v_saved v_isSaved v_line v_lined v_text v_length v_at v_order v_told v_error w35 w36 v_answer v_thrown v_mixed v_conflicts v_firstConflict] : List va_W)) (g2 := ([gX9 E a v_now v_tried v_kept v_undos v_saved v_isSaved v_line v_lined v_text v_length v_at v_order v_told v_error w35 w36 v_answer v_thrown v_mixed v_conflicts v_firstConflict] : List va_W)) ⟨hx, hb, hml, hown, hts⟩ (c9_refuses l E a  ((nI 4)) (x2) (v_now) (v_tried) (v_kept) (v_undos) (v_saved) (v_isSaved) (v_line) (v_lined) (v_text) (v_length) (v_at) (v_order) (v_told) (v_error) (v_reason) (v_detail) (v_answer) (v_thrown) (v_mixed) (v_conflicts) (v_firstConflict) r34 w35 w36 hr37) (cwV 2 hts (ws_v q1300 q1302 q23 q68 q1303) rfl rfl rfl hdV_X9_refuses (by rw [hR]; exact ⟨Nat.le_of_ble_eq_true rfl, Nat.le_of_ble_eq_true rfl⟩)) hK hN hP hD hS hA [] [0] [0] rfl rfl (by decide) (by decide) rfl (by decide) 0 9 rfl rfl rfl rfl hl.1 rfl (Nat.le_of_ble_eq_true rfl) dX9_picks_45 (by rw [hR]; exact ⟨Nat.le_of_ble_eq_true rfl, Nat.le_of_ble_eq_true rfl⟩) (fun H locs hP hD hS => ?_)
          refine W.eq (g2 := F0 m 48 ls [.int r34]) rfl ?_
          cases h
          exact px_eWi hA0 hQ hP hD hS hx hb hr hlocks dX9_picks_48
      · rw [if_pos c9] at h
        refine lv_iconst (v := (nI 2)) hx hb dX9_picks_27 (by decide) ?_
        cases h
        exact px_eWi hA0 hQ hP hD hS hx hb hr hlocks dX9_picks_28
    · rw [if_pos c6] at h
      refine lv_iconst (v := (nI 1)) hx hb dX9_picks_16 (by decide) ?_
      cases h
      exact px_eWi hA0 hQ hP hD hS hx hb hr hlocks dX9_picks_17
def f9_pick (x1 : Int32) (x2 : Int32) (x3 : Int32) (v_now : AI) (v_tried : AI) (v_kept : AI) (v_undos : Int32) (v_reason : Int32) (v_detail : Int32) (v_answer : Int32) (v_thrown : Int32) (v_mixed : AI) (v_conflicts : Int32) (v_firstConflict : Int32) : Option (Int32 × AI × AI × AI × Int32 × Int32 × Int32 × Int32 × Int32 × AI × Int32 × Int32) := ((f9_tries (v_now) (v_tried) (v_thrown)).bind fun (w1, w2) => ((f9_picks (x1) (x2) (x3) (v_now) (v_reason) (v_detail) (v_answer) (v_mixed) (v_conflicts) (v_firstConflict)).bind fun (r4, w5, w6, w7, w8, w9, w10, w11) => ((f9_ends (r4) (w1) (v_kept) (v_undos) (w8) (w2)).bind fun (r13, w14, w15, w16) => (some (r13, w5, w1, w14, w15, w6, w7, w8, w16, w9, w10, w11)))))
set_option maxHeartbeats 4000000 in
set_option maxRecDepth 100000 in
theorem c9_pick (l : Launch) (E : PE) (a : Nat → Nat)  (x1 : Int32) (x2 : Int32) (x3 : Int32) (v_now : AI) (v_tried : AI) (v_kept : AI) (v_undos : Int32) (v_saved : AI) (v_isSaved : Int32) (v_line : AI) (v_lined : Int32) (v_text : AI) (v_length : Int32) (v_at : Int32) (v_order : Int32) (v_told : AI) (v_error : Int32) (v_reason : Int32) (v_detail : Int32) (v_answer : Int32) (v_thrown : Int32) (v_mixed : AI) (v_conflicts : Int32) (v_firstConflict : Int32) (r : Int32) (z_this_now : AI) (z_this_tried : AI) (z_this_kept : AI) (z_this_undos : Int32) (z_this_reason : Int32) (z_this_detail : Int32) (z_this_answer : Int32) (z_this_thrown : Int32) (z_this_mixed : AI) (z_this_conflicts : Int32) (z_this_firstConflict : Int32) (h : f9_pick x1 x2 x3 v_now v_tried v_kept v_undos v_reason v_detail v_answer v_thrown v_mixed v_conflicts v_firstConflict = some (r, z_this_now, z_this_tried, z_this_kept, z_this_undos, z_this_reason, z_this_detail, z_this_answer, z_this_thrown, z_this_mixed, z_this_conflicts, z_this_firstConflict)) : MW l yX9_pick cX9_pick 4 (some .int) { frames := 5, cells := 0, slots := 0, locals := 116 } E [.ref (a 0), .int x1, .int x2, .int x3] ([gX9 E a v_now v_tried v_kept v_undos v_saved v_isSaved v_line v_lined v_text v_length v_at v_order v_told v_error v_reason v_detail v_answer v_thrown v_mixed v_conflicts v_firstConflict] : List va_W).flatten 0 0 (some (.int r)) ([gX9 E a z_this_now z_this_tried z_this_kept z_this_undos v_saved v_isSaved v_line v_lined v_text v_length v_at v_order v_told v_error z_this_reason z_this_detail z_this_answer z_this_thrown z_this_mixed z_this_conflicts z_this_firstConflict] : List va_W).flatten := by
  refine px_startW (by decide +kernel) (Nat.le_of_ble_eq_true rfl) ?_
  intro p e s m args below meth c R Q A ls hC hA0 hQ
  obtain ⟨hx, hb, hr, hml, hts, hown, hlocks, hR, hK, hN, hP, hD, hA, hl, hin⟩ := hC
  have hl : lv_has ls 4 [(0, .ref (a 0)), (1, .int x1), (2, .int x2), (3, .int x3)] := hl
  suffices key : ∀ (H : Heap) (locs : List Loc), va_P E.1 vwCl ([gX9 E a v_now v_tried v_kept v_undos v_saved v_isSaved v_line v_lined v_text v_length v_at v_order v_told v_error v_reason v_detail v_answer v_thrown v_mixed v_conflicts v_firstConflict] : List va_W).flatten H → va_S A s.heap H locs → W p l e R s m args below meth c H locs 0 0 Q (F0 m 0 ls []) from key s.heap [] hP va_S.rf
  unfold f9_pick at h
  intro H locs hP hS
  refine lv_aload_n hx hb dX9_pick_0 rfl (lv_at hl 0 rfl) ?_
  obtain ⟨⟨w1, w2⟩, hr3, h⟩ := ob h
  dsimp only at h
  refine px_V (As := []) (rest := []) (gs := ([gX9 E a v_now v_tried v_kept v_undos v_saved v_isSaved v_line v_lined v_text v_length v_at v_order v_told v_error v_reason v_detail v_answer v_thrown v_mixed v_conflicts v_firstConflict] : List va_W)) (gr := ([] : List va_W)) (gc := ([gX9 E a v_now v_tried v_kept v_undos v_saved v_isSaved v_line v_lined v_text v_length v_at v_order v_told v_error v_reason v_detail v_answer v_thrown v_mixed v_conflicts v_firstConflict] : List va_W)) (g1 := ([gX9 E a v_now w1 v_kept v_undos v_saved v_isSaved v_line v_lined v_text v_length v_at v_order v_told v_error v_reason v_detail v_answer w2 v_mixed v_conflicts v_firstConflict] : List va_W)) (g2 := ([gX9 E a v_now w1 v_kept v_undos v_saved v_isSaved v_line v_lined v_text v_length v_at v_order v_told v_error v_reason v_detail v_answer w2 v_mixed v_conflicts v_firstConflict] : List va_W)) ⟨hx, hb, hml, hown, hts⟩ (c9_tries l E a   (v_now) (v_tried) (v_kept) (v_undos) (v_saved) (v_isSaved) (v_line) (v_lined) (v_text) (v_length) (v_at) (v_order) (v_told) (v_error) (v_reason) (v_detail) (v_answer) (v_thrown) (v_mixed) (v_conflicts) (v_firstConflict) w1 w2 hr3) (cwV 0 hts (ws_v q1270 q1272 q17 q68 q1273) rfl rfl rfl hdV_X9_tries (by rw [hR]; exact ⟨Nat.le_of_ble_eq_true rfl, Nat.le_of_ble_eq_true rfl⟩)) hK hN hP hD hS hA [] [0] [0] rfl rfl (by decide) (by decide) rfl (by decide) 0 9 rfl rfl rfl rfl hl.1 rfl (Nat.le_of_ble_eq_true rfl) dX9_pick_1 (by rw [hR]; exact ⟨Nat.le_of_ble_eq_true rfl, Nat.le_of_ble_eq_true rfl⟩) (fun H locs hP hD hS => ?_)
  refine W.eq (g2 := F0 m 4 ls []) rfl ?_
  refine lv_aload_n hx hb dX9_pick_4 rfl (lv_at hl 0 rfl) ?_
  refine lv_aload_n hx hb dX9_pick_5 rfl (lv_at hl 0 rfl) ?_
  refine lv_iload_n hx hb dX9_pick_6 rfl (lv_at hl 1 rfl) ?_
  refine lv_iload_n hx hb dX9_pick_7 rfl (lv_at hl 2 rfl) ?_
  refine lv_iload_n hx hb dX9_pick_8 rfl (lv_at hl 3 rfl) ?_
  obtain ⟨⟨r4, w5, w6, w7, w8, w9, w10, w11⟩, hr12, h⟩ := ob h
  dsimp only at h
  refine px_V (As := [.int x1, .int x2, .int x3]) (rest := [.ref (a 0)]) (gs := ([gX9 E a v_now w1 v_kept v_undos v_saved v_isSaved v_line v_lined v_text v_length v_at v_order v_told v_error v_reason v_detail v_answer w2 v_mixed v_conflicts v_firstConflict] : List va_W)) (gr := ([] : List va_W)) (gc := ([gX9 E a v_now w1 v_kept v_undos v_saved v_isSaved v_line v_lined v_text v_length v_at v_order v_told v_error v_reason v_detail v_answer w2 v_mixed v_conflicts v_firstConflict] : List va_W)) (g1 := ([gX9 E a w5 w1 v_kept v_undos v_saved v_isSaved v_line v_lined v_text v_length v_at v_order v_told v_error w6 w7 w8 w2 w9 w10 w11] : List va_W)) (g2 := ([gX9 E a w5 w1 v_kept v_undos v_saved v_isSaved v_line v_lined v_text v_length v_at v_order v_told v_error w6 w7 w8 w2 w9 w10 w11] : List va_W)) ⟨hx, hb, hml, hown, hts⟩ (c9_picks l E a  (x1) (x2) (x3) (v_now) (w1) (v_kept) (v_undos) (v_saved) (v_isSaved) (v_line) (v_lined) (v_text) (v_length) (v_at) (v_order) (v_told) (v_error) (v_reason) (v_detail) (v_answer) (w2) (v_mixed) (v_conflicts) (v_firstConflict) r4 w5 w6 w7 w8 w9 w10 w11 hr12) (cwV 3 hts (ws_v q1402 q1404 q41 q68 q1405) rfl rfl rfl hdV_X9_picks (by rw [hR]; exact ⟨Nat.le_of_ble_eq_true rfl, Nat.le_of_ble_eq_true rfl⟩)) hK hN hP hD hS hA [] [0] [0] rfl rfl (by decide) (by decide) rfl (by decide) 0 9 rfl rfl rfl rfl hl.1 rfl (Nat.le_of_ble_eq_true rfl) dX9_pick_9 (by rw [hR]; exact ⟨Nat.le_of_ble_eq_true rfl, Nat.le_of_ble_eq_true rfl⟩) (fun H locs hP hD hS => ?_)
  refine W.eq (g2 := F0 m 12 ls [.int r4, .ref (a 0)]) rfl ?_
  obtain ⟨⟨r13, w14, w15, w16⟩, hr17, h⟩ := ob h
  dsimp only at h
  refine px_V (As := [.int r4]) (rest := []) (gs := ([gX9 E a w5 w1 v_kept v_undos v_saved v_isSaved v_line v_lined v_text v_length v_at v_order v_told v_error w6 w7 w8 w2 w9 w10 w11] : List va_W)) (gr := ([] : List va_W)) (gc := ([gX9 E a w5 w1 v_kept v_undos v_saved v_isSaved v_line v_lined v_text v_length v_at v_order v_told v_error w6 w7 w8 w2 w9 w10 w11] : List va_W)) (g1 := ([gX9 E a w5 w1 w14 w15 v_saved v_isSaved v_line v_lined v_text v_length v_at v_order v_told v_error w6 w7 w8 w16 w9 w10 w11] : List va_W)) (g2 := ([gX9 E a w5 w1 w14 w15 v_saved v_isSaved v_line v_lined v_text v_length v_at v_order v_told v_error w6 w7 w8 w16 w9 w10 w11] : List va_W)) ⟨hx, hb, hml, hown, hts⟩ (c9_ends l E a  (r4) (w5) (w1) (v_kept) (v_undos) (v_saved) (v_isSaved) (v_line) (v_lined) (v_text) (v_length) (v_at) (v_order) (v_told) (v_error) (w6) (w7) (w8) (w2) (w9) (w10) (w11) r13 w14 w15 w16 hr17) (cwV 1 hts (ws_v q1312 q1314 q26 q68 q1315) rfl rfl rfl hdV_X9_ends (by rw [hR]; exact ⟨Nat.le_of_ble_eq_true rfl, Nat.le_of_ble_eq_true rfl⟩)) hK hN hP hD hS hA [] [0] [0] rfl rfl (by decide) (by decide) rfl (by decide) 0 9 rfl rfl rfl rfl hl.1 rfl (Nat.le_of_ble_eq_true rfl) dX9_pick_12 (by rw [hR]; exact ⟨Nat.le_of_ble_eq_true rfl, Nat.le_of_ble_eq_true rfl⟩) (fun H locs hP hD hS => ?_)
  refine W.eq (g2 := F0 m 15 ls [.int r13]) rfl ?_
  cases h
  exact px_eWi hA0 hQ hP hD hS hx hb hr hlocks dX9_pick_15
def f9_reverts (x1 : Int32) (x2 : Int32) (x3 : Int32) (v_now : AI) (v_reason : Int32) (v_detail : Int32) (v_answer : Int32) (v_mixed : AI) (v_conflicts : Int32) (v_firstConflict : Int32) : Option (Int32 × AI × Int32 × Int32 × Int32 × AI × Int32 × Int32) := ((f9_isBranch (x1) (v_now)).bind fun r1 => (if (b2i r1) = 0 then (some ((nI 1), v_now, v_reason, v_detail, v_answer, v_mixed, v_conflicts, v_firstConflict)) else ((f9_isCommit (x2) (v_now)).bind fun r4 => (if (b2i r4) = 0 then (some ((nI 1), v_now, v_reason, v_detail, v_answer, v_mixed, v_conflicts, v_firstConflict)) else ((f9_in (x3) ((nI 0)) ((nI 3))).bind fun r7 => (if (b2i r7) = 0 then (some ((nI 2), v_now, v_reason, v_detail, v_answer, v_mixed, v_conflicts, v_firstConflict)) else (if x2 = 0 then ((f9_refuses ((nI 6)) ((nI 0)) (v_reason) (v_detail)).bind fun (r34, w35, w36) => (some (r34, v_now, w35, w36, v_answer, v_mixed, v_conflicts, v_firstConflict))) else ((f9_top (x1) (v_now)).bind fun r11 => ((f9_isWithin (x2) (r11) (v_now)).bind fun r13 => (if (b2i r13) = 0 then ((f9_refuses ((nI 8)) (x2) (v_reason) (v_detail)).bind fun (r30, w31, w32) => (some (r30, v_now, w31, w32, v_answer, v_mixed, v_conflicts, v_firstConflict))) else ((f9_top (x1) (v_now)).bind fun r16 => ((f9_of (x2) ((nI 1)) (v_now)).bind fun r18 => ((f9_mixes (r16) (r18) (x2) (x3) (v_now) (v_mixed) (v_conflicts) (v_firstConflict)).bind fun (w20, w21, w22) => ((f9_picked (x1) (x3) (v_now) (v_reason) (v_detail) (v_answer) (w20) (w21) (w22)).bind fun (r24, w25, w26, w27, w28) => (some (r24, w25, w26, w27, w28, w20, w21, w22))))))))))))))))
set_option maxHeartbeats 4000000 in
set_option maxRecDepth 100000 in
theorem c9_reverts (l : Launch) (E : PE) (a : Nat → Nat)  (x1 : Int32) (x2 : Int32) (x3 : Int32) (v_now : AI) (v_tried : AI) (v_kept : AI) (v_undos : Int32) (v_saved : AI) (v_isSaved : Int32) (v_line : AI) (v_lined : Int32) (v_text : AI) (v_length : Int32) (v_at : Int32) (v_order : Int32) (v_told : AI) (v_error : Int32) (v_reason : Int32) (v_detail : Int32) (v_answer : Int32) (v_thrown : Int32) (v_mixed : AI) (v_conflicts : Int32) (v_firstConflict : Int32) (r : Int32) (z_this_now : AI) (z_this_reason : Int32) (z_this_detail : Int32) (z_this_answer : Int32) (z_this_mixed : AI) (z_this_conflicts : Int32) (z_this_firstConflict : Int32) (h : f9_reverts x1 x2 x3 v_now v_reason v_detail v_answer v_mixed v_conflicts v_firstConflict = some (r, z_this_now, z_this_reason, z_this_detail, z_this_answer, z_this_mixed, z_this_conflicts, z_this_firstConflict)) : MW l yX9_reverts cX9_reverts 4 (some .int) { frames := 4, cells := 0, slots := 0, locals := 93 } E [.ref (a 0), .int x1, .int x2, .int x3] ([gX9 E a v_now v_tried v_kept v_undos v_saved v_isSaved v_line v_lined v_text v_length v_at v_order v_told v_error v_reason v_detail v_answer v_thrown v_mixed v_conflicts v_firstConflict] : List va_W).flatten 0 0 (some (.int r)) ([gX9 E a z_this_now v_tried v_kept v_undos v_saved v_isSaved v_line v_lined v_text v_length v_at v_order v_told v_error z_this_reason z_this_detail z_this_answer v_thrown z_this_mixed z_this_conflicts z_this_firstConflict] : List va_W).flatten := by
  refine px_startW (by decide +kernel) (Nat.le_of_ble_eq_true rfl) ?_
  intro p e s m args below meth c R Q A ls hC hA0 hQ
  obtain ⟨hx, hb, hr, hml, hts, hown, hlocks, hR, hK, hN, hP, hD, hA, hl, hin⟩ := hC
  have hl : lv_has ls 4 [(0, .ref (a 0)), (1, .int x1), (2, .int x2), (3, .int x3)] := hl
  suffices key : ∀ (H : Heap) (locs : List Loc), va_P E.1 vwCl ([gX9 E a v_now v_tried v_kept v_undos v_saved v_isSaved v_line v_lined v_text v_length v_at v_order v_told v_error v_reason v_detail v_answer v_thrown v_mixed v_conflicts v_firstConflict] : List va_W).flatten H → va_S A s.heap H locs → W p l e R s m args below meth c H locs 0 0 Q (F0 m 0 ls []) from key s.heap [] hP va_S.rf
  unfold f9_reverts at h
  intro H locs hP hS
  refine lv_aload_n hx hb dX9_reverts_0 rfl (lv_at hl 0 rfl) ?_
  refine lv_iload_n hx hb dX9_reverts_1 rfl (lv_at hl 1 rfl) ?_
  obtain ⟨r1, hr2, h⟩ := ob h
  refine px_Vp (As := [.int x1]) (rest := []) (gs := ([gX9 E a v_now v_tried v_kept v_undos v_saved v_isSaved v_line v_lined v_text v_length v_at v_order v_told v_error v_reason v_detail v_answer v_thrown v_mixed v_conflicts v_firstConflict] : List va_W)) (gc := ([gX9 E a v_now v_tried v_kept v_undos v_saved v_isSaved v_line v_lined v_text v_length v_at v_order v_told v_error v_reason v_detail v_answer v_thrown v_mixed v_conflicts v_firstConflict] : List va_W)) ⟨hx, hb, hml, hown, hts⟩ (c9_isBranch l E a  (x1) (v_now) (v_tried) (v_kept) (v_undos) (v_saved) (v_isSaved) (v_line) (v_lined) (v_text) (v_length) (v_at) (v_order) (v_told) (v_error) (v_reason) (v_detail) (v_answer) (v_thrown) (v_mixed) (v_conflicts) (v_firstConflict) r1 hr2) (cwV 1 hts (ws_v q1278 q1280 q19 q68 q1281) rfl rfl rfl hdV_X9_isBranch (by rw [hR]; exact ⟨Nat.le_of_ble_eq_true rfl, Nat.le_of_ble_eq_true rfl⟩)) hK hN hP hD [0] rfl (by decide) 0 9 rfl rfl rfl rfl hl.1 rfl (Nat.le_of_ble_eq_true rfl) dX9_reverts_2 (by rw [hR]; exact ⟨Nat.le_of_ble_eq_true rfl, Nat.le_of_ble_eq_true rfl⟩) ?_
  refine W.eq (g2 := F0 m 5 ls [.int (b2i r1)]) rfl ?_
  refine lv_if_eq (tgt := 16) hx hb dX9_reverts_5 (by decide) (fun c3 => ?_) (fun c3 => ?_)
  · rw [if_pos c3] at h
    refine lv_iconst (v := (nI 1)) hx hb dX9_reverts_16 (by decide) ?_
    cases h
    exact px_eWi hA0 hQ hP hD hS hx hb hr hlocks dX9_reverts_17
  · rw [if_neg c3] at h
    refine lv_aload_n hx hb dX9_reverts_8 rfl (lv_at hl 0 rfl) ?_
    refine lv_iload_n hx hb dX9_reverts_9 rfl (lv_at hl 2 rfl) ?_
    obtain ⟨r4, hr5, h⟩ := ob h
    refine px_Vp (As := [.int x2]) (rest := []) (gs := ([gX9 E a v_now v_tried v_kept v_undos v_saved v_isSaved v_line v_lined v_text v_length v_at v_order v_told v_error v_reason v_detail v_answer v_thrown v_mixed v_conflicts v_firstConflict] : List va_W)) (gc := ([gX9 E a v_now v_tried v_kept v_undos v_saved v_isSaved v_line v_lined v_text v_length v_at v_order v_told v_error v_reason v_detail v_answer v_thrown v_mixed v_conflicts v_firstConflict] : List va_W)) ⟨hx, hb, hml, hown, hts⟩ (c9_isCommit l E a  (x2) (v_now) (v_tried) (v_kept) (v_undos) (v_saved) (v_isSaved) (v_line) (v_lined) (v_text) (v_length) (v_at) (v_order) (v_told) (v_error) (v_reason) (v_detail) (v_answer) (v_thrown) (v_mixed) (v_conflicts) (v_firstConflict) r4 hr5) (cwV 1 hts (ws_v q1344 q1346 q32 q68 q1347) rfl rfl rfl hdV_X9_isCommit (by rw [hR]; exact ⟨Nat.le_of_ble_eq_true rfl, Nat.le_of_ble_eq_true rfl⟩)) hK hN hP hD [0] rfl (by decide) 0 9 rfl rfl rfl rfl hl.1 rfl (Nat.le_of_ble_eq_true rfl) dX9_reverts_10 (by rw [hR]; exact ⟨Nat.le_of_ble_eq_true rfl, Nat.le_of_ble_eq_true rfl⟩) ?_
    refine W.eq (g2 := F0 m 13 ls [.int (b2i r4)]) rfl ?_
    refine lv_if_ne (tgt := 18) hx hb dX9_reverts_13 (by decide) (fun c6 => ?_) (fun c6 => ?_)
    · rw [if_neg c6] at h
      refine lv_iload_n hx hb dX9_reverts_18 rfl (lv_at hl 3 rfl) ?_
      refine lv_iconst (v := (nI 0)) hx hb dX9_reverts_19 (by decide) ?_
      refine lv_iconst (v := (nI 3)) hx hb dX9_reverts_20 (by decide) ?_
      obtain ⟨r7, hr8, h⟩ := ob h
      refine px_Sp (As := [.int x3, .int (nI 0), .int (nI 3)]) (rest := []) (gs := ([gX9 E a v_now v_tried v_kept v_undos v_saved v_isSaved v_line v_lined v_text v_length v_at v_order v_told v_error v_reason v_detail v_answer v_thrown v_mixed v_conflicts v_firstConflict] : List va_W)) (gc := ([] : List va_W)) ⟨hx, hb, hml, hown, hts⟩ (c9_in l E   (x3) ((nI 0)) ((nI 3))  r7 hr8) (va_cwS 3 hts (ws_s q1282 q1283 q68 q1284) rfl rfl rfl hdS_X9_in (by rw [hR]; exact ⟨Nat.le_of_ble_eq_true rfl, Nat.le_of_ble_eq_true rfl⟩)) hK hN hP hD [] rfl (by decide) rfl hl.1 rfl (Nat.le_of_ble_eq_true rfl) dX9_reverts_21 (by rw [hR]; exact ⟨Nat.le_of_ble_eq_true rfl, Nat.le_of_ble_eq_true rfl⟩) ?_
      refine W.eq (g2 := F0 m 24 ls [.int (b2i r7)]) rfl ?_
      refine lv_if_ne (tgt := 29) hx hb dX9_reverts_24 (by decide) (fun c9 => ?_) (fun c9 => ?_)
      · rw [if_neg c9] at h
        refine lv_iload_n hx hb dX9_reverts_29 rfl (lv_at hl 2 rfl) ?_
        refine lv_if_ne (tgt := 41) hx hb dX9_reverts_30 (by decide) (fun c10 => ?_) (fun c10 => ?_)
        · rw [if_neg c10] at h
          refine lv_aload_n hx hb dX9_reverts_41 rfl (lv_at hl 0 rfl) ?_
          refine lv_iload_n hx hb dX9_reverts_42 rfl (lv_at hl 2 rfl) ?_
          refine lv_aload_n hx hb dX9_reverts_43 rfl (lv_at hl 0 rfl) ?_
          refine lv_iload_n hx hb dX9_reverts_44 rfl (lv_at hl 1 rfl) ?_
          obtain ⟨r11, hr12, h⟩ := ob h
          refine px_Vp (As := [.int x1]) (rest := [.int x2, .ref (a 0)]) (gs := ([gX9 E a v_now v_tried v_kept v_undos v_saved v_isSaved v_line v_lined v_text v_length v_at v_order v_told v_error v_reason v_detail v_answer v_thrown v_mixed v_conflicts v_firstConflict] : List va_W)) (gc := ([gX9 E a v_now v_tried v_kept v_undos v_saved v_isSaved v_line v_lined v_text v_length v_at v_order v_told v_error v_reason v_detail v_answer v_thrown v_mixed v_conflicts v_firstConflict] : List va_W)) ⟨hx, hb, hml, hown, hts⟩ (c9_top l E a  (x1) (v_now) (v_tried) (v_kept) (v_undos) (v_saved) (v_isSaved) (v_line) (v_lined) (v_text) (v_length) (v_at) (v_order) (v_told) (v_error) (v_reason) (v_detail) (v_answer) (v_thrown) (v_mixed) (v_conflicts) (v_firstConflict) r11 hr12) (cwV 1 hts (ws_v q1288 q1290 q20 q68 q1291) rfl rfl rfl hdV_X9_top (by rw [hR]; exact ⟨Nat.le_of_ble_eq_true rfl, Nat.le_of_ble_eq_true rfl⟩)) hK hN hP hD [0] rfl (by decide) 0 9 rfl rfl rfl rfl hl.1 rfl (Nat.le_of_ble_eq_true rfl) dX9_reverts_45 (by rw [hR]; exact ⟨Nat.le_of_ble_eq_true rfl, Nat.le_of_ble_eq_true rfl⟩) ?_
          refine W.eq (g2 := F0 m 48 ls [.int r11, .int x2, .ref (a 0)]) rfl ?_
          obtain ⟨r13, hr14, h⟩ := ob h
          refine px_Vp (As := [.int x2, .int r11]) (rest := []) (gs := ([gX9 E a v_now v_tried v_kept v_undos v_saved v_isSaved v_line v_lined v_text v_length v_at v_order v_told v_error v_reason v_detail v_answer v_thrown v_mixed v_conflicts v_firstConflict] : List va_W)) (gc := ([gX9 E a v_now v_tried v_kept v_undos v_saved v_isSaved v_line v_lined v_text v_length v_at v_order v_told v_error v_reason v_detail v_answer v_thrown v_mixed v_conflicts v_firstConflict] : List va_W)) ⟨hx, hb, hml, hown, hts⟩ (c9_isWithin l E a  (x2) (r11) (v_now) (v_tried) (v_kept) (v_undos) (v_saved) (v_isSaved) (v_line) (v_lined) (v_text) (v_length) (v_at) (v_order) (v_told) (v_error) (v_reason) (v_detail) (v_answer) (v_thrown) (v_mixed) (v_conflicts) (v_firstConflict) r13 hr14) (cwV 2 hts (ws_v q1382 q1384 q37 q68 q1385) rfl rfl rfl hdV_X9_isWithin (by rw [hR]; exact ⟨Nat.le_of_ble_eq_true rfl, Nat.le_of_ble_eq_true rfl⟩)) hK hN hP hD [0] rfl (by decide) 0 9 rfl rfl rfl rfl hl.1 rfl (Nat.le_of_ble_eq_true rfl) dX9_reverts_48 (by rw [hR]; exact ⟨Nat.le_of_ble_eq_true rfl, Nat.le_of_ble_eq_true rfl⟩) ?_
          refine W.eq (g2 := F0 m 51 ls [.int (b2i r13)]) rfl ?_
          refine lv_if_ne (tgt := 62) hx hb dX9_reverts_51 (by decide) (fun c15 => ?_) (fun c15 => ?_)
          · rw [if_neg c15] at h
            refine lv_aload_n hx hb dX9_reverts_62 rfl (lv_at hl 0 rfl) ?_
            refine lv_aload_n hx hb dX9_reverts_63 rfl (lv_at hl 0 rfl) ?_
            refine lv_iload_n hx hb dX9_reverts_64 rfl (lv_at hl 1 rfl) ?_
            obtain ⟨r16, hr17, h⟩ := ob h
            refine px_Vp (As := [.int x1]) (rest := [.ref (a 0)]) (gs := ([gX9 E a v_now v_tried v_kept v_undos v_saved v_isSaved v_line v_lined v_text v_length v_at v_order v_told v_error v_reason v_detail v_answer v_thrown v_mixed v_conflicts v_firstConflict] : List va_W)) (gc := ([gX9 E a v_now v_tried v_kept v_undos v_saved v_isSaved v_line v_lined v_text v_length v_at v_order v_told v_error v_reason v_detail v_answer v_thrown v_mixed v_conflicts v_firstConflict] : List va_W)) ⟨hx, hb, hml, hown, hts⟩ (c9_top l E a  (x1) (v_now) (v_tried) (v_kept) (v_undos) (v_saved) (v_isSaved) (v_line) (v_lined) (v_text) (v_length) (v_at) (v_order) (v_told) (v_error) (v_reason) (v_detail) (v_answer) (v_thrown) (v_mixed) (v_conflicts) (v_firstConflict) r16 hr17) (cwV 1 hts (ws_v q1288 q1290 q20 q68 q1291) rfl rfl rfl hdV_X9_top (by rw [hR]; exact ⟨Nat.le_of_ble_eq_true rfl, Nat.le_of_ble_eq_true rfl⟩)) hK hN hP hD [0] rfl (by decide) 0 9 rfl rfl rfl rfl hl.1 rfl (Nat.le_of_ble_eq_true rfl) dX9_reverts_65 (by rw [hR]; exact ⟨Nat.le_of_ble_eq_true rfl, Nat.le_of_ble_eq_true rfl⟩) ?_
            refine W.eq (g2 := F0 m 68 ls [.int r16, .ref (a 0)]) rfl ?_
            refine lv_aload_n hx hb dX9_reverts_68 rfl (lv_at hl 0 rfl) ?_
            refine lv_iload_n hx hb dX9_reverts_69 rfl (lv_at hl 2 rfl) ?_
            refine lv_iconst (v := (nI 1)) hx hb dX9_reverts_70 (by decide) ?_
            obtain ⟨r18, hr19, h⟩ := ob h
            refine px_Vp (As := [.int x2, .int (nI 1)]) (rest := [.int r16, .ref (a 0)]) (gs := ([gX9 E a v_now v_tried v_kept v_undos v_saved v_isSaved v_line v_lined v_text v_length v_at v_order v_told v_error v_reason v_detail v_answer v_thrown v_mixed v_conflicts v_firstConflict] : List va_W)) (gc := ([gX9 E a v_now v_tried v_kept v_undos v_saved v_isSaved v_line v_lined v_text v_length v_at v_order v_told v_error v_reason v_detail v_answer v_thrown v_mixed v_conflicts v_firstConflict] : List va_W)) ⟨hx, hb, hml, hown, hts⟩ (c9_of l E a  (x2) ((nI 1)) (v_now) (v_tried) (v_kept) (v_undos) (v_saved) (v_isSaved) (v_line) (v_lined) (v_text) (v_length) (v_at) (v_order) (v_told) (v_error) (v_reason) (v_detail) (v_answer) (v_thrown) (v_mixed) (v_conflicts) (v_firstConflict) r18 hr19) (cwV 2 hts (ws_v q1296 q1298 q22 q68 q1299) rfl rfl rfl hdV_X9_of (by rw [hR]; exact ⟨Nat.le_of_ble_eq_true rfl, Nat.le_of_ble_eq_true rfl⟩)) hK hN hP hD [0] rfl (by decide) 0 9 rfl rfl rfl rfl hl.1 rfl (Nat.le_of_ble_eq_true rfl) dX9_reverts_71 (by rw [hR]; exact ⟨Nat.le_of_ble_eq_true rfl, Nat.le_of_ble_eq_true rfl⟩) ?_
            refine W.eq (g2 := F0 m 74 ls [.int r18, .int r16, .ref (a 0)]) rfl ?_
            refine lv_iload_n hx hb dX9_reverts_74 rfl (lv_at hl 2 rfl) ?_
            refine lv_iload_n hx hb dX9_reverts_75 rfl (lv_at hl 3 rfl) ?_
            obtain ⟨⟨w20, w21, w22⟩, hr23, h⟩ := ob h
            dsimp only at h
            refine px_V (As := [.int r16, .int r18, .int x2, .int x3]) (rest := []) (gs := ([gX9 E a v_now v_tried v_kept v_undos v_saved v_isSaved v_line v_lined v_text v_length v_at v_order v_told v_error v_reason v_detail v_answer v_thrown v_mixed v_conflicts v_firstConflict] : List va_W)) (gr := ([] : List va_W)) (gc := ([gX9 E a v_now v_tried v_kept v_undos v_saved v_isSaved v_line v_lined v_text v_length v_at v_order v_told v_error v_reason v_detail v_answer v_thrown v_mixed v_conflicts v_firstConflict] : List va_W)) (g1 := ([gX9 E a v_now v_tried v_kept v_undos v_saved v_isSaved v_line v_lined v_text v_length v_at v_order v_told v_error v_reason v_detail v_answer v_thrown w20 w21 w22] : List va_W)) (g2 := ([gX9 E a v_now v_tried v_kept v_undos v_saved v_isSaved v_line v_lined v_text v_length v_at v_order v_told v_error v_reason v_detail v_answer v_thrown w20 w21 w22] : List va_W)) ⟨hx, hb, hml, hown, hts⟩ (c9_mixes l E a  (r16) (r18) (x2) (x3) (v_now) (v_tried) (v_kept) (v_undos) (v_saved) (v_isSaved) (v_line) (v_lined) (v_text) (v_length) (v_at) (v_order) (v_told) (v_error) (v_reason) (v_detail) (v_answer) (v_thrown) (v_mixed) (v_conflicts) (v_firstConflict) w20 w21 w22 hr23) (cwV 4 hts (ws_v q1390 q1392 q39 q68 q1393) rfl rfl rfl hdV_X9_mixes (by rw [hR]; exact ⟨Nat.le_of_ble_eq_true rfl, Nat.le_of_ble_eq_true rfl⟩)) hK hN hP hD hS hA [] [0] [0] rfl rfl (by decide) (by decide) rfl (by decide) 0 9 rfl rfl rfl rfl hl.1 rfl (Nat.le_of_ble_eq_true rfl) dX9_reverts_76 (by rw [hR]; exact ⟨Nat.le_of_ble_eq_true rfl, Nat.le_of_ble_eq_true rfl⟩) (fun H locs hP hD hS => ?_)
            refine W.eq (g2 := F0 m 79 ls []) rfl ?_
            refine lv_aload_n hx hb dX9_reverts_79 rfl (lv_at hl 0 rfl) ?_
            refine lv_iload_n hx hb dX9_reverts_80 rfl (lv_at hl 1 rfl) ?_
            refine lv_iload_n hx hb dX9_reverts_81 rfl (lv_at hl 3 rfl) ?_
            obtain ⟨⟨r24, w25, w26, w27, w28⟩, hr29, h⟩ := ob h
            dsimp only at h
            refine px_V (As := [.int x1, .int x3]) (rest := []) (gs := ([gX9 E a v_now v_tried v_kept v_undos v_saved v_isSaved v_line v_lined v_text v_length v_at v_order v_told v_error v_reason v_detail v_answer v_thrown w20 w21 w22] : List va_W)) (gr := ([] : List va_W)) (gc := ([gX9 E a v_now v_tried v_kept v_undos v_saved v_isSaved v_line v_lined v_text v_length v_at v_order v_told v_error v_reason v_detail v_answer v_thrown w20 w21 w22] : List va_W)) (g1 := ([gX9 E a w25 v_tried v_kept v_undos v_saved v_isSaved v_line v_lined v_text v_length v_at v_order v_told v_error w26 w27 w28 v_thrown w20 w21 w22] : List va_W)) (g2 := ([gX9 E a w25 v_tried v_kept v_undos v_saved v_isSaved v_line v_lined v_text v_length v_at v_order v_told v_error w26 w27 w28 v_thrown w20 w21 w22] : List va_W)) ⟨hx, hb, hml, hown, hts⟩ (c9_picked l E a  (x1) (x3) (v_now) (v_tried) (v_kept) (v_undos) (v_saved) (v_isSaved) (v_line) (v_lined) (v_text) (v_length) (v_at) (v_order) (v_told) (v_error) (v_reason) (v_detail) (v_answer) (v_thrown) (w20) (w21) (w22) r24 w25 w26 w27 w28 hr29) (cwV 2 hts (ws_v q1406 q1408 q42 q68 q1409) rfl rfl rfl hdV_X9_picked (by rw [hR]; exact ⟨Nat.le_of_ble_eq_true rfl, Nat.le_of_ble_eq_true rfl⟩)) hK hN hP hD hS hA [] [0] [0] rfl rfl (by decide) (by decide) rfl (by decide) 0 9 rfl rfl rfl rfl hl.1 rfl (Nat.le_of_ble_eq_true rfl) dX9_reverts_82 (by rw [hR]; exact ⟨Nat.le_of_ble_eq_true rfl, Nat.le_of_ble_eq_true rfl⟩) (fun H locs hP hD hS => ?_)
            refine W.eq (g2 := F0 m 85 ls [.int r24]) rfl ?_
            cases h
            exact px_eWi hA0 hQ hP hD hS hx hb hr hlocks dX9_reverts_85
          · rw [if_pos c15] at h
            refine lv_aload_n hx hb dX9_reverts_54 rfl (lv_at hl 0 rfl) ?_
            refine lv_bipush (v := (nI 8)) hx hb dX9_reverts_55 (by decide) ?_
            refine lv_iload_n hx hb dX9_reverts_57 rfl (lv_at hl 2 rfl) ?_
            obtain ⟨⟨r30, w31, w32⟩, hr33, h⟩ := ob h
            dsimp only at h
            refine px_V (As := [.int (nI 8), .int x2]) (rest := []) (gs := ([gX9 E a v_now v_tried v_kept v_undos v_saved v_isSaved v_line v_lined v_text v_length v_at v_order v_told v_error v_reason v_detail v_answer v_thrown v_mixed v_conflicts v_firstConflict] : List va_W)) (gr := ([] : List va_W)) (gc := ([gX9 E a v_now v_tried v_kept v_undos v_saved v_isSaved v_line v_lined v_text v_length v_at v_order v_told v_error v_reason v_detail v_answer v_thrown v_mixed v_conflicts v_firstConflict] : List va_W)) (g1 := ([gX9 E a v_now v_tried v_kept v_undos v_saved v_isSaved v_line v_lined v_text v_length v_at v_order v_told v_error w31 w32 v_answer v_thrown v_mixed v_conflicts v_firstConflict] : List va_W)) (g2 := ([gX9 E a v_now v_tried v_kept v_undos v_saved v_isSaved v_line v_lined v_text v_length v_at v_order v_told v_error w31 w32 v_answer v_thrown v_mixed v_conflicts v_firstConflict] : List va_W)) ⟨hx, hb, hml, hown, hts⟩ (c9_refuses l E a  ((nI 8)) (x2) (v_now) (v_tried) (v_kept) (v_undos) (v_saved) (v_isSaved) (v_line) (v_lined) (v_text) (v_length) (v_at) (v_order) (v_told) (v_error) (v_reason) (v_detail) (v_answer) (v_thrown) (v_mixed) (v_conflicts) (v_firstConflict) r30 w31 w32 hr33) (cwV 2 hts (ws_v q1300 q1302 q23 q68 q1303) rfl rfl rfl hdV_X9_refuses (by rw [hR]; exact ⟨Nat.le_of_ble_eq_true rfl, Nat.le_of_ble_eq_true rfl⟩)) hK hN hP hD hS hA [] [0] [0] rfl rfl (by decide) (by decide) rfl (by decide) 0 9 rfl rfl rfl rfl hl.1 rfl (Nat.le_of_ble_eq_true rfl) dX9_reverts_58 (by rw [hR]; exact ⟨Nat.le_of_ble_eq_true rfl, Nat.le_of_ble_eq_true rfl⟩) (fun H locs hP hD hS => ?_)
            refine W.eq (g2 := F0 m 61 ls [.int r30]) rfl ?_
            cases h
            exact px_eWi hA0 hQ hP hD hS hx hb hr hlocks dX9_reverts_61
        · rw [if_pos c10] at h
          refine lv_aload_n hx hb dX9_reverts_33 rfl (lv_at hl 0 rfl) ?_
          refine lv_bipush (v := (nI 6)) hx hb dX9_reverts_34 (by decide) ?_
          refine lv_iconst (v := (nI 0)) hx hb dX9_reverts_36 (by decide) ?_
          obtain ⟨⟨r34, w35, w36⟩, hr37, h⟩ := ob h
          dsimp only at h
          refine px_V (As := [.int (nI 6), .int (nI 0)]) (rest := []) (gs := ([gX9 E a v_now v_tried v_kept v_undos v_saved v_isSaved v_line v_lined v_text v_length v_at v_order v_told v_error v_reason v_detail v_answer v_thrown v_mixed v_conflicts v_firstConflict] : List va_W)) (gr := ([] : List va_W)) (gc := ([gX9 E a v_now v_tried v_kept v_undos v_saved v_isSaved v_line v_lined v_text v_length v_at v_order v_told v_error v_reason v_detail v_answer v_thrown v_mixed v_conflicts v_firstConflict] : List va_W)) (g1 := ([gX9 E a v_now v_tried v_kept v_undos v_saved v_isSaved v_line v_lined v_text v_length v_at v_order v_told v_error w35 w36 v_answer v_thrown v_mixed v_conflicts v_firstConflict] : List va_W)) (g2 := ([gX9 E a v_now v_tried v_kept v_undos v_saved v_isSaved v_line v_lined v_text v_length v_at v_order v_told v_error w35 w36 v_answer v_thrown v_mixed v_conflicts v_firstConflict] : List va_W)) ⟨hx, hb, hml, hown, hts⟩ (c9_refuses l E a  ((nI 6)) ((nI 0)) (v_now) (v_tried) (v_kept) (v_undos) (v_saved) (v_isSaved) (v_line) (v_lined) (v_text) (v_length) (v_at) (v_order) (v_told) (v_error) (v_reason) (v_detail) (v_answer) (v_thrown) (v_mixed) (v_conflicts) (v_firstConflict) r34 w35 w36 hr37) (cwV 2 hts (ws_v q1300 q1302 q23 q68 q1303) rfl rfl rfl hdV_X9_refuses (by rw [hR]; exact ⟨Nat.le_of_ble_eq_true rfl, Nat.le_of_ble_eq_true rfl⟩)) hK hN hP hD hS hA [] [0] [0] rfl rfl (by decide) (by decide) rfl (by decide) 0 9 rfl rfl rfl rfl hl.1 rfl (Nat.le_of_ble_eq_true rfl) dX9_reverts_37 (by rw [hR]; exact ⟨Nat.le_of_ble_eq_true rfl, Nat.le_of_ble_eq_true rfl⟩) (fun H locs hP hD hS => ?_)
          refine W.eq (g2 := F0 m 40 ls [.int r34]) rfl ?_
          cases h
          exact px_eWi hA0 hQ hP hD hS hx hb hr hlocks dX9_reverts_40
      · rw [if_pos c9] at h
        refine lv_iconst (v := (nI 2)) hx hb dX9_reverts_27 (by decide) ?_
        cases h
        exact px_eWi hA0 hQ hP hD hS hx hb hr hlocks dX9_reverts_28
    · rw [if_pos c6] at h
      refine lv_iconst (v := (nI 1)) hx hb dX9_reverts_16 (by decide) ?_
      cases h
      exact px_eWi hA0 hQ hP hD hS hx hb hr hlocks dX9_reverts_17
def f9_revert (x1 : Int32) (x2 : Int32) (x3 : Int32) (v_now : AI) (v_tried : AI) (v_kept : AI) (v_undos : Int32) (v_reason : Int32) (v_detail : Int32) (v_answer : Int32) (v_thrown : Int32) (v_mixed : AI) (v_conflicts : Int32) (v_firstConflict : Int32) : Option (Int32 × AI × AI × AI × Int32 × Int32 × Int32 × Int32 × Int32 × AI × Int32 × Int32) := ((f9_tries (v_now) (v_tried) (v_thrown)).bind fun (w1, w2) => ((f9_reverts (x1) (x2) (x3) (v_now) (v_reason) (v_detail) (v_answer) (v_mixed) (v_conflicts) (v_firstConflict)).bind fun (r4, w5, w6, w7, w8, w9, w10, w11) => ((f9_ends (r4) (w1) (v_kept) (v_undos) (w8) (w2)).bind fun (r13, w14, w15, w16) => (some (r13, w5, w1, w14, w15, w6, w7, w8, w16, w9, w10, w11)))))
set_option maxHeartbeats 4000000 in
set_option maxRecDepth 100000 in
theorem c9_revert (l : Launch) (E : PE) (a : Nat → Nat)  (x1 : Int32) (x2 : Int32) (x3 : Int32) (v_now : AI) (v_tried : AI) (v_kept : AI) (v_undos : Int32) (v_saved : AI) (v_isSaved : Int32) (v_line : AI) (v_lined : Int32) (v_text : AI) (v_length : Int32) (v_at : Int32) (v_order : Int32) (v_told : AI) (v_error : Int32) (v_reason : Int32) (v_detail : Int32) (v_answer : Int32) (v_thrown : Int32) (v_mixed : AI) (v_conflicts : Int32) (v_firstConflict : Int32) (r : Int32) (z_this_now : AI) (z_this_tried : AI) (z_this_kept : AI) (z_this_undos : Int32) (z_this_reason : Int32) (z_this_detail : Int32) (z_this_answer : Int32) (z_this_thrown : Int32) (z_this_mixed : AI) (z_this_conflicts : Int32) (z_this_firstConflict : Int32) (h : f9_revert x1 x2 x3 v_now v_tried v_kept v_undos v_reason v_detail v_answer v_thrown v_mixed v_conflicts v_firstConflict = some (r, z_this_now, z_this_tried, z_this_kept, z_this_undos, z_this_reason, z_this_detail, z_this_answer, z_this_thrown, z_this_mixed, z_this_conflicts, z_this_firstConflict)) : MW l yX9_revert cX9_revert 4 (some .int) { frames := 5, cells := 0, slots := 0, locals := 116 } E [.ref (a 0), .int x1, .int x2, .int x3] ([gX9 E a v_now v_tried v_kept v_undos v_saved v_isSaved v_line v_lined v_text v_length v_at v_order v_told v_error v_reason v_detail v_answer v_thrown v_mixed v_conflicts v_firstConflict] : List va_W).flatten 0 0 (some (.int r)) ([gX9 E a z_this_now z_this_tried z_this_kept z_this_undos v_saved v_isSaved v_line v_lined v_text v_length v_at v_order v_told v_error z_this_reason z_this_detail z_this_answer z_this_thrown z_this_mixed z_this_conflicts z_this_firstConflict] : List va_W).flatten := by
  refine px_startW (by decide +kernel) (Nat.le_of_ble_eq_true rfl) ?_
  intro p e s m args below meth c R Q A ls hC hA0 hQ
  obtain ⟨hx, hb, hr, hml, hts, hown, hlocks, hR, hK, hN, hP, hD, hA, hl, hin⟩ := hC
  have hl : lv_has ls 4 [(0, .ref (a 0)), (1, .int x1), (2, .int x2), (3, .int x3)] := hl
  suffices key : ∀ (H : Heap) (locs : List Loc), va_P E.1 vwCl ([gX9 E a v_now v_tried v_kept v_undos v_saved v_isSaved v_line v_lined v_text v_length v_at v_order v_told v_error v_reason v_detail v_answer v_thrown v_mixed v_conflicts v_firstConflict] : List va_W).flatten H → va_S A s.heap H locs → W p l e R s m args below meth c H locs 0 0 Q (F0 m 0 ls []) from key s.heap [] hP va_S.rf
  unfold f9_revert at h
  intro H locs hP hS
  refine lv_aload_n hx hb dX9_revert_0 rfl (lv_at hl 0 rfl) ?_
  obtain ⟨⟨w1, w2⟩, hr3, h⟩ := ob h
  dsimp only at h
  refine px_V (As := []) (rest := []) (gs := ([gX9 E a v_now v_tried v_kept v_undos v_saved v_isSaved v_line v_lined v_text v_length v_at v_order v_told v_error v_reason v_detail v_answer v_thrown v_mixed v_conflicts v_firstConflict] : List va_W)) (gr := ([] : List va_W)) (gc := ([gX9 E a v_now v_tried v_kept v_undos v_saved v_isSaved v_line v_lined v_text v_length v_at v_order v_told v_error v_reason v_detail v_answer v_thrown v_mixed v_conflicts v_firstConflict] : List va_W)) (g1 := ([gX9 E a v_now w1 v_kept v_undos v_saved v_isSaved v_line v_lined v_text v_length v_at v_order v_told v_error v_reason v_detail v_answer w2 v_mixed v_conflicts v_firstConflict] : List va_W)) (g2 := ([gX9 E a v_now w1 v_kept v_undos v_saved v_isSaved v_line v_lined v_text v_length v_at v_order v_told v_error v_reason v_detail v_answer w2 v_mixed v_conflicts v_firstConflict] : List va_W)) ⟨hx, hb, hml, hown, hts⟩ (c9_tries l E a   (v_now) (v_tried) (v_kept) (v_undos) (v_saved) (v_isSaved) (v_line) (v_lined) (v_text) (v_length) (v_at) (v_order) (v_told) (v_error) (v_reason) (v_detail) (v_answer) (v_thrown) (v_mixed) (v_conflicts) (v_firstConflict) w1 w2 hr3) (cwV 0 hts (ws_v q1270 q1272 q17 q68 q1273) rfl rfl rfl hdV_X9_tries (by rw [hR]; exact ⟨Nat.le_of_ble_eq_true rfl, Nat.le_of_ble_eq_true rfl⟩)) hK hN hP hD hS hA [] [0] [0] rfl rfl (by decide) (by decide) rfl (by decide) 0 9 rfl rfl rfl rfl hl.1 rfl (Nat.le_of_ble_eq_true rfl) dX9_revert_1 (by rw [hR]; exact ⟨Nat.le_of_ble_eq_true rfl, Nat.le_of_ble_eq_true rfl⟩) (fun H locs hP hD hS => ?_)
  refine W.eq (g2 := F0 m 4 ls []) rfl ?_
  refine lv_aload_n hx hb dX9_revert_4 rfl (lv_at hl 0 rfl) ?_
  refine lv_aload_n hx hb dX9_revert_5 rfl (lv_at hl 0 rfl) ?_
  refine lv_iload_n hx hb dX9_revert_6 rfl (lv_at hl 1 rfl) ?_
  refine lv_iload_n hx hb dX9_revert_7 rfl (lv_at hl 2 rfl) ?_
  refine lv_iload_n hx hb dX9_revert_8 rfl (lv_at hl 3 rfl) ?_
  obtain ⟨⟨r4, w5, w6, w7, w8, w9, w10, w11⟩, hr12, h⟩ := ob h
  dsimp only at h
  refine px_V (As := [.int x1, .int x2, .int x3]) (rest := [.ref (a 0)]) (gs := ([gX9 E a v_now w1 v_kept v_undos v_saved v_isSaved v_line v_lined v_text v_length v_at v_order v_told v_error v_reason v_detail v_answer w2 v_mixed v_conflicts v_firstConflict] : List va_W)) (gr := ([] : List va_W)) (gc := ([gX9 E a v_now w1 v_kept v_undos v_saved v_isSaved v_line v_lined v_text v_length v_at v_order v_told v_error v_reason v_detail v_answer w2 v_mixed v_conflicts v_firstConflict] : List va_W)) (g1 := ([gX9 E a w5 w1 v_kept v_undos v_saved v_isSaved v_line v_lined v_text v_length v_at v_order v_told v_error w6 w7 w8 w2 w9 w10 w11] : List va_W)) (g2 := ([gX9 E a w5 w1 v_kept v_undos v_saved v_isSaved v_line v_lined v_text v_length v_at v_order v_told v_error w6 w7 w8 w2 w9 w10 w11] : List va_W)) ⟨hx, hb, hml, hown, hts⟩ (c9_reverts l E a  (x1) (x2) (x3) (v_now) (w1) (v_kept) (v_undos) (v_saved) (v_isSaved) (v_line) (v_lined) (v_text) (v_length) (v_at) (v_order) (v_told) (v_error) (v_reason) (v_detail) (v_answer) (w2) (v_mixed) (v_conflicts) (v_firstConflict) r4 w5 w6 w7 w8 w9 w10 w11 hr12) (cwV 3 hts (ws_v q1414 q1416 q43 q68 q1417) rfl rfl rfl hdV_X9_reverts (by rw [hR]; exact ⟨Nat.le_of_ble_eq_true rfl, Nat.le_of_ble_eq_true rfl⟩)) hK hN hP hD hS hA [] [0] [0] rfl rfl (by decide) (by decide) rfl (by decide) 0 9 rfl rfl rfl rfl hl.1 rfl (Nat.le_of_ble_eq_true rfl) dX9_revert_9 (by rw [hR]; exact ⟨Nat.le_of_ble_eq_true rfl, Nat.le_of_ble_eq_true rfl⟩) (fun H locs hP hD hS => ?_)
  refine W.eq (g2 := F0 m 12 ls [.int r4, .ref (a 0)]) rfl ?_
  obtain ⟨⟨r13, w14, w15, w16⟩, hr17, h⟩ := ob h
  dsimp only at h
  refine px_V (As := [.int r4]) (rest := []) (gs := ([gX9 E a w5 w1 v_kept v_undos v_saved v_isSaved v_line v_lined v_text v_length v_at v_order v_told v_error w6 w7 w8 w2 w9 w10 w11] : List va_W)) (gr := ([] : List va_W)) (gc := ([gX9 E a w5 w1 v_kept v_undos v_saved v_isSaved v_line v_lined v_text v_length v_at v_order v_told v_error w6 w7 w8 w2 w9 w10 w11] : List va_W)) (g1 := ([gX9 E a w5 w1 w14 w15 v_saved v_isSaved v_line v_lined v_text v_length v_at v_order v_told v_error w6 w7 w8 w16 w9 w10 w11] : List va_W)) (g2 := ([gX9 E a w5 w1 w14 w15 v_saved v_isSaved v_line v_lined v_text v_length v_at v_order v_told v_error w6 w7 w8 w16 w9 w10 w11] : List va_W)) ⟨hx, hb, hml, hown, hts⟩ (c9_ends l E a  (r4) (w5) (w1) (v_kept) (v_undos) (v_saved) (v_isSaved) (v_line) (v_lined) (v_text) (v_length) (v_at) (v_order) (v_told) (v_error) (w6) (w7) (w8) (w2) (w9) (w10) (w11) r13 w14 w15 w16 hr17) (cwV 1 hts (ws_v q1312 q1314 q26 q68 q1315) rfl rfl rfl hdV_X9_ends (by rw [hR]; exact ⟨Nat.le_of_ble_eq_true rfl, Nat.le_of_ble_eq_true rfl⟩)) hK hN hP hD hS hA [] [0] [0] rfl rfl (by decide) (by decide) rfl (by decide) 0 9 rfl rfl rfl rfl hl.1 rfl (Nat.le_of_ble_eq_true rfl) dX9_revert_12 (by rw [hR]; exact ⟨Nat.le_of_ble_eq_true rfl, Nat.le_of_ble_eq_true rfl⟩) (fun H locs hP hD hS => ?_)
  refine W.eq (g2 := F0 m 15 ls [.int r13]) rfl ?_
  cases h
  exact px_eWi hA0 hQ hP hD hS hx hb hr hlocks dX9_revert_15
def f9_conflicts (x1 : Int32) (x2 : Int32) (v_now : AI) (v_thrown : Int32) (v_mixed : AI) (v_conflicts : Int32) (v_firstConflict : Int32) : Option (Int32 × Int32 × AI × Int32 × Int32) := ((f9_isBranch (x1) (v_now)).bind fun r1 => (if (b2i r1) = 0 then ((f9_raises ((nI 1)) ((nI 0))).bind fun (r4, w5) => (some (r4, w5, v_mixed, v_conflicts, v_firstConflict))) else ((f9_isBranch (x2) (v_now)).bind fun r7 => (if (b2i r7) = 0 then ((f9_raises ((nI 1)) ((nI 0))).bind fun (r24, w25) => (some (r24, w25, v_mixed, v_conflicts, v_firstConflict))) else ((f9_top (x1) (v_now)).bind fun r10 => ((f9_top (x2) (v_now)).bind fun r12 => ((f9_top (x1) (v_now)).bind fun r14 => ((f9_top (x2) (v_now)).bind fun r16 => ((f9_common (r14) (r16) (v_now)).bind fun r18 => ((f9_mixes (r10) (r12) (r18) ((nI 1)) (v_now) (v_mixed) (v_conflicts) (v_firstConflict)).bind fun (w20, w21, w22) => (some (w21, (nI 0), w20, w21, w22))))))))))))
set_option maxHeartbeats 4000000 in
set_option maxRecDepth 100000 in
theorem c9_conflicts (l : Launch) (E : PE) (a : Nat → Nat)  (x1 : Int32) (x2 : Int32) (v_now : AI) (v_tried : AI) (v_kept : AI) (v_undos : Int32) (v_saved : AI) (v_isSaved : Int32) (v_line : AI) (v_lined : Int32) (v_text : AI) (v_length : Int32) (v_at : Int32) (v_order : Int32) (v_told : AI) (v_error : Int32) (v_reason : Int32) (v_detail : Int32) (v_answer : Int32) (v_thrown : Int32) (v_mixed : AI) (v_conflicts : Int32) (v_firstConflict : Int32) (r : Int32) (z_this_thrown : Int32) (z_this_mixed : AI) (z_this_conflicts : Int32) (z_this_firstConflict : Int32) (h : f9_conflicts x1 x2 v_now v_thrown v_mixed v_conflicts v_firstConflict = some (r, z_this_thrown, z_this_mixed, z_this_conflicts, z_this_firstConflict)) : MW l yX9_conflicts cX9_conflicts 3 (some .int) { frames := 3, cells := 0, slots := 0, locals := 72 } E [.ref (a 0), .int x1, .int x2] ([gX9 E a v_now v_tried v_kept v_undos v_saved v_isSaved v_line v_lined v_text v_length v_at v_order v_told v_error v_reason v_detail v_answer v_thrown v_mixed v_conflicts v_firstConflict] : List va_W).flatten 0 0 (some (.int r)) ([gX9 E a v_now v_tried v_kept v_undos v_saved v_isSaved v_line v_lined v_text v_length v_at v_order v_told v_error v_reason v_detail v_answer z_this_thrown z_this_mixed z_this_conflicts z_this_firstConflict] : List va_W).flatten := by
  refine px_startW (by decide +kernel) (Nat.le_of_ble_eq_true rfl) ?_
  intro p e s m args below meth c R Q A ls hC hA0 hQ
  obtain ⟨hx, hb, hr, hml, hts, hown, hlocks, hR, hK, hN, hP, hD, hA, hl, hin⟩ := hC
  have hl : lv_has ls 3 [(0, .ref (a 0)), (1, .int x1), (2, .int x2)] := hl
  suffices key : ∀ (H : Heap) (locs : List Loc), va_P E.1 vwCl ([gX9 E a v_now v_tried v_kept v_undos v_saved v_isSaved v_line v_lined v_text v_length v_at v_order v_told v_error v_reason v_detail v_answer v_thrown v_mixed v_conflicts v_firstConflict] : List va_W).flatten H → va_S A s.heap H locs → W p l e R s m args below meth c H locs 0 0 Q (F0 m 0 ls []) from key s.heap [] hP va_S.rf
  unfold f9_conflicts at h
  intro H locs hP hS
  refine lv_aload_n hx hb dX9_conflicts_0 rfl (lv_at hl 0 rfl) ?_
  refine lv_iconst (v := (nI 0)) hx hb dX9_conflicts_1 (by decide) ?_
  refine va_put (D := E.1) (ci := 9) (v := .int (nI 0)) (ty := .int) (C := RX9) (T := TX9) (N := 21) hx hb hts iX9 tyX9 tyX9_ok nmX9 hown hK hP hD hS 0 rfl rfl 17 (by decide) (hts _ q1215) (fun _ h9 => h9) rfl (tyX9_ok 17 (by decide)) rfl rfl (Nat.le_of_ble_eq_true rfl) dX9_conflicts_2 (fun H locs hP hD hS => ?_)
  have hP : va_P E.1 vwCl ([gX9 E a v_now v_tried v_kept v_undos v_saved v_isSaved v_line v_lined v_text v_length v_at v_order v_told v_error v_reason v_detail v_answer (nI 0) v_mixed v_conflicts v_firstConflict] : List va_W).flatten H := hP
  have hD : va_D A ([gX9 E a v_now v_tried v_kept v_undos v_saved v_isSaved v_line v_lined v_text v_length v_at v_order v_told v_error v_reason v_detail v_answer (nI 0) v_mixed v_conflicts v_firstConflict] : List va_W).flatten := hD
  refine lv_aload_n hx hb dX9_conflicts_5 rfl (lv_at hl 0 rfl) ?_
  refine lv_iload_n hx hb dX9_conflicts_6 rfl (lv_at hl 1 rfl) ?_
  obtain ⟨r1, hr2, h⟩ := ob h
  refine px_Vp (As := [.int x1]) (rest := []) (gs := ([gX9 E a v_now v_tried v_kept v_undos v_saved v_isSaved v_line v_lined v_text v_length v_at v_order v_told v_error v_reason v_detail v_answer (nI 0) v_mixed v_conflicts v_firstConflict] : List va_W)) (gc := ([gX9 E a v_now v_tried v_kept v_undos v_saved v_isSaved v_line v_lined v_text v_length v_at v_order v_told v_error v_reason v_detail v_answer (nI 0) v_mixed v_conflicts v_firstConflict] : List va_W)) ⟨hx, hb, hml, hown, hts⟩ (c9_isBranch l E a  (x1) (v_now) (v_tried) (v_kept) (v_undos) (v_saved) (v_isSaved) (v_line) (v_lined) (v_text) (v_length) (v_at) (v_order) (v_told) (v_error) (v_reason) (v_detail) (v_answer) ((nI 0)) (v_mixed) (v_conflicts) (v_firstConflict) r1 hr2) (cwV 1 hts (ws_v q1278 q1280 q19 q68 q1281) rfl rfl rfl hdV_X9_isBranch (by rw [hR]; exact ⟨Nat.le_of_ble_eq_true rfl, Nat.le_of_ble_eq_true rfl⟩)) hK hN hP hD [0] rfl (by decide) 0 9 rfl rfl rfl rfl hl.1 rfl (Nat.le_of_ble_eq_true rfl) dX9_conflicts_7 (by rw [hR]; exact ⟨Nat.le_of_ble_eq_true rfl, Nat.le_of_ble_eq_true rfl⟩) ?_
  refine W.eq (g2 := F0 m 10 ls [.int (b2i r1)]) rfl ?_
  refine lv_if_eq (tgt := 21) hx hb dX9_conflicts_10 (by decide) (fun c3 => ?_) (fun c3 => ?_)
  · rw [if_pos c3] at h
    refine lv_aload_n hx hb dX9_conflicts_21 rfl (lv_at hl 0 rfl) ?_
    refine lv_iconst (v := (nI 1)) hx hb dX9_conflicts_22 (by decide) ?_
    obtain ⟨⟨r4, w5⟩, hr6, h⟩ := ob h
    dsimp only at h
    refine px_V (As := [.int (nI 1)]) (rest := []) (gs := ([gX9 E a v_now v_tried v_kept v_undos v_saved v_isSaved v_line v_lined v_text v_length v_at v_order v_told v_error v_reason v_detail v_answer (nI 0) v_mixed v_conflicts v_firstConflict] : List va_W)) (gr := ([] : List va_W)) (gc := ([gX9 E a v_now v_tried v_kept v_undos v_saved v_isSaved v_line v_lined v_text v_length v_at v_order v_told v_error v_reason v_detail v_answer (nI 0) v_mixed v_conflicts v_firstConflict] : List va_W)) (g1 := ([gX9 E a v_now v_tried v_kept v_undos v_saved v_isSaved v_line v_lined v_text v_length v_at v_order v_told v_error v_reason v_detail v_answer w5 v_mixed v_conflicts v_firstConflict] : List va_W)) (g2 := ([gX9 E a v_now v_tried v_kept v_undos v_saved v_isSaved v_line v_lined v_text v_length v_at v_order v_told v_error v_reason v_detail v_answer w5 v_mixed v_conflicts v_firstConflict] : List va_W)) ⟨hx, hb, hml, hown, hts⟩ (c9_raises l E a  ((nI 1)) (v_now) (v_tried) (v_kept) (v_undos) (v_saved) (v_isSaved) (v_line) (v_lined) (v_text) (v_length) (v_at) (v_order) (v_told) (v_error) (v_reason) (v_detail) (v_answer) ((nI 0)) (v_mixed) (v_conflicts) (v_firstConflict) r4 w5 hr6) (cwV 1 hts (ws_v q1320 q1322 q28 q68 q1323) rfl rfl rfl hdV_X9_raises (by rw [hR]; exact ⟨Nat.le_of_ble_eq_true rfl, Nat.le_of_ble_eq_true rfl⟩)) hK hN hP hD hS hA [] [0] [0] rfl rfl (by decide) (by decide) rfl (by decide) 0 9 rfl rfl rfl rfl hl.1 rfl (Nat.le_of_ble_eq_true rfl) dX9_conflicts_23 (by rw [hR]; exact ⟨Nat.le_of_ble_eq_true rfl, Nat.le_of_ble_eq_true rfl⟩) (fun H locs hP hD hS => ?_)
    refine W.eq (g2 := F0 m 26 ls [.int r4]) rfl ?_
    cases h
    exact px_eWi hA0 hQ hP hD hS hx hb hr hlocks dX9_conflicts_26
  · rw [if_neg c3] at h
    refine lv_aload_n hx hb dX9_conflicts_13 rfl (lv_at hl 0 rfl) ?_
    refine lv_iload_n hx hb dX9_conflicts_14 rfl (lv_at hl 2 rfl) ?_
    obtain ⟨r7, hr8, h⟩ := ob h
    refine px_Vp (As := [.int x2]) (rest := []) (gs := ([gX9 E a v_now v_tried v_kept v_undos v_saved v_isSaved v_line v_lined v_text v_length v_at v_order v_told v_error v_reason v_detail v_answer (nI 0) v_mixed v_conflicts v_firstConflict] : List va_W)) (gc := ([gX9 E a v_now v_tried v_kept v_undos v_saved v_isSaved v_line v_lined v_text v_length v_at v_order v_told v_error v_reason v_detail v_answer (nI 0) v_mixed v_conflicts v_firstConflict] : List va_W)) ⟨hx, hb, hml, hown, hts⟩ (c9_isBranch l E a  (x2) (v_now) (v_tried) (v_kept) (v_undos) (v_saved) (v_isSaved) (v_line) (v_lined) (v_text) (v_length) (v_at) (v_order) (v_told) (v_error) (v_reason) (v_detail) (v_answer) ((nI 0)) (v_mixed) (v_conflicts) (v_firstConflict) r7 hr8) (cwV 1 hts (ws_v q1278 q1280 q19 q68 q1281) rfl rfl rfl hdV_X9_isBranch (by rw [hR]; exact ⟨Nat.le_of_ble_eq_true rfl, Nat.le_of_ble_eq_true rfl⟩)) hK hN hP hD [0] rfl (by decide) 0 9 rfl rfl rfl rfl hl.1 rfl (Nat.le_of_ble_eq_true rfl) dX9_conflicts_15 (by rw [hR]; exact ⟨Nat.le_of_ble_eq_true rfl, Nat.le_of_ble_eq_true rfl⟩) ?_
    refine W.eq (g2 := F0 m 18 ls [.int (b2i r7)]) rfl ?_
    refine lv_if_ne (tgt := 27) hx hb dX9_conflicts_18 (by decide) (fun c9 => ?_) (fun c9 => ?_)
    · rw [if_neg c9] at h
      refine lv_aload_n hx hb dX9_conflicts_27 rfl (lv_at hl 0 rfl) ?_
      refine lv_aload_n hx hb dX9_conflicts_28 rfl (lv_at hl 0 rfl) ?_
      refine lv_iload_n hx hb dX9_conflicts_29 rfl (lv_at hl 1 rfl) ?_
      obtain ⟨r10, hr11, h⟩ := ob h
      refine px_Vp (As := [.int x1]) (rest := [.ref (a 0)]) (gs := ([gX9 E a v_now v_tried v_kept v_undos v_saved v_isSaved v_line v_lined v_text v_length v_at v_order v_told v_error v_reason v_detail v_answer (nI 0) v_mixed v_conflicts v_firstConflict] : List va_W)) (gc := ([gX9 E a v_now v_tried v_kept v_undos v_saved v_isSaved v_line v_lined v_text v_length v_at v_order v_told v_error v_reason v_detail v_answer (nI 0) v_mixed v_conflicts v_firstConflict] : List va_W)) ⟨hx, hb, hml, hown, hts⟩ (c9_top l E a  (x1) (v_now) (v_tried) (v_kept) (v_undos) (v_saved) (v_isSaved) (v_line) (v_lined) (v_text) (v_length) (v_at) (v_order) (v_told) (v_error) (v_reason) (v_detail) (v_answer) ((nI 0)) (v_mixed) (v_conflicts) (v_firstConflict) r10 hr11) (cwV 1 hts (ws_v q1288 q1290 q20 q68 q1291) rfl rfl rfl hdV_X9_top (by rw [hR]; exact ⟨Nat.le_of_ble_eq_true rfl, Nat.le_of_ble_eq_true rfl⟩)) hK hN hP hD [0] rfl (by decide) 0 9 rfl rfl rfl rfl hl.1 rfl (Nat.le_of_ble_eq_true rfl) dX9_conflicts_30 (by rw [hR]; exact ⟨Nat.le_of_ble_eq_true rfl, Nat.le_of_ble_eq_true rfl⟩) ?_
      refine W.eq (g2 := F0 m 33 ls [.int r10, .ref (a 0)]) rfl ?_
      refine lv_aload_n hx hb dX9_conflicts_33 rfl (lv_at hl 0 rfl) ?_
      refine lv_iload_n hx hb dX9_conflicts_34 rfl (lv_at hl 2 rfl) ?_
      obtain ⟨r12, hr13, h⟩ := ob h
      refine px_Vp (As := [.int x2]) (rest := [.int r10, .ref (a 0)]) (gs := ([gX9 E a v_now v_tried v_kept v_undos v_saved v_isSaved v_line v_lined v_text v_length v_at v_order v_told v_error v_reason v_detail v_answer (nI 0) v_mixed v_conflicts v_firstConflict] : List va_W)) (gc := ([gX9 E a v_now v_tried v_kept v_undos v_saved v_isSaved v_line v_lined v_text v_length v_at v_order v_told v_error v_reason v_detail v_answer (nI 0) v_mixed v_conflicts v_firstConflict] : List va_W)) ⟨hx, hb, hml, hown, hts⟩ (c9_top l E a  (x2) (v_now) (v_tried) (v_kept) (v_undos) (v_saved) (v_isSaved) (v_line) (v_lined) (v_text) (v_length) (v_at) (v_order) (v_told) (v_error) (v_reason) (v_detail) (v_answer) ((nI 0)) (v_mixed) (v_conflicts) (v_firstConflict) r12 hr13) (cwV 1 hts (ws_v q1288 q1290 q20 q68 q1291) rfl rfl rfl hdV_X9_top (by rw [hR]; exact ⟨Nat.le_of_ble_eq_true rfl, Nat.le_of_ble_eq_true rfl⟩)) hK hN hP hD [0] rfl (by decide) 0 9 rfl rfl rfl rfl hl.1 rfl (Nat.le_of_ble_eq_true rfl) dX9_conflicts_35 (by rw [hR]; exact ⟨Nat.le_of_ble_eq_true rfl, Nat.le_of_ble_eq_true rfl⟩) ?_
      refine W.eq (g2 := F0 m 38 ls [.int r12, .int r10, .ref (a 0)]) rfl ?_
      refine lv_aload_n hx hb dX9_conflicts_38 rfl (lv_at hl 0 rfl) ?_
      refine lv_aload_n hx hb dX9_conflicts_39 rfl (lv_at hl 0 rfl) ?_
      refine lv_iload_n hx hb dX9_conflicts_40 rfl (lv_at hl 1 rfl) ?_
      obtain ⟨r14, hr15, h⟩ := ob h
      refine px_Vp (As := [.int x1]) (rest := [.ref (a 0), .int r12, .int r10, .ref (a 0)]) (gs := ([gX9 E a v_now v_tried v_kept v_undos v_saved v_isSaved v_line v_lined v_text v_length v_at v_order v_told v_error v_reason v_detail v_answer (nI 0) v_mixed v_conflicts v_firstConflict] : List va_W)) (gc := ([gX9 E a v_now v_tried v_kept v_undos v_saved v_isSaved v_line v_lined v_text v_length v_at v_order v_told v_error v_reason v_detail v_answer (nI 0) v_mixed v_conflicts v_firstConflict] : List va_W)) ⟨hx, hb, hml, hown, hts⟩ (c9_top l E a  (x1) (v_now) (v_tried) (v_kept) (v_undos) (v_saved) (v_isSaved) (v_line) (v_lined) (v_text) (v_length) (v_at) (v_order) (v_told) (v_error) (v_reason) (v_detail) (v_answer) ((nI 0)) (v_mixed) (v_conflicts) (v_firstConflict) r14 hr15) (cwV 1 hts (ws_v q1288 q1290 q20 q68 q1291) rfl rfl rfl hdV_X9_top (by rw [hR]; exact ⟨Nat.le_of_ble_eq_true rfl, Nat.le_of_ble_eq_true rfl⟩)) hK hN hP hD [0] rfl (by decide) 0 9 rfl rfl rfl rfl hl.1 rfl (Nat.le_of_ble_eq_true rfl) dX9_conflicts_41 (by rw [hR]; exact ⟨Nat.le_of_ble_eq_true rfl, Nat.le_of_ble_eq_true rfl⟩) ?_
      refine W.eq (g2 := F0 m 44 ls [.int r14, .ref (a 0), .int r12, .int r10, .ref (a 0)]) rfl ?_
      refine lv_aload_n hx hb dX9_conflicts_44 rfl (lv_at hl 0 rfl) ?_
      refine lv_iload_n hx hb dX9_conflicts_45 rfl (lv_at hl 2 rfl) ?_
      obtain ⟨r16, hr17, h⟩ := ob h
      refine px_Vp (As := [.int x2]) (rest := [.int r14, .ref (a 0), .int r12, .int r10, .ref (a 0)]) (gs := ([gX9 E a v_now v_tried v_kept v_undos v_saved v_isSaved v_line v_lined v_text v_length v_at v_order v_told v_error v_reason v_detail v_answer (nI 0) v_mixed v_conflicts v_firstConflict] : List va_W)) (gc := ([gX9 E a v_now v_tried v_kept v_undos v_saved v_isSaved v_line v_lined v_text v_length v_at v_order v_told v_error v_reason v_detail v_answer (nI 0) v_mixed v_conflicts v_firstConflict] : List va_W)) ⟨hx, hb, hml, hown, hts⟩ (c9_top l E a  (x2) (v_now) (v_tried) (v_kept) (v_undos) (v_saved) (v_isSaved) (v_line) (v_lined) (v_text) (v_length) (v_at) (v_order) (v_told) (v_error) (v_reason) (v_detail) (v_answer) ((nI 0)) (v_mixed) (v_conflicts) (v_firstConflict) r16 hr17) (cwV 1 hts (ws_v q1288 q1290 q20 q68 q1291) rfl rfl rfl hdV_X9_top (by rw [hR]; exact ⟨Nat.le_of_ble_eq_true rfl, Nat.le_of_ble_eq_true rfl⟩)) hK hN hP hD [0] rfl (by decide) 0 9 rfl rfl rfl rfl hl.1 rfl (Nat.le_of_ble_eq_true rfl) dX9_conflicts_46 (by rw [hR]; exact ⟨Nat.le_of_ble_eq_true rfl, Nat.le_of_ble_eq_true rfl⟩) ?_
      refine W.eq (g2 := F0 m 49 ls [.int r16, .int r14, .ref (a 0), .int r12, .int r10, .ref (a 0)]) rfl ?_
      obtain ⟨r18, hr19, h⟩ := ob h
      refine px_Vp (As := [.int r14, .int r16]) (rest := [.int r12, .int r10, .ref (a 0)]) (gs := ([gX9 E a v_now v_tried v_kept v_undos v_saved v_isSaved v_line v_lined v_text v_length v_at v_order v_told v_error v_reason v_detail v_answer (nI 0) v_mixed v_conflicts v_firstConflict] : List va_W)) (gc := ([gX9 E a v_now v_tried v_kept v_undos v_saved v_isSaved v_line v_lined v_text v_length v_at v_order v_told v_error v_reason v_detail v_answer (nI 0) v_mixed v_conflicts v_firstConflict] : List va_W)) ⟨hx, hb, hml, hown, hts⟩ (c9_common l E a  (r14) (r16) (v_now) (v_tried) (v_kept) (v_undos) (v_saved) (v_isSaved) (v_line) (v_lined) (v_text) (v_length) (v_at) (v_order) (v_told) (v_error) (v_reason) (v_detail) (v_answer) ((nI 0)) (v_mixed) (v_conflicts) (v_firstConflict) r18 hr19) (cwV 2 hts (ws_v q1386 q1388 q38 q68 q1389) rfl rfl rfl hdV_X9_common (by rw [hR]; exact ⟨Nat.le_of_ble_eq_true rfl, Nat.le_of_ble_eq_true rfl⟩)) hK hN hP hD [0] rfl (by decide) 0 9 rfl rfl rfl rfl hl.1 rfl (Nat.le_of_ble_eq_true rfl) dX9_conflicts_49 (by rw [hR]; exact ⟨Nat.le_of_ble_eq_true rfl, Nat.le_of_ble_eq_true rfl⟩) ?_
      refine W.eq (g2 := F0 m 52 ls [.int r18, .int r12, .int r10, .ref (a 0)]) rfl ?_
      refine lv_iconst (v := (nI 1)) hx hb dX9_conflicts_52 (by decide) ?_
      obtain ⟨⟨w20, w21, w22⟩, hr23, h⟩ := ob h
      dsimp only at h
      refine px_V (As := [.int r10, .int r12, .int r18, .int (nI 1)]) (rest := []) (gs := ([gX9 E a v_now v_tried v_kept v_undos v_saved v_isSaved v_line v_lined v_text v_length v_at v_order v_told v_error v_reason v_detail v_answer (nI 0) v_mixed v_conflicts v_firstConflict] : List va_W)) (gr := ([] : List va_W)) (gc := ([gX9 E a v_now v_tried v_kept v_undos v_saved v_isSaved v_line v_lined v_text v_length v_at v_order v_told v_error v_reason v_detail v_answer (nI 0) v_mixed v_conflicts v_firstConflict] : List va_W)) (g1 := ([gX9 E a v_now v_tried v_kept v_undos v_saved v_isSaved v_line v_lined v_text v_length v_at v_order v_told v_error v_reason v_detail v_answer (nI 0) w20 w21 w22] : List va_W)) (g2 := ([gX9 E a v_now v_tried v_kept v_undos v_saved v_isSaved v_line v_lined v_text v_length v_at v_order v_told v_error v_reason v_detail v_answer (nI 0) w20 w21 w22] : List va_W)) ⟨hx, hb, hml, hown, hts⟩ (c9_mixes l E a  (r10) (r12) (r18) ((nI 1)) (v_now) (v_tried) (v_kept) (v_undos) (v_saved) (v_isSaved) (v_line) (v_lined) (v_text) (v_length) (v_at) (v_order) (v_told) (v_error) (v_reason) (v_detail) (v_answer) ((nI 0)) (v_mixed) (v_conflicts) (v_firstConflict) w20 w21 w22 hr23) (cwV 4 hts (ws_v q1390 q1392 q39 q68 q1393) rfl rfl rfl hdV_X9_mixes (by rw [hR]; exact ⟨Nat.le_of_ble_eq_true rfl, Nat.le_of_ble_eq_true rfl⟩)) hK hN hP hD hS hA [] [0] [0] rfl rfl (by decide) (by decide) rfl (by decide) 0 9 rfl rfl rfl rfl hl.1 rfl (Nat.le_of_ble_eq_true rfl) dX9_conflicts_53 (by rw [hR]; exact ⟨Nat.le_of_ble_eq_true rfl, Nat.le_of_ble_eq_true rfl⟩) (fun H locs hP hD hS => ?_)
      refine W.eq (g2 := F0 m 56 ls []) rfl ?_
      refine lv_aload_n hx hb dX9_conflicts_56 rfl (lv_at hl 0 rfl) ?_
      refine va_get (D := E.1) (ci := 9) (v := .int w21) (C := RX9) (T := TX9) (N := 21) hx hb hts iX9 hown hK hP 0 rfl rfl 19 (by decide) (hts _ q1217) (fun _ h9 => h9) rfl dX9_conflicts_57 ?_
      cases h
      exact px_eWi hA0 hQ hP hD hS hx hb hr hlocks dX9_conflicts_60
    · rw [if_pos c9] at h
      refine lv_aload_n hx hb dX9_conflicts_21 rfl (lv_at hl 0 rfl) ?_
      refine lv_iconst (v := (nI 1)) hx hb dX9_conflicts_22 (by decide) ?_
      obtain ⟨⟨r24, w25⟩, hr26, h⟩ := ob h
      dsimp only at h
      refine px_V (As := [.int (nI 1)]) (rest := []) (gs := ([gX9 E a v_now v_tried v_kept v_undos v_saved v_isSaved v_line v_lined v_text v_length v_at v_order v_told v_error v_reason v_detail v_answer (nI 0) v_mixed v_conflicts v_firstConflict] : List va_W)) (gr := ([] : List va_W)) (gc := ([gX9 E a v_now v_tried v_kept v_undos v_saved v_isSaved v_line v_lined v_text v_length v_at v_order v_told v_error v_reason v_detail v_answer (nI 0) v_mixed v_conflicts v_firstConflict] : List va_W)) (g1 := ([gX9 E a v_now v_tried v_kept v_undos v_saved v_isSaved v_line v_lined v_text v_length v_at v_order v_told v_error v_reason v_detail v_answer w25 v_mixed v_conflicts v_firstConflict] : List va_W)) (g2 := ([gX9 E a v_now v_tried v_kept v_undos v_saved v_isSaved v_line v_lined v_text v_length v_at v_order v_told v_error v_reason v_detail v_answer w25 v_mixed v_conflicts v_firstConflict] : List va_W)) ⟨hx, hb, hml, hown, hts⟩ (c9_raises l E a  ((nI 1)) (v_now) (v_tried) (v_kept) (v_undos) (v_saved) (v_isSaved) (v_line) (v_lined) (v_text) (v_length) (v_at) (v_order) (v_told) (v_error) (v_reason) (v_detail) (v_answer) ((nI 0)) (v_mixed) (v_conflicts) (v_firstConflict) r24 w25 hr26) (cwV 1 hts (ws_v q1320 q1322 q28 q68 q1323) rfl rfl rfl hdV_X9_raises (by rw [hR]; exact ⟨Nat.le_of_ble_eq_true rfl, Nat.le_of_ble_eq_true rfl⟩)) hK hN hP hD hS hA [] [0] [0] rfl rfl (by decide) (by decide) rfl (by decide) 0 9 rfl rfl rfl rfl hl.1 rfl (Nat.le_of_ble_eq_true rfl) dX9_conflicts_23 (by rw [hR]; exact ⟨Nat.le_of_ble_eq_true rfl, Nat.le_of_ble_eq_true rfl⟩) (fun H locs hP hD hS => ?_)
      refine W.eq (g2 := F0 m 26 ls [.int r24]) rfl ?_
      cases h
      exact px_eWi hA0 hQ hP hD hS hx hb hr hlocks dX9_conflicts_26
