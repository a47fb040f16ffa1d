def f9_isOrder  (v_text : AI) (v_length : Int32) (v_at : Int32) (v_order : Int32) (v_told : AI) : Option (Bool × Int32 × Int32 × AI) := (if v_at = v_length then (some (false, v_at, v_order, v_told)) else (if inb v_at 60 = true then (lt (v_text (v_at).toNatClampNeg) fun u3 => (if (ch u3) = nI 101 then (lt (v_at + (nI 1)) fun u6 => ((f9_digits ((nI 0)) ((nI 1)) (v_text) (v_length) (u6) (v_told)).bind fun (r8, w9, w10) => (if (b2i r8) = 0 then (some (false, w9, u3, w10)) else ((f9_sign ((nI 46)) (v_text) (v_length) (w9)).bind fun (r13, w14) => (if (b2i r13) = 0 then (some (false, w14, u3, w10)) else ((f9_digits ((nI 1)) ((nI 1)) (v_text) (v_length) (w14) (w10)).bind fun (r17, w18, w19) => (if (b2i r17) = 0 then (some (false, w18, u3, w19)) else ((f9_sign ((nI 61)) (v_text) (v_length) (w18)).bind fun (r22, w23) => (if (b2i r22) = 0 then (some (false, w23, u3, w19)) else ((f9_digits ((nI 2)) ((nI 2)) (v_text) (v_length) (w23) (w19)).bind fun (r26, w27, w28) => (if (b2i r26) = 0 then (some (false, w27, u3, w28)) else (some (true, w27, u3, w28))))))))))))) else (if (ch u3) = nI 102 then (lt (v_at + (nI 1)) fun u32 => ((f9_digits ((nI 0)) ((nI 1)) (v_text) (v_length) (u32) (v_told)).bind fun (r34, w35, w36) => (some (r34, w35, u3, w36)))) else (if (ch u3) = nI 109 then (lt (v_at + (nI 1)) fun u39 => ((f9_digits ((nI 0)) ((nI 1)) (v_text) (v_length) (u39) (v_told)).bind fun (r41, w42, w43) => (if (b2i r41) = 0 then (some (false, w42, u3, w43)) else ((f9_sign ((nI 60)) (v_text) (v_length) (w42)).bind fun (r46, w47) => (if (b2i r46) = 0 then (some (false, w47, u3, w43)) else ((f9_digits ((nI 1)) ((nI 1)) (v_text) (v_length) (w47) (w43)).bind fun (r50, w51, w52) => (if (b2i r50) = 0 then (some (false, w51, u3, w52)) else ((f9_sign ((nI 33)) (v_text) (v_length) (w51)).bind fun (r55, w56) => (if (b2i r55) = 0 then (some (false, w56, u3, w52)) else ((f9_digits ((nI 2)) ((nI 1)) (v_text) (v_length) (w56) (w52)).bind fun (r59, w60, w61) => (if (b2i r59) = 0 then (some (false, w60, u3, w61)) else (some (true, w60, u3, w61))))))))))))) else (if (ch u3) = nI 112 then (lt (v_at + (nI 1)) fun u65 => ((f9_digits ((nI 0)) ((nI 1)) (v_text) (v_length) (u65) (v_told)).bind fun (r67, w68, w69) => (if (b2i r67) = 0 then (some (false, w68, u3, w69)) else ((f9_sign ((nI 60)) (v_text) (v_length) (w68)).bind fun (r72, w73) => (if (b2i r72) = 0 then (some (false, w73, u3, w69)) else ((f9_digits ((nI 1)) ((nI 2)) (v_text) (v_length) (w73) (w69)).bind fun (r76, w77, w78) => (if (b2i r76) = 0 then (some (false, w77, u3, w78)) else ((f9_sign ((nI 33)) (v_text) (v_length) (w77)).bind fun (r81, w82) => (if (b2i r81) = 0 then (some (false, w82, u3, w78)) else ((f9_digits ((nI 2)) ((nI 1)) (v_text) (v_length) (w82) (w78)).bind fun (r85, w86, w87) => (if (b2i r85) = 0 then (some (false, w86, u3, w87)) else (some (true, w86, u3, w87))))))))))))) else (if (ch u3) = nI 114 then (lt (v_at + (nI 1)) fun u91 => ((f9_digits ((nI 0)) ((nI 1)) (v_text) (v_length) (u91) (v_told)).bind fun (r93, w94, w95) => (if (b2i r93) = 0 then (some (false, w94, u3, w95)) else ((f9_sign ((nI 61)) (v_text) (v_length) (w94)).bind fun (r98, w99) => (if (b2i r98) = 0 then (some (false, w99, u3, w95)) else ((f9_digits ((nI 1)) ((nI 2)) (v_text) (v_length) (w99) (w95)).bind fun (r102, w103, w104) => (if (b2i r102) = 0 then (some (false, w103, u3, w104)) else (some (true, w103, u3, w104))))))))) else (if (ch u3) = nI 118 then (lt (v_at + (nI 1)) fun u108 => ((f9_digits ((nI 0)) ((nI 1)) (v_text) (v_length) (u108) (v_told)).bind fun (r110, w111, w112) => (if (b2i r110) = 0 then (some (false, w111, u3, w112)) else ((f9_sign ((nI 60)) (v_text) (v_length) (w111)).bind fun (r115, w116) => (if (b2i r115) = 0 then (some (false, w116, u3, w112)) else ((f9_digits ((nI 1)) ((nI 2)) (v_text) (v_length) (w116) (w112)).bind fun (r119, w120, w121) => (if (b2i r119) = 0 then (some (false, w120, u3, w121)) else ((f9_sign ((nI 33)) (v_text) (v_length) (w120)).bind fun (r124, w125) => (if (b2i r124) = 0 then (some (false, w125, u3, w121)) else ((f9_digits ((nI 2)) ((nI 1)) (v_text) (v_length) (w125) (w121)).bind fun (r128, w129, w130) => (if (b2i r128) = 0 then (some (false, w129, u3, w130)) else (some (true, w129, u3, w130))))))))))))) else (some (false, v_at, u3, v_told))))))))) else none))
set_option maxHeartbeats 4000000 in
set_option maxRecDepth 100000 in
theorem c9_isOrder (l : Launch) (E : PE) (a : Nat → Nat)   (v_now : AI) (v_tried : AI) (v_kept : AI) (v_undos : Int32) (v_saved : AI) (v_isSaved : Int32) (v_line : AI) (v_lined : Int32) (v_text : AI) (v_length : Int32) (v_at : Int32) (v_order : Int32) (v_told : AI) (v_error : Int32) (v_reason : Int32) (v_detail : Int32) (v_answer : Int32) (v_thrown : Int32) (v_mixed : AI) (v_conflicts : Int32) (v_firstConflict : Int32) (r : Bool) (z_this_at : Int32) (z_this_order : Int32) (z_this_told : AI) (h : f9_isOrder v_text v_length v_at v_order v_told = some (r, z_this_at, z_this_order, z_this_told)) : MW l yX9_isOrder cX9_isOrder 1 (some .boolean) { frames := 2, cells := 0, slots := 0, locals := 45 } E [.ref (a 0)] ([gX9 E a v_now v_tried v_kept v_undos v_saved v_isSaved v_line v_lined v_text v_length v_at v_order v_told v_error v_reason v_detail v_answer v_thrown v_mixed v_conflicts v_firstConflict] : List va_W).flatten 0 0 (some (.int (b2i r))) ([gX9 E a v_now v_tried v_kept v_undos v_saved v_isSaved v_line v_lined v_text v_length z_this_at z_this_order z_this_told v_error v_reason v_detail v_answer v_thrown v_mixed v_conflicts v_firstConflict] : List va_W).flatten := by
  refine px_startW (by decide +kernel) (Nat.le_of_ble_eq_true rfl) ?_
  intro p e s m args below meth c R Q A ls hC hA0 hQ
  obtain ⟨hx, hb, hr, hml, hts, hown, hlocks, hR, hK, hN, hP, hD, hA, hl, hin⟩ := hC
  have hl : lv_has ls 1 [(0, .ref (a 0))] := hl
  suffices key : ∀ (H : Heap) (locs : List Loc), va_P E.1 vwCl ([gX9 E a v_now v_tried v_kept v_undos v_saved v_isSaved v_line v_lined v_text v_length v_at v_order v_told v_error v_reason v_detail v_answer v_thrown v_mixed v_conflicts v_firstConflict] : List va_W).flatten H → va_S A s.heap H locs → W p l e R s m args below meth c H locs 0 0 Q (F0 m 0 ls []) from key s.heap [] hP va_S.rf
  unfold f9_isOrder at h
  intro H locs hP hS
  refine lv_aload_n hx hb dX9_isOrder_0 rfl (lv_at hl 0 rfl) ?_
  refine va_get (D := E.1) (ci := 9) (v := .int v_at) (C := RX9) (T := TX9) (N := 21) hx hb hts iX9 hown hK hP 0 rfl rfl 10 (by decide) (hts _ q1208) (fun _ h9 => h9) rfl dX9_isOrder_1 ?_
  refine lv_aload_n hx hb dX9_isOrder_4 rfl (lv_at hl 0 rfl) ?_
  refine va_get (D := E.1) (ci := 9) (v := .int v_length) (C := RX9) (T := TX9) (N := 21) hx hb hts iX9 hown hK hP 0 rfl rfl 9 (by decide) (hts _ q1207) (fun _ h9 => h9) rfl dX9_isOrder_5 ?_
  refine lv_icmp_ne (tgt := 13) hx hb dX9_isOrder_8 (by decide) (fun c1 => ?_) (fun c1 => ?_)
  · rw [if_neg c1] at h
    refine lv_aload_n hx hb dX9_isOrder_13 rfl (lv_at hl 0 rfl) ?_
    refine lv_aload_n hx hb dX9_isOrder_14 rfl (lv_at hl 0 rfl) ?_
    refine va_get (D := E.1) (ci := 9) (v := .ref (a 6)) (C := RX9) (T := TX9) (N := 21) hx hb hts iX9 hown hK hP 0 rfl rfl 8 (by decide) (hts _ q1206) (fun _ h9 => h9) rfl dX9_isOrder_15 ?_
    refine lv_aload_n hx hb dX9_isOrder_18 rfl (lv_at hl 0 rfl) ?_
    refine va_get (D := E.1) (ci := 9) (v := .int v_at) (C := RX9) (T := TX9) (N := 21) hx hb hts iX9 hown hK hP 0 rfl rfl 10 (by decide) (hts _ q1208) (fun _ h9 => h9) rfl dX9_isOrder_19 ?_
    obtain ⟨i2, h⟩ := o_t h
    refine va_cald (f := fun j => ch (v_text j)) hx hb hK hP 6 1 rfl rfl (inb_in i2) dX9_isOrder_22 ?_
    refine W.eq (g2 := F0 m 23 ls [.int (ch (v_text (v_at).toNatClampNeg)), .ref (a 0)]) rfl ?_
    refine va_put (D := E.1) (ci := 9) (v := .int (ch (v_text (v_at).toNatClampNeg))) (ty := .char) (C := RX9) (T := TX9) (N := 21) hx hb hts iX9 tyX9 tyX9_ok nmX9 hown hK hP hD hS 0 rfl rfl 11 (by decide) (hts _ q1209) (fun _ h9 => h9) rfl (tyX9_ok 11 (by decide)) (ch_n _) (ch_f _) (Nat.le_of_ble_eq_true rfl) dX9_isOrder_23 (fun H locs hP hD hS => ?_)
    have hP : va_P E.1 vwCl ([gX9 E a v_now v_tried v_kept v_undos v_saved v_isSaved v_line v_lined v_text v_length v_at (v_text (v_at).toNatClampNeg) v_told v_error v_reason v_detail v_answer v_thrown v_mixed v_conflicts v_firstConflict] : List va_W).flatten H := hP
    have hD : va_D A ([gX9 E a v_now v_tried v_kept v_undos v_saved v_isSaved v_line v_lined v_text v_length v_at (v_text (v_at).toNatClampNeg) v_told v_error v_reason v_detail v_answer v_thrown v_mixed v_conflicts v_firstConflict] : List va_W).flatten := hD
    obtain ⟨u3, e4, h⟩ := lt_e h
    rw [← e4] at hP hD
    refine lv_aload_n hx hb dX9_isOrder_26 rfl (lv_at hl 0 rfl) ?_
    refine va_get (D := E.1) (ci := 9) (v := .int (ch u3)) (C := RX9) (T := TX9) (N := 21) hx hb hts iX9 hown hK hP 0 rfl rfl 11 (by decide) (hts _ q1209) (fun _ h9 => h9) rfl dX9_isOrder_27 ?_
    by_cases c5 : (ch u3) = nI 101
    · rw [if_pos c5] at h
      refine lv_tableIn (off := 86) (tgt := 116) hx hb dX9_isOrder_30 (by rw [c5]; decide) (by rw [c5]; decide) (by rw [c5]; rfl) (by decide) ?_
      refine lv_aload_n hx hb dX9_isOrder_116 rfl (lv_at hl 0 rfl) ?_
      refine lv_dup hx hb dX9_isOrder_117 rfl ?_
      refine va_get (D := E.1) (ci := 9) (v := .int v_at) (C := RX9) (T := TX9) (N := 21) hx hb hts iX9 hown hK hP 0 rfl rfl 10 (by decide) (hts _ q1208) (fun _ h9 => h9) rfl dX9_isOrder_118 ?_
      refine lv_iconst (v := (nI 1)) hx hb dX9_isOrder_121 (by decide) ?_
      refine lv_iadd hx hb dX9_isOrder_122 ?_
      refine va_put (D := E.1) (ci := 9) (v := .int (v_at + (nI 1))) (ty := .int) (C := RX9) (T := TX9) (N := 21) hx hb hts iX9 tyX9 tyX9_ok nmX9 hown hK hP hD hS 0 rfl rfl 10 (by decide) (hts _ q1208) (fun _ h9 => h9) rfl (tyX9_ok 10 (by decide)) rfl rfl (Nat.le_of_ble_eq_true rfl) dX9_isOrder_123 (fun H locs hP hD hS => ?_)
      have hP : va_P E.1 vwCl ([gX9 E a v_now v_tried v_kept v_undos v_saved v_isSaved v_line v_lined v_text v_length (v_at + (nI 1)) u3 v_told v_error v_reason v_detail v_answer v_thrown v_mixed v_conflicts v_firstConflict] : List va_W).flatten H := hP
      have hD : va_D A ([gX9 E a v_now v_tried v_kept v_undos v_saved v_isSaved v_line v_lined v_text v_length (v_at + (nI 1)) u3 v_told v_error v_reason v_detail v_answer v_thrown v_mixed v_conflicts v_firstConflict] : List va_W).flatten := hD
      obtain ⟨u6, e7, h⟩ := lt_e h
      rw [← e7] at hP hD
      refine lv_aload_n hx hb dX9_isOrder_126 rfl (lv_at hl 0 rfl) ?_
      refine lv_iconst (v := (nI 0)) hx hb dX9_isOrder_127 (by decide) ?_
      refine lv_iconst (v := (nI 1)) hx hb dX9_isOrder_128 (by decide) ?_
      obtain ⟨⟨r8, w9, w10⟩, hr11, h⟩ := ob h
      dsimp only at h
      refine px_V (As := [.int (nI 0), .int (nI 1)]) (rest := []) (gs := ([gX9 E a v_now v_tried v_kept v_undos v_saved v_isSaved v_line v_lined v_text v_length u6 u3 v_told v_error v_reason v_detail v_answer v_thrown v_mixed v_conflicts v_firstConflict] : List va_W)) (gr := ([] : List va_W)) (gc := ([gX9 E a v_now v_tried v_kept v_undos v_saved v_isSaved v_line v_lined v_text v_length u6 u3 v_told v_error v_reason v_detail v_answer v_thrown v_mixed v_conflicts v_firstConflict] : List va_W)) (g1 := ([gX9 E a v_now v_tried v_kept v_undos v_saved v_isSaved v_line v_lined v_text v_length w9 u3 w10 v_error v_reason v_detail v_answer v_thrown v_mixed v_conflicts v_firstConflict] : List va_W)) (g2 := ([gX9 E a v_now v_tried v_kept v_undos v_saved v_isSaved v_line v_lined v_text v_length w9 u3 w10 v_error v_reason v_detail v_answer v_thrown v_mixed v_conflicts v_firstConflict] : List va_W)) ⟨hx, hb, hml, hown, hts⟩ (c9_digits l E a  ((nI 0)) ((nI 1)) (v_now) (v_tried) (v_kept) (v_undos) (v_saved) (v_isSaved) (v_line) (v_lined) (v_text) (v_length) (u6) (u3) (v_told) (v_error) (v_reason) (v_detail) (v_answer) (v_thrown) (v_mixed) (v_conflicts) (v_firstConflict) r8 w9 w10 hr11) (cwV 2 hts (ws_v q1553 q1555 q54 q68 q1556) rfl rfl rfl hdV_X9_digits (by rw [hR]; exact ⟨Nat.le_of_ble_eq_true rfl, Nat.le_of_ble_eq_true rfl⟩)) hK hN hP hD hS hA [] [0] [0] rfl rfl (by decide) (by decide) rfl (by decide) 0 9 rfl rfl rfl rfl hl.1 rfl (Nat.le_of_ble_eq_true rfl) dX9_isOrder_129 (by rw [hR]; exact ⟨Nat.le_of_ble_eq_true rfl, Nat.le_of_ble_eq_true rfl⟩) (fun H locs hP hD hS => ?_)
      refine W.eq (g2 := F0 m 132 ls [.int (b2i r8)]) rfl ?_
      refine lv_if_eq (tgt := 175) hx hb dX9_isOrder_132 (by decide) (fun c12 => ?_) (fun c12 => ?_)
      · rw [if_pos c12] at h
        refine lv_iconst (v := (nI 0)) hx hb dX9_isOrder_175 (by decide) ?_
        cases h
        refine W.eq (g2 := F0 m 176 ls [.int (b2i false)]) rfl ?_
        exact px_eWz (b2i_n _) hA0 hQ hP hD hS hx hb hr hlocks dX9_isOrder_176
      · rw [if_neg c12] at h
        refine lv_aload_n hx hb dX9_isOrder_135 rfl (lv_at hl 0 rfl) ?_
        refine lv_bipush (v := (nI 46)) hx hb dX9_isOrder_136 (by decide) ?_
        obtain ⟨⟨r13, w14⟩, hr15, h⟩ := ob h
        dsimp only at h
        refine px_V (As := [.int (ch (nI 46))]) (rest := []) (gs := ([gX9 E a v_now v_tried v_kept v_undos v_saved v_isSaved v_line v_lined v_text v_length w9 u3 w10 v_error v_reason v_detail v_answer v_thrown v_mixed v_conflicts v_firstConflict] : List va_W)) (gr := ([] : List va_W)) (gc := ([gX9 E a v_now v_tried v_kept v_undos v_saved v_isSaved v_line v_lined v_text v_length w9 u3 w10 v_error v_reason v_detail v_answer v_thrown v_mixed v_conflicts v_firstConflict] : List va_W)) (g1 := ([gX9 E a v_now v_tried v_kept v_undos v_saved v_isSaved v_line v_lined v_text v_length w14 u3 w10 v_error v_reason v_detail v_answer v_thrown v_mixed v_conflicts v_firstConflict] : List va_W)) (g2 := ([gX9 E a v_now v_tried v_kept v_undos v_saved v_isSaved v_line v_lined v_text v_length w14 u3 w10 v_error v_reason v_detail v_answer v_thrown v_mixed v_conflicts v_firstConflict] : List va_W)) ⟨hx, hb, hml, hown, hts⟩ (c9_sign l E a  ((nI 46)) (v_now) (v_tried) (v_kept) (v_undos) (v_saved) (v_isSaved) (v_line) (v_lined) (v_text) (v_length) (w9) (u3) (w10) (v_error) (v_reason) (v_detail) (v_answer) (v_thrown) (v_mixed) (v_conflicts) (v_firstConflict) r13 w14 hr15) (cwV 1 hts (ws_v q1557 q1559 q55 q68 q1560) rfl rfl rfl hdV_X9_sign (by rw [hR]; exact ⟨Nat.le_of_ble_eq_true rfl, Nat.le_of_ble_eq_true rfl⟩)) hK hN hP hD hS hA [] [0] [0] rfl rfl (by decide) (by decide) rfl (by decide) 0 9 rfl rfl rfl rfl hl.1 rfl (Nat.le_of_ble_eq_true rfl) dX9_isOrder_138 (by rw [hR]; exact ⟨Nat.le_of_ble_eq_true rfl, Nat.le_of_ble_eq_true rfl⟩) (fun H locs hP hD hS => ?_)
        refine W.eq (g2 := F0 m 141 ls [.int (b2i r13)]) rfl ?_
        refine lv_if_eq (tgt := 175) hx hb dX9_isOrder_141 (by decide) (fun c16 => ?_) (fun c16 => ?_)
        · rw [if_pos c16] at h
          refine lv_iconst (v := (nI 0)) hx hb dX9_isOrder_175 (by decide) ?_
          cases h
          refine W.eq (g2 := F0 m 176 ls [.int (b2i false)]) rfl ?_
          exact px_eWz (b2i_n _) hA0 hQ hP hD hS hx hb hr hlocks dX9_isOrder_176
        · rw [if_neg c16] at h
          refine lv_aload_n hx hb dX9_isOrder_144 rfl (lv_at hl 0 rfl) ?_
          refine lv_iconst (v := (nI 1)) hx hb dX9_isOrder_145 (by decide) ?_
          refine lv_iconst (v := (nI 1)) hx hb dX9_isOrder_146 (by decide) ?_
          obtain ⟨⟨r17, w18, w19⟩, hr20, h⟩ := ob h
          dsimp only at h
          refine px_V (As := [.int (nI 1), .int (nI 1)]) (rest := []) (gs := ([gX9 E a v_now v_tried v_kept v_undos v_saved v_isSaved v_line v_lined v_text v_length w14 u3 w10 v_error v_reason v_detail v_answer v_thrown v_mixed v_conflicts v_firstConflict] : List va_W)) (gr := ([] : List va_W)) (gc := ([gX9 E a v_now v_tried v_kept v_undos v_saved v_isSaved v_line v_lined v_text v_length w14 u3 w10 v_error v_reason v_detail v_answer v_thrown v_mixed v_conflicts v_firstConflict] : List va_W)) (g1 := ([gX9 E a v_now v_tried v_kept v_undos v_saved v_isSaved v_line v_lined v_text v_length w18 u3 w19 v_error v_reason v_detail v_answer v_thrown v_mixed v_conflicts v_firstConflict] : List va_W)) (g2 := ([gX9 E a v_now v_tried v_kept v_undos v_saved v_isSaved v_line v_lined v_text v_length w18 u3 w19 v_error v_reason v_detail v_answer v_thrown v_mixed v_conflicts v_firstConflict] : List va_W)) ⟨hx, hb, hml, hown, hts⟩ (c9_digits l E a  ((nI 1)) ((nI 1)) (v_now) (v_tried) (v_kept) (v_undos) (v_saved) (v_isSaved) (v_line) (v_lined) (v_text) (v_length) (w14) (u3) (w10) (v_error) (v_reason) (v_detail) (v_answer) (v_thrown) (v_mixed) (v_conflicts) (v_firstConflict) r17 w18 w19 hr20) (cwV 2 hts (ws_v q1553 q1555 q54 q68 q1556) rfl rfl rfl hdV_X9_digits (by rw [hR]; exact ⟨Nat.le_of_ble_eq_true rfl, Nat.le_of_ble_eq_true rfl⟩)) hK hN hP hD hS hA [] [0] [0] rfl rfl (by decide) (by decide) rfl (by decide) 0 9 rfl rfl rfl rfl hl.1 rfl (Nat.le_of_ble_eq_true rfl) dX9_isOrder_147 (by rw [hR]; exact ⟨Nat.le_of_ble_eq_true rfl, Nat.le_of_ble_eq_true rfl⟩) (fun H locs hP hD hS => ?_)
          refine W.eq (g2 := F0 m 150 ls [.int (b2i r17)]) rfl ?_
          refine lv_if_eq (tgt := 175) hx hb dX9_isOrder_150 (by decide) (fun c21 => ?_) (fun c21 => ?_)
          · rw [if_pos c21] at h
            refine lv_iconst (v := (nI 0)) hx hb dX9_isOrder_175 (by decide) ?_
            cases h
            refine W.eq (g2 := F0 m 176 ls [.int (b2i false)]) rfl ?_
            exact px_eWz (b2i_n _) hA0 hQ hP hD hS hx hb hr hlocks dX9_isOrder_176
          · rw [if_neg c21] at h
            refine lv_aload_n hx hb dX9_isOrder_153 rfl (lv_at hl 0 rfl) ?_
            refine lv_bipush (v := (nI 61)) hx hb dX9_isOrder_154 (by decide) ?_
            obtain ⟨⟨r22, w23⟩, hr24, h⟩ := ob h
            dsimp only at h
            refine px_V (As := [.int (ch (nI 61))]) (rest := []) (gs := ([gX9 E a v_now v_tried v_kept v_undos v_saved v_isSaved v_line v_lined v_text v_length w18 u3 w19 v_error v_reason v_detail v_answer v_thrown v_mixed v_conflicts v_firstConflict] : List va_W)) (gr := ([] : List va_W)) (gc := ([gX9 E a v_now v_tried v_kept v_undos v_saved v_isSaved v_line v_lined v_text v_length w18 u3 w19 v_error v_reason v_detail v_answer v_thrown v_mixed v_conflicts v_firstConflict] : List va_W)) (g1 := ([gX9 E a v_now v_tried v_kept v_undos v_saved v_isSaved v_line v_lined v_text v_length w23 u3 w19 v_error v_reason v_detail v_answer v_thrown v_mixed v_conflicts v_firstConflict] : List va_W)) (g2 := ([gX9 E a v_now v_tried v_kept v_undos v_saved v_isSaved v_line v_lined v_text v_length w23 u3 w19 v_error v_reason v_detail v_answer v_thrown v_mixed v_conflicts v_firstConflict] : List va_W)) ⟨hx, hb, hml, hown, hts⟩ (c9_sign l E a  ((nI 61)) (v_now) (v_tried) (v_kept) (v_undos) (v_saved) (v_isSaved) (v_line) (v_lined) (v_text) (v_length) (w18) (u3) (w19) (v_error) (v_reason) (v_detail) (v_answer) (v_thrown) (v_mixed) (v_conflicts) (v_firstConflict) r22 w23 hr24) (cwV 1 hts (ws_v q1557 q1559 q55 q68 q1560) rfl rfl rfl hdV_X9_sign (by rw [hR]; exact ⟨Nat.le_of_ble_eq_true rfl, Nat.le_of_ble_eq_true rfl⟩)) hK hN hP hD hS hA [] [0] [0] rfl rfl (by decide) (by decide) rfl (by decide) 0 9 rfl rfl rfl rfl hl.1 rfl (Nat.le_of_ble_eq_true rfl) dX9_isOrder_156 (by rw [hR]; exact ⟨Nat.le_of_ble_eq_true rfl, Nat.le_of_ble_eq_true rfl⟩) (fun H locs hP hD hS => ?_)
            refine W.eq (g2 := F0 m 159 ls [.int (b2i r22)]) rfl ?_
            refine lv_if_eq (tgt := 175) hx hb dX9_isOrder_159 (by decide) (fun c25 => ?_) (fun c25 => ?_)
            · rw [if_pos c25] at h
              refine lv_iconst (v := (nI 0)) hx hb dX9_isOrder_175 (by decide) ?_
              cases h
              refine W.eq (g2 := F0 m 176 ls [.int (b2i false)]) rfl ?_
              exact px_eWz (b2i_n _) hA0 hQ hP hD hS hx hb hr hlocks dX9_isOrder_176
            · rw [if_neg c25] at h
              refine lv_aload_n hx hb dX9_isOrder_162 rfl (lv_at hl 0 rfl) ?_
              refine lv_iconst (v := (nI 2)) hx hb dX9_isOrder_163 (by decide) ?_
              refine lv_iconst (v := (nI 2)) hx hb dX9_isOrder_164 (by decide) ?_
              obtain ⟨⟨r26, w27, w28⟩, hr29, h⟩ := ob h
              dsimp only at h
              refine px_V (As := [.int (nI 2), .int (nI 2)]) (rest := []) (gs := ([gX9 E a v_now v_tried v_kept v_undos v_saved v_isSaved v_line v_lined v_text v_length w23 u3 w19 v_error v_reason v_detail v_answer v_thrown v_mixed v_conflicts v_firstConflict] : List va_W)) (gr := ([] : List va_W)) (gc := ([gX9 E a v_now v_tried v_kept v_undos v_saved v_isSaved v_line v_lined v_text v_length w23 u3 w19 v_error v_reason v_detail v_answer v_thrown v_mixed v_conflicts v_firstConflict] : List va_W)) (g1 := ([gX9 E a v_now v_tried v_kept v_undos v_saved v_isSaved v_line v_lined v_text v_length w27 u3 w28 v_error v_reason v_detail v_answer v_thrown v_mixed v_conflicts v_firstConflict] : List va_W)) (g2 := ([gX9 E a v_now v_tried v_kept v_undos v_saved v_isSaved v_line v_lined v_text v_length w27 u3 w28 v_error v_reason v_detail v_answer v_thrown v_mixed v_conflicts v_firstConflict] : List va_W)) ⟨hx, hb, hml, hown, hts⟩ (c9_digits l E a  ((nI 2)) ((nI 2)) (v_now) (v_tried) (v_kept) (v_undos) (v_saved) (v_isSaved) (v_line) (v_lined) (v_text) (v_length) (w23) (u3) (w19) (v_error) (v_reason) (v_detail) (v_answer) (v_thrown) (v_mixed) (v_conflicts) (v_firstConflict) r26 w27 w28 hr29) (cwV 2 hts (ws_v q1553 q1555 q54 q68 q1556) rfl rfl rfl hdV_X9_digits (by rw [hR]; exact ⟨Nat.le_of_ble_eq_true rfl, Nat.le_of_ble_eq_true rfl⟩)) hK hN hP hD hS hA [] [0] [0] rfl rfl (by decide) (by decide) rfl (by decide) 0 9 rfl rfl rfl rfl hl.1 rfl (Nat.le_of_ble_eq_true rfl) dX9_isOrder_165 (by rw [hR]; exact ⟨Nat.le_of_ble_eq_true rfl, Nat.le_of_ble_eq_true rfl⟩) (fun H locs hP hD hS => ?_)
              refine W.eq (g2 := F0 m 168 ls [.int (b2i r26)]) rfl ?_
              refine lv_if_eq (tgt := 175) hx hb dX9_isOrder_168 (by decide) (fun c30 => ?_) (fun c30 => ?_)
              · rw [if_pos c30] at h
                refine lv_iconst (v := (nI 0)) hx hb dX9_isOrder_175 (by decide) ?_
                cases h
                refine W.eq (g2 := F0 m 176 ls [.int (b2i false)]) rfl ?_
                exact px_eWz (b2i_n _) hA0 hQ hP hD hS hx hb hr hlocks dX9_isOrder_176
              · rw [if_neg c30] at h
                refine lv_iconst (v := (nI 1)) hx hb dX9_isOrder_171 (by decide) ?_
                refine lv_goto (tgt := 176) hx hb dX9_isOrder_172 (by decide) ?_
                cases h
                refine W.eq (g2 := F0 m 176 ls [.int (b2i true)]) rfl ?_
                exact px_eWz (b2i_n _) hA0 hQ hP hD hS hx hb hr hlocks dX9_isOrder_176
    · rw [if_neg c5] at h
      by_cases c31 : (ch u3) = nI 102
      · rw [if_pos c31] at h
        refine lv_tableIn (off := 147) (tgt := 177) hx hb dX9_isOrder_30 (by rw [c31]; decide) (by rw [c31]; decide) (by rw [c31]; rfl) (by decide) ?_
        refine lv_aload_n hx hb dX9_isOrder_177 rfl (lv_at hl 0 rfl) ?_
        refine lv_dup hx hb dX9_isOrder_178 rfl ?_
        refine va_get (D := E.1) (ci := 9) (v := .int v_at) (C := RX9) (T := TX9) (N := 21) hx hb hts iX9 hown hK hP 0 rfl rfl 10 (by decide) (hts _ q1208) (fun _ h9 => h9) rfl dX9_isOrder_179 ?_
        refine lv_iconst (v := (nI 1)) hx hb dX9_isOrder_182 (by decide) ?_
        refine lv_iadd hx hb dX9_isOrder_183 ?_
        refine va_put (D := E.1) (ci := 9) (v := .int (v_at + (nI 1))) (ty := .int) (C := RX9) (T := TX9) (N := 21) hx hb hts iX9 tyX9 tyX9_ok nmX9 hown hK hP hD hS 0 rfl rfl 10 (by decide) (hts _ q1208) (fun _ h9 => h9) rfl (tyX9_ok 10 (by decide)) rfl rfl (Nat.le_of_ble_eq_true rfl) dX9_isOrder_184 (fun H locs hP hD hS => ?_)
        have hP : va_P E.1 vwCl ([gX9 E a v_now v_tried v_kept v_undos v_saved v_isSaved v_line v_lined v_text v_length (v_at + (nI 1)) u3 v_told v_error v_reason v_detail v_answer v_thrown v_mixed v_conflicts v_firstConflict] : List va_W).flatten H := hP
        have hD : va_D A ([gX9 E a v_now v_tried v_kept v_undos v_saved v_isSaved v_line v_lined v_text v_length (v_at + (nI 1)) u3 v_told v_error v_reason v_detail v_answer v_thrown v_mixed v_conflicts v_firstConflict] : List va_W).flatten := hD
        obtain ⟨u32, e33, h⟩ := lt_e h
        rw [← e33] at hP hD
        refine lv_aload_n hx hb dX9_isOrder_187 rfl (lv_at hl 0 rfl) ?_
        refine lv_iconst (v := (nI 0)) hx hb dX9_isOrder_188 (by decide) ?_
        refine lv_iconst (v := (nI 1)) hx hb dX9_isOrder_189 (by decide) ?_
        obtain ⟨⟨r34, w35, w36⟩, hr37, h⟩ := ob h
        dsimp only at h
        refine px_V (As := [.int (nI 0), .int (nI 1)]) (rest := []) (gs := ([gX9 E a v_now v_tried v_kept v_undos v_saved v_isSaved v_line v_lined v_text v_length u32 u3 v_told v_error v_reason v_detail v_answer v_thrown v_mixed v_conflicts v_firstConflict] : List va_W)) (gr := ([] : List va_W)) (gc := ([gX9 E a v_now v_tried v_kept v_undos v_saved v_isSaved v_line v_lined v_text v_length u32 u3 v_told v_error v_reason v_detail v_answer v_thrown v_mixed v_conflicts v_firstConflict] : List va_W)) (g1 := ([gX9 E a v_now v_tried v_kept v_undos v_saved v_isSaved v_line v_lined v_text v_length w35 u3 w36 v_error v_reason v_detail v_answer v_thrown v_mixed v_conflicts v_firstConflict] : List va_W)) (g2 := ([gX9 E a v_now v_tried v_kept v_undos v_saved v_isSaved v_line v_lined v_text v_length w35 u3 w36 v_error v_reason v_detail v_answer v_thrown v_mixed v_conflicts v_firstConflict] : List va_W)) ⟨hx, hb, hml, hown, hts⟩ (c9_digits l E a  ((nI 0)) ((nI 1)) (v_now) (v_tried) (v_kept) (v_undos) (v_saved) (v_isSaved) (v_line) (v_lined) (v_text) (v_length) (u32) (u3) (v_told) (v_error) (v_reason) (v_detail) (v_answer) (v_thrown) (v_mixed) (v_conflicts) (v_firstConflict) r34 w35 w36 hr37) (cwV 2 hts (ws_v q1553 q1555 q54 q68 q1556) rfl rfl rfl hdV_X9_digits (by rw [hR]; exact ⟨Nat.le_of_ble_eq_true rfl, Nat.le_of_ble_eq_true rfl⟩)) hK hN hP hD hS hA [] [0] [0] rfl rfl (by decide) (by decide) rfl (by decide) 0 9 rfl rfl rfl rfl hl.1 rfl (Nat.le_of_ble_eq_true rfl) dX9_isOrder_190 (by rw [hR]; exact ⟨Nat.le_of_ble_eq_true rfl, Nat.le_of_ble_eq_true rfl⟩) (fun H locs hP hD hS => ?_)
        refine W.eq (g2 := F0 m 193 ls [.int (b2i r34)]) rfl ?_
        cases h
        exact px_eWz (b2i_n _) hA0 hQ hP hD hS hx hb hr hlocks dX9_isOrder_193
      · rw [if_neg c31] at h
        by_cases c38 : (ch u3) = nI 109
        · rw [if_pos c38] at h
          refine lv_tableIn (off := 164) (tgt := 194) hx hb dX9_isOrder_30 (by rw [c38]; decide) (by rw [c38]; decide) (by rw [c38]; rfl) (by decide) ?_
          refine lv_aload_n hx hb dX9_isOrder_194 rfl (lv_at hl 0 rfl) ?_
          refine lv_dup hx hb dX9_isOrder_195 rfl ?_
          refine va_get (D := E.1) (ci := 9) (v := .int v_at) (C := RX9) (T := TX9) (N := 21) hx hb hts iX9 hown hK hP 0 rfl rfl 10 (by decide) (hts _ q1208) (fun _ h9 => h9) rfl dX9_isOrder_196 ?_
          refine lv_iconst (v := (nI 1)) hx hb dX9_isOrder_199 (by decide) ?_
          refine lv_iadd hx hb dX9_isOrder_200 ?_
          refine va_put (D := E.1) (ci := 9) (v := .int (v_at + (nI 1))) (ty := .int) (C := RX9) (T := TX9) (N := 21) hx hb hts iX9 tyX9 tyX9_ok nmX9 hown hK hP hD hS 0 rfl rfl 10 (by decide) (hts _ q1208) (fun _ h9 => h9) rfl (tyX9_ok 10 (by decide)) rfl rfl (Nat.le_of_ble_eq_true rfl) dX9_isOrder_201 (fun H locs hP hD hS => ?_)
          have hP : va_P E.1 vwCl ([gX9 E a v_now v_tried v_kept v_undos v_saved v_isSaved v_line v_lined v_text v_length (v_at + (nI 1)) u3 v_told v_error v_reason v_detail v_answer v_thrown v_mixed v_conflicts v_firstConflict] : List va_W).flatten H := hP
          have hD : va_D A ([gX9 E a v_now v_tried v_kept v_undos v_saved v_isSaved v_line v_lined v_text v_length (v_at + (nI 1)) u3 v_told v_error v_reason v_detail v_answer v_thrown v_mixed v_conflicts v_firstConflict] : List va_W).flatten := hD
          obtain ⟨u39, e40, h⟩ := lt_e h
          rw [← e40] at hP hD
          refine lv_aload_n hx hb dX9_isOrder_204 rfl (lv_at hl 0 rfl) ?_
          refine lv_iconst (v := (nI 0)) hx hb dX9_isOrder_205 (by decide) ?_
          refine lv_iconst (v := (nI 1)) hx hb dX9_isOrder_206 (by decide) ?_
          obtain ⟨⟨r41, w42, w43⟩, hr44, h⟩ := ob h
          dsimp only at h
          refine px_V (As := [.int (nI 0), .int (nI 1)]) (rest := []) (gs := ([gX9 E a v_now v_tried v_kept v_undos v_saved v_isSaved v_line v_lined v_text v_length u39 u3 v_told v_error v_reason v_detail v_answer v_thrown v_mixed v_conflicts v_firstConflict] : List va_W)) (gr := ([] : List va_W)) (gc := ([gX9 E a v_now v_tried v_kept v_undos v_saved v_isSaved v_line v_lined v_text v_length u39 u3 v_told v_error v_reason v_detail v_answer v_thrown v_mixed v_conflicts v_firstConflict] : List va_W)) (g1 := ([gX9 E a v_now v_tried v_kept v_undos v_saved v_isSaved v_line v_lined v_text v_length w42 u3 w43 v_error v_reason v_detail v_answer v_thrown v_mixed v_conflicts v_firstConflict] : List va_W)) (g2 := ([gX9 E a v_now v_tried v_kept v_undos v_saved v_isSaved v_line v_lined v_text v_length w42 u3 w43 v_error v_reason v_detail v_answer v_thrown v_mixed v_conflicts v_firstConflict] : List va_W)) ⟨hx, hb, hml, hown, hts⟩ (c9_digits l E a  ((nI 0)) ((nI 1)) (v_now) (v_tried) (v_kept) (v_undos) (v_saved) (v_isSaved) (v_line) (v_lined) (v_text) (v_length) (u39) (u3) (v_told) (v_error) (v_reason) (v_detail) (v_answer) (v_thrown) (v_mixed) (v_conflicts) (v_firstConflict) r41 w42 w43 hr44) (cwV 2 hts (ws_v q1553 q1555 q54 q68 q1556) rfl rfl rfl hdV_X9_digits (by rw [hR]; exact ⟨Nat.le_of_ble_eq_true rfl, Nat.le_of_ble_eq_true rfl⟩)) hK hN hP hD hS hA [] [0] [0] rfl rfl (by decide) (by decide) rfl (by decide) 0 9 rfl rfl rfl rfl hl.1 rfl (Nat.le_of_ble_eq_true rfl) dX9_isOrder_207 (by rw [hR]; exact ⟨Nat.le_of_ble_eq_true rfl, Nat.le_of_ble_eq_true rfl⟩) (fun H locs hP hD hS => ?_)
          refine W.eq (g2 := F0 m 210 ls [.int (b2i r41)]) rfl ?_
          refine lv_if_eq (tgt := 253) hx hb dX9_isOrder_210 (by decide) (fun c45 => ?_) (fun c45 => ?_)
          · rw [if_pos c45] at h
            refine lv_iconst (v := (nI 0)) hx hb dX9_isOrder_253 (by decide) ?_
            cases h
            refine W.eq (g2 := F0 m 254 ls [.int (b2i false)]) rfl ?_
            exact px_eWz (b2i_n _) hA0 hQ hP hD hS hx hb hr hlocks dX9_isOrder_254
          · rw [if_neg c45] at h
            refine lv_aload_n hx hb dX9_isOrder_213 rfl (lv_at hl 0 rfl) ?_
            refine lv_bipush (v := (nI 60)) hx hb dX9_isOrder_214 (by decide) ?_
            obtain ⟨⟨r46, w47⟩, hr48, h⟩ := ob h
            dsimp only at h
            refine px_V (As := [.int (ch (nI 60))]) (rest := []) (gs := ([gX9 E a v_now v_tried v_kept v_undos v_saved v_isSaved v_line v_lined v_text v_length w42 u3 w43 v_error v_reason v_detail v_answer v_thrown v_mixed v_conflicts v_firstConflict] : List va_W)) (gr := ([] : List va_W)) (gc := ([gX9 E a v_now v_tried v_kept v_undos v_saved v_isSaved v_line v_lined v_text v_length w42 u3 w43 v_error v_reason v_detail v_answer v_thrown v_mixed v_conflicts v_firstConflict] : List va_W)) (g1 := ([gX9 E a v_now v_tried v_kept v_undos v_saved v_isSaved v_line v_lined v_text v_length w47 u3 w43 v_error v_reason v_detail v_answer v_thrown v_mixed v_conflicts v_firstConflict] : List va_W)) (g2 := ([gX9 E a v_now v_tried v_kept v_undos v_saved v_isSaved v_line v_lined v_text v_length w47 u3 w43 v_error v_reason v_detail v_answer v_thrown v_mixed v_conflicts v_firstConflict] : List va_W)) ⟨hx, hb, hml, hown, hts⟩ (c9_sign l E a  ((nI 60)) (v_now) (v_tried) (v_kept) (v_undos) (v_saved) (v_isSaved) (v_line) (v_lined) (v_text) (v_length) (w42) (u3) (w43) (v_error) (v_reason) (v_detail) (v_answer) (v_thrown) (v_mixed) (v_conflicts) (v_firstConflict) r46 w47 hr48) (cwV 1 hts (ws_v q1557 q1559 q55 q68 q1560) rfl rfl rfl hdV_X9_sign (by rw [hR]; exact ⟨Nat.le_of_ble_eq_true rfl, Nat.le_of_ble_eq_true rfl⟩)) hK hN hP hD hS hA [] [0] [0] rfl rfl (by decide) (by decide) rfl (by decide) 0 9 rfl rfl rfl rfl hl.1 rfl (Nat.le_of_ble_eq_true rfl) dX9_isOrder_216 (by rw [hR]; exact ⟨Nat.le_of_ble_eq_true rfl, Nat.le_of_ble_eq_true rfl⟩) (fun H locs hP hD hS => ?_)
            refine W.eq (g2 := F0 m 219 ls [.int (b2i r46)]) rfl ?_
            refine lv_if_eq (tgt := 253) hx hb dX9_isOrder_219 (by decide) (fun c49 => ?_) (fun c49 => ?_)
            · rw [if_pos c49] at h
              refine lv_iconst (v := (nI 0)) hx hb dX9_isOrder_253 (by decide) ?_
              cases h
              refine W.eq (g2 := F0 m 254 ls [.int (b2i false)]) rfl ?_
              exact px_eWz (b2i_n _) hA0 hQ hP hD hS hx hb hr hlocks dX9_isOrder_254
            · rw [if_neg c49] at h
              refine lv_aload_n hx hb dX9_isOrder_222 rfl (lv_at hl 0 rfl) ?_
              refine lv_iconst (v := (nI 1)) hx hb dX9_isOrder_223 (by decide) ?_
              refine lv_iconst (v := (nI 1)) hx hb dX9_isOrder_224 (by decide) ?_
              obtain ⟨⟨r50, w51, w52⟩, hr53, h⟩ := ob h
              dsimp only at h
              refine px_V (As := [.int (nI 1), .int (nI 1)]) (rest := []) (gs := ([gX9 E a v_now v_tried v_kept v_undos v_saved v_isSaved v_line v_lined v_text v_length w47 u3 w43 v_error v_reason v_detail v_answer v_thrown v_mixed v_conflicts v_firstConflict] : List va_W)) (gr := ([] : List va_W)) (gc := ([gX9 E a v_now v_tried v_kept v_undos v_saved v_isSaved v_line v_lined v_text v_length w47 u3 w43 v_error v_reason v_detail v_answer v_thrown v_mixed v_conflicts v_firstConflict] : List va_W)) (g1 := ([gX9 E a v_now v_tried v_kept v_undos v_saved v_isSaved v_line v_lined v_text v_length w51 u3 w52 v_error v_reason v_detail v_answer v_thrown v_mixed v_conflicts v_firstConflict] : List va_W)) (g2 := ([gX9 E a v_now v_tried v_kept v_undos v_saved v_isSaved v_line v_lined v_text v_length w51 u3 w52 v_error v_reason v_detail v_answer v_thrown v_mixed v_conflicts v_firstConflict] : List va_W)) ⟨hx, hb, hml, hown, hts⟩ (c9_digits l E a  ((nI 1)) ((nI 1)) (v_now) (v_tried) (v_kept) (v_undos) (v_saved) (v_isSaved) (v_line) (v_lined) (v_text) (v_length) (w47) (u3) (w43) (v_error) (v_reason) (v_detail) (v_answer) (v_thrown) (v_mixed) (v_conflicts) (v_firstConflict) r50 w51 w52 hr53) (cwV 2 hts (ws_v q1553 q1555 q54 q68 q1556) rfl rfl rfl hdV_X9_digits (by rw [hR]; exact ⟨Nat.le_of_ble_eq_true rfl, Nat.le_of_ble_eq_true rfl⟩)) hK hN hP hD hS hA [] [0] [0] rfl rfl (by decide) (by decide) rfl (by decide) 0 9 rfl rfl rfl rfl hl.1 rfl (Nat.le_of_ble_eq_true rfl) dX9_isOrder_225 (by rw [hR]; exact ⟨Nat.le_of_ble_eq_true rfl, Nat.le_of_ble_eq_true rfl⟩) (fun H locs hP hD hS => ?_)
              refine W.eq (g2 := F0 m 228 ls [.int (b2i r50)]) rfl ?_
              refine lv_if_eq (tgt := 253) hx hb dX9_isOrder_228 (by decide) (fun c54 => ?_) (fun c54 => ?_)
              · rw [if_pos c54] at h
                refine lv_iconst (v := (nI 0)) hx hb dX9_isOrder_253 (by decide) ?_
                cases h
                refine W.eq (g2 := F0 m 254 ls [.int (b2i false)]) rfl ?_
                exact px_eWz (b2i_n _) hA0 hQ hP hD hS hx hb hr hlocks dX9_isOrder_254
              · rw [if_neg c54] at h
                refine lv_aload_n hx hb dX9_isOrder_231 rfl (lv_at hl 0 rfl) ?_
                refine lv_bipush (v := (nI 33)) hx hb dX9_isOrder_232 (by decide) ?_
                obtain ⟨⟨r55, w56⟩, hr57, h⟩ := ob h
                dsimp only at h
                refine px_V (As := [.int (ch (nI 33))]) (rest := []) (gs := ([gX9 E a v_now v_tried v_kept v_undos v_saved v_isSaved v_line v_lined v_text v_length w51 u3 w52 v_error v_reason v_detail v_answer v_thrown v_mixed v_conflicts v_firstConflict] : List va_W)) (gr := ([] : List va_W)) (gc := ([gX9 E a v_now v_tried v_kept v_undos v_saved v_isSaved v_line v_lined v_text v_length w51 u3 w52 v_error v_reason v_detail v_answer v_thrown v_mixed v_conflicts v_firstConflict] : List va_W)) (g1 := ([gX9 E a v_now v_tried v_kept v_undos v_saved v_isSaved v_line v_lined v_text v_length w56 u3 w52 v_error v_reason v_detail v_answer v_thrown v_mixed v_conflicts v_firstConflict] : List va_W)) (g2 := ([gX9 E a v_now v_tried v_kept v_undos v_saved v_isSaved v_line v_lined v_text v_length w56 u3 w52 v_error v_reason v_detail v_answer v_thrown v_mixed v_conflicts v_firstConflict] : List va_W)) ⟨hx, hb, hml, hown, hts⟩ (c9_sign l E a  ((nI 33)) (v_now) (v_tried) (v_kept) (v_undos) (v_saved) (v_isSaved) (v_line) (v_lined) (v_text) (v_length) (w51) (u3) (w52) (v_error) (v_reason) (v_detail) (v_answer) (v_thrown) (v_mixed) (v_conflicts) (v_firstConflict) r55 w56 hr57) (cwV 1 hts (ws_v q1557 q1559 q55 q68 q1560) rfl rfl rfl hdV_X9_sign (by rw [hR]; exact ⟨Nat.le_of_ble_eq_true rfl, Nat.le_of_ble_eq_true rfl⟩)) hK hN hP hD hS hA [] [0] [0] rfl rfl (by decide) (by decide) rfl (by decide) 0 9 rfl rfl rfl rfl hl.1 rfl (Nat.le_of_ble_eq_true rfl) dX9_isOrder_234 (by rw [hR]; exact ⟨Nat.le_of_ble_eq_true rfl, Nat.le_of_ble_eq_true rfl⟩) (fun H locs hP hD hS => ?_)
                refine W.eq (g2 := F0 m 237 ls [.int (b2i r55)]) rfl ?_
                refine lv_if_eq (tgt := 253) hx hb dX9_isOrder_237 (by decide) (fun c58 => ?_) (fun c58 => ?_)
                · rw [if_pos c58] at h
                  refine lv_iconst (v := (nI 0)) hx hb dX9_isOrder_253 (by decide) ?_
                  cases h
                  refine W.eq (g2 := F0 m 254 ls [.int (b2i false)]) rfl ?_
                  exact px_eWz (b2i_n _) hA0 hQ hP hD hS hx hb hr hlocks dX9_isOrder_254
                · rw [if_neg c58] at h
                  refine lv_aload_n hx hb dX9_isOrder_240 rfl (lv_at hl 0 rfl) ?_
                  refine lv_iconst (v := (nI 2)) hx hb dX9_isOrder_241 (by decide) ?_
                  refine lv_iconst (v := (nI 1)) hx hb dX9_isOrder_242 (by decide) ?_
                  obtain ⟨⟨r59, w60, w61⟩, hr62, h⟩ := ob h
                  dsimp only at h
                  refine px_V (As := [.int (nI 2), .int (nI 1)]) (rest := []) (gs := ([gX9 E a v_now v_tried v_kept v_undos v_saved v_isSaved v_line v_lined v_text v_length w56 u3 w52 v_error v_reason v_detail v_answer v_thrown v_mixed v_conflicts v_firstConflict] : List va_W)) (gr := ([] : List va_W)) (gc := ([gX9 E a v_now v_tried v_kept v_undos v_saved v_isSaved v_line v_lined v_text v_length w56 u3 w52 v_error v_reason v_detail v_answer v_thrown v_mixed v_conflicts v_firstConflict] : List va_W)) (g1 := ([gX9 E a v_now v_tried v_kept v_undos v_saved v_isSaved v_line v_lined v_text v_length w60 u3 w61 v_error v_reason v_detail v_answer v_thrown v_mixed v_conflicts v_firstConflict] : List va_W)) (g2 := ([gX9 E a v_now v_tried v_kept v_undos v_saved v_isSaved v_line v_lined v_text v_length w60 u3 w61 v_error v_reason v_detail v_answer v_thrown v_mixed v_conflicts v_firstConflict] : List va_W)) ⟨hx, hb, hml, hown, hts⟩ (c9_digits l E a  ((nI 2)) ((nI 1)) (v_now) (v_tried) (v_kept) (v_undos) (v_saved) (v_isSaved) (v_line) (v_lined) (v_text) (v_length) (w56) (u3) (w52) (v_error) (v_reason) (v_detail) (v_answer) (v_thrown) (v_mixed) (v_conflicts) (v_firstConflict) r59 w60 w61 hr62) (cwV 2 hts (ws_v q1553 q1555 q54 q68 q1556) rfl rfl rfl hdV_X9_digits (by rw [hR]; exact ⟨Nat.le_of_ble_eq_true rfl, Nat.le_of_ble_eq_true rfl⟩)) hK hN hP hD hS hA [] [0] [0] rfl rfl (by decide) (by decide) rfl (by decide) 0 9 rfl rfl rfl rfl hl.1 rfl (Nat.le_of_ble_eq_true rfl) dX9_isOrder_243 (by rw [hR]; exact ⟨Nat.le_of_ble_eq_true rfl, Nat.le_of_ble_eq_true rfl⟩) (fun H locs hP hD hS => ?_)
                  refine W.eq (g2 := F0 m 246 ls [.int (b2i r59)]) rfl ?_
                  refine lv_if_eq (tgt := 253) hx hb dX9_isOrder_246 (by decide) (fun c63 => ?_) (fun c63 => ?_)
                  · rw [if_pos c63] at h
                    refine lv_iconst (v := (nI 0)) hx hb dX9_isOrder_253 (by decide) ?_
                    cases h
                    refine W.eq (g2 := F0 m 254 ls [.int (b2i false)]) rfl ?_
                    exact px_eWz (b2i_n _) hA0 hQ hP hD hS hx hb hr hlocks dX9_isOrder_254
                  · rw [if_neg c63] at h
                    refine lv_iconst (v := (nI 1)) hx hb dX9_isOrder_249 (by decide) ?_
                    refine lv_goto (tgt := 254) hx hb dX9_isOrder_250 (by decide) ?_
                    cases h
                    refine W.eq (g2 := F0 m 254 ls [.int (b2i true)]) rfl ?_
                    exact px_eWz (b2i_n _) hA0 hQ hP hD hS hx hb hr hlocks dX9_isOrder_254
        · rw [if_neg c38] at h
          by_cases c64 : (ch u3) = nI 112
          · rw [if_pos c64] at h
            refine lv_tableIn (off := 225) (tgt := 255) hx hb dX9_isOrder_30 (by rw [c64]; decide) (by rw [c64]; decide) (by rw [c64]; rfl) (by decide) ?_
            refine lv_aload_n hx hb dX9_isOrder_255 rfl (lv_at hl 0 rfl) ?_
            refine lv_dup hx hb dX9_isOrder_256 rfl ?_
            refine va_get (D := E.1) (ci := 9) (v := .int v_at) (C := RX9) (T := TX9) (N := 21) hx hb hts iX9 hown hK hP 0 rfl rfl 10 (by decide) (hts _ q1208) (fun _ h9 => h9) rfl dX9_isOrder_257 ?_
            refine lv_iconst (v := (nI 1)) hx hb dX9_isOrder_260 (by decide) ?_
            refine lv_iadd hx hb dX9_isOrder_261 ?_
            refine va_put (D := E.1) (ci := 9) (v := .int (v_at + (nI 1))) (ty := .int) (C := RX9) (T := TX9) (N := 21) hx hb hts iX9 tyX9 tyX9_ok nmX9 hown hK hP hD hS 0 rfl rfl 10 (by decide) (hts _ q1208) (fun _ h9 => h9) rfl (tyX9_ok 10 (by decide)) rfl rfl (Nat.le_of_ble_eq_true rfl) dX9_isOrder_262 (fun H locs hP hD hS => ?_)
            have hP : va_P E.1 vwCl ([gX9 E a v_now v_tried v_kept v_undos v_saved v_isSaved v_line v_lined v_text v_length (v_at + (nI 1)) u3 v_told v_error v_reason v_detail v_answer v_thrown v_mixed v_conflicts v_firstConflict] : List va_W).flatten H := hP
            have hD : va_D A ([gX9 E a v_now v_tried v_kept v_undos v_saved v_isSaved v_line v_lined v_text v_length (v_at + (nI 1)) u3 v_told v_error v_reason v_detail v_answer v_thrown v_mixed v_conflicts v_firstConflict] : List va_W).flatten := hD
            obtain ⟨u65, e66, h⟩ := lt_e h
            rw [← e66] at hP hD
            refine lv_aload_n hx hb dX9_isOrder_265 rfl (lv_at hl 0 rfl) ?_
            refine lv_iconst (v := (nI 0)) hx hb dX9_isOrder_266 (by decide) ?_
            refine lv_iconst (v := (nI 1)) hx hb dX9_isOrder_267 (by decide) ?_
            obtain ⟨⟨r67, w68, w69⟩, hr70, h⟩ := ob h
            dsimp only at h
            refine px_V (As := [.int (nI 0), .int (nI 1)]) (rest := []) (gs := ([gX9 E a v_now v_tried v_kept v_undos v_saved v_isSaved v_line v_lined v_text v_length u65 u3 v_told v_error v_reason v_detail v_answer v_thrown v_mixed v_conflicts v_firstConflict] : List va_W)) (gr := ([] : List va_W)) (gc := ([gX9 E a v_now v_tried v_kept v_undos v_saved v_isSaved v_line v_lined v_text v_length u65 u3 v_told v_error v_reason v_detail v_answer v_thrown v_mixed v_conflicts v_firstConflict] : List va_W)) (g1 := ([gX9 E a v_now v_tried v_kept v_undos v_saved v_isSaved v_line v_lined v_text v_length w68 u3 w69 v_error v_reason v_detail v_answer v_thrown v_mixed v_conflicts v_firstConflict] : List va_W)) (g2 := ([gX9 E a v_now v_tried v_kept v_undos v_saved v_isSaved v_line v_lined v_text v_length w68 u3 w69 v_error v_reason v_detail v_answer v_thrown v_mixed v_conflicts v_firstConflict] : List va_W)) ⟨hx, hb, hml, hown, hts⟩ (c9_digits l E a  ((nI 0)) ((nI 1)) (v_now) (v_tried) (v_kept) (v_undos) (v_saved) (v_isSaved) (v_line) (v_lined) (v_text) (v_length) (u65) (u3) (v_told) (v_error) (v_reason) (v_detail) (v_answer) (v_thrown) (v_mixed) (v_conflicts) (v_firstConflict) r67 w68 w69 hr70) (cwV 2 hts (ws_v q1553 q1555 q54 q68 q1556) rfl rfl rfl hdV_X9_digits (by rw [hR]; exact ⟨Nat.le_of_ble_eq_true rfl, Nat.le_of_ble_eq_true rfl⟩)) hK hN hP hD hS hA [] [0] [0] rfl rfl (by decide) (by decide) rfl (by decide) 0 9 rfl rfl rfl rfl hl.1 rfl (Nat.le_of_ble_eq_true rfl) dX9_isOrder_268 (by rw [hR]; exact ⟨Nat.le_of_ble_eq_true rfl, Nat.le_of_ble_eq_true rfl⟩) (fun H locs hP hD hS => ?_)
            refine W.eq (g2 := F0 m 271 ls [.int (b2i r67)]) rfl ?_
            refine lv_if_eq (tgt := 314) hx hb dX9_isOrder_271 (by decide) (fun c71 => ?_) (fun c71 => ?_)
            · rw [if_pos c71] at h
              refine lv_iconst (v := (nI 0)) hx hb dX9_isOrder_314 (by decide) ?_
              cases h
              refine W.eq (g2 := F0 m 315 ls [.int (b2i false)]) rfl ?_
              exact px_eWz (b2i_n _) hA0 hQ hP hD hS hx hb hr hlocks dX9_isOrder_315
            · rw [if_neg c71] at h
              refine lv_aload_n hx hb dX9_isOrder_274 rfl (lv_at hl 0 rfl) ?_
              refine lv_bipush (v := (nI 60)) hx hb dX9_isOrder_275 (by decide) ?_
              obtain ⟨⟨r72, w73⟩, hr74, h⟩ := ob h
              dsimp only at h
              refine px_V (As := [.int (ch (nI 60))]) (rest := []) (gs := ([gX9 E a v_now v_tried v_kept v_undos v_saved v_isSaved v_line v_lined v_text v_length w68 u3 w69 v_error v_reason v_detail v_answer v_thrown v_mixed v_conflicts v_firstConflict] : List va_W)) (gr := ([] : List va_W)) (gc := ([gX9 E a v_now v_tried v_kept v_undos v_saved v_isSaved v_line v_lined v_text v_length w68 u3 w69 v_error v_reason v_detail v_answer v_thrown v_mixed v_conflicts v_firstConflict] : List va_W)) (g1 := ([gX9 E a v_now v_tried v_kept v_undos v_saved v_isSaved v_line v_lined v_text v_length w73 u3 w69 v_error v_reason v_detail v_answer v_thrown v_mixed v_conflicts v_firstConflict] : List va_W)) (g2 := ([gX9 E a v_now v_tried v_kept v_undos v_saved v_isSaved v_line v_lined v_text v_length w73 u3 w69 v_error v_reason v_detail v_answer v_thrown v_mixed v_conflicts v_firstConflict] : List va_W)) ⟨hx, hb, hml, hown, hts⟩ (c9_sign l E a  ((nI 60)) (v_now) (v_tried) (v_kept) (v_undos) (v_saved) (v_isSaved) (v_line) (v_lined) (v_text) (v_length) (w68) (u3) (w69) (v_error) (v_reason) (v_detail) (v_answer) (v_thrown) (v_mixed) (v_conflicts) (v_firstConflict) r72 w73 hr74) (cwV 1 hts (ws_v q1557 q1559 q55 q68 q1560) rfl rfl rfl hdV_X9_sign (by rw [hR]; exact ⟨Nat.le_of_ble_eq_true rfl, Nat.le_of_ble_eq_true rfl⟩)) hK hN hP hD hS hA [] [0] [0] rfl rfl (by decide) (by decide) rfl (by decide) 0 9 rfl rfl rfl rfl hl.1 rfl (Nat.le_of_ble_eq_true rfl) dX9_isOrder_277 (by rw [hR]; exact ⟨Nat.le_of_ble_eq_true rfl, Nat.le_of_ble_eq_true rfl⟩) (fun H locs hP hD hS => ?_)
              refine W.eq (g2 := F0 m 280 ls [.int (b2i r72)]) rfl ?_
              refine lv_if_eq (tgt := 314) hx hb dX9_isOrder_280 (by decide) (fun c75 => ?_) (fun c75 => ?_)
              · rw [if_pos c75] at h
                refine lv_iconst (v := (nI 0)) hx hb dX9_isOrder_314 (by decide) ?_
                cases h
                refine W.eq (g2 := F0 m 315 ls [.int (b2i false)]) rfl ?_
                exact px_eWz (b2i_n _) hA0 hQ hP hD hS hx hb hr hlocks dX9_isOrder_315
              · rw [if_neg c75] at h
                refine lv_aload_n hx hb dX9_isOrder_283 rfl (lv_at hl 0 rfl) ?_
                refine lv_iconst (v := (nI 1)) hx hb dX9_isOrder_284 (by decide) ?_
                refine lv_iconst (v := (nI 2)) hx hb dX9_isOrder_285 (by decide) ?_
                obtain ⟨⟨r76, w77, w78⟩, hr79, h⟩ := ob h
                dsimp only at h
                refine px_V (As := [.int (nI 1), .int (nI 2)]) (rest := []) (gs := ([gX9 E a v_now v_tried v_kept v_undos v_saved v_isSaved v_line v_lined v_text v_length w73 u3 w69 v_error v_reason v_detail v_answer v_thrown v_mixed v_conflicts v_firstConflict] : List va_W)) (gr := ([] : List va_W)) (gc := ([gX9 E a v_now v_tried v_kept v_undos v_saved v_isSaved v_line v_lined v_text v_length w73 u3 w69 v_error v_reason v_detail v_answer v_thrown v_mixed v_conflicts v_firstConflict] : List va_W)) (g1 := ([gX9 E a v_now v_tried v_kept v_undos v_saved v_isSaved v_line v_lined v_text v_length w77 u3 w78 v_error v_reason v_detail v_answer v_thrown v_mixed v_conflicts v_firstConflict] : List va_W)) (g2 := ([gX9 E a v_now v_tried v_kept v_undos v_saved v_isSaved v_line v_lined v_text v_length w77 u3 w78 v_error v_reason v_detail v_answer v_thrown v_mixed v_conflicts v_firstConflict] : List va_W)) ⟨hx, hb, hml, hown, hts⟩ (c9_digits l E a  ((nI 1)) ((nI 2)) (v_now) (v_tried) (v_kept) (v_undos) (v_saved) (v_isSaved) (v_line) (v_lined) (v_text) (v_length) (w73) (u3) (w69) (v_error) (v_reason) (v_detail) (v_answer) (v_thrown) (v_mixed) (v_conflicts) (v_firstConflict) r76 w77 w78 hr79) (cwV 2 hts (ws_v q1553 q1555 q54 q68 q1556) rfl rfl rfl hdV_X9_digits (by rw [hR]; exact ⟨Nat.le_of_ble_eq_true rfl, Nat.le_of_ble_eq_true rfl⟩)) hK hN hP hD hS hA [] [0] [0] rfl rfl (by decide) (by decide) rfl (by decide) 0 9 rfl rfl rfl rfl hl.1 rfl (Nat.le_of_ble_eq_true rfl) dX9_isOrder_286 (by rw [hR]; exact ⟨Nat.le_of_ble_eq_true rfl, Nat.le_of_ble_eq_true rfl⟩) (fun H locs hP hD hS => ?_)
                refine W.eq (g2 := F0 m 289 ls [.int (b2i r76)]) rfl ?_
                refine lv_if_eq (tgt := 314) hx hb dX9_isOrder_289 (by decide) (fun c80 => ?_) (fun c80 => ?_)
                · rw [if_pos c80] at h
                  refine lv_iconst (v := (nI 0)) hx hb dX9_isOrder_314 (by decide) ?_
                  cases h
                  refine W.eq (g2 := F0 m 315 ls [.int (b2i false)]) rfl ?_
                  exact px_eWz (b2i_n _) hA0 hQ hP hD hS hx hb hr hlocks dX9_isOrder_315
                · rw [if_neg c80] at h
                  refine lv_aload_n hx hb dX9_isOrder_292 rfl (lv_at hl 0 rfl) ?_
                  refine lv_bipush (v := (nI 33)) hx hb dX9_isOrder_293 (by decide) ?_
                  obtain ⟨⟨r81, w82⟩, hr83, h⟩ := ob h
                  dsimp only at h
                  refine px_V (As := [.int (ch (nI 33))]) (rest := []) (gs := ([gX9 E a v_now v_tried v_kept v_undos v_saved v_isSaved v_line v_lined v_text v_length w77 u3 w78 v_error v_reason v_detail v_answer v_thrown v_mixed v_conflicts v_firstConflict] : List va_W)) (gr := ([] : List va_W)) (gc := ([gX9 E a v_now v_tried v_kept v_undos v_saved v_isSaved v_line v_lined v_text v_length w77 u3 w78 v_error v_reason v_detail v_answer v_thrown v_mixed v_conflicts v_firstConflict] : List va_W)) (g1 := ([gX9 E a v_now v_tried v_kept v_undos v_saved v_isSaved v_line v_lined v_text v_length w82 u3 w78 v_error v_reason v_detail v_answer v_thrown v_mixed v_conflicts v_firstConflict] : List va_W)) (g2 := ([gX9 E a v_now v_tried v_kept v_undos v_saved v_isSaved v_line v_lined v_text v_length w82 u3 w78 v_error v_reason v_detail v_answer v_thrown v_mixed v_conflicts v_firstConflict] : List va_W)) ⟨hx, hb, hml, hown, hts⟩ (c9_sign l E a  ((nI 33)) (v_now) (v_tried) (v_kept) (v_undos) (v_saved) (v_isSaved) (v_line) (v_lined) (v_text) (v_length) (w77) (u3) (w78) (v_error) (v_reason) (v_detail) (v_answer) (v_thrown) (v_mixed) (v_conflicts) (v_firstConflict) r81 w82 hr83) (cwV 1 hts (ws_v q1557 q1559 q55 q68 q1560) rfl rfl rfl hdV_X9_sign (by rw [hR]; exact ⟨Nat.le_of_ble_eq_true rfl, Nat.le_of_ble_eq_true rfl⟩)) hK hN hP hD hS hA [] [0] [0] rfl rfl (by decide) (by decide) rfl (by decide) 0 9 rfl rfl rfl rfl hl.1 rfl (Nat.le_of_ble_eq_true rfl) dX9_isOrder_295 (by rw [hR]; exact ⟨Nat.le_of_ble_eq_true rfl, Nat.le_of_ble_eq_true rfl⟩) (fun H locs hP hD hS => ?_)
                  refine W.eq (g2 := F0 m 298 ls [.int (b2i r81)]) rfl ?_
                  refine lv_if_eq (tgt := 314) hx hb dX9_isOrder_298 (by decide) (fun c84 => ?_) (fun c84 => ?_)
                  · rw [if_pos c84] at h
                    refine lv_iconst (v := (nI 0)) hx hb dX9_isOrder_314 (by decide) ?_
                    cases h
                    refine W.eq (g2 := F0 m 315 ls [.int (b2i false)]) rfl ?_
                    exact px_eWz (b2i_n _) hA0 hQ hP hD hS hx hb hr hlocks dX9_isOrder_315
                  · rw [if_neg c84] at h
                    refine lv_aload_n hx hb dX9_isOrder_301 rfl (lv_at hl 0 rfl) ?_
                    refine lv_iconst (v := (nI 2)) hx hb dX9_isOrder_302 (by decide) ?_
                    refine lv_iconst (v := (nI 1)) hx hb dX9_isOrder_303 (by decide) ?_
                    obtain ⟨⟨r85, w86, w87⟩, hr88, h⟩ := ob h
                    dsimp only at h
                    refine px_V (As := [.int (nI 2), .int (nI 1)]) (rest := []) (gs := ([gX9 E a v_now v_tried v_kept v_undos v_saved v_isSaved v_line v_lined v_text v_length w82 u3 w78 v_error v_reason v_detail v_answer v_thrown v_mixed v_conflicts v_firstConflict] : List va_W)) (gr := ([] : List va_W)) (gc := ([gX9 E a v_now v_tried v_kept v_undos v_saved v_isSaved v_line v_lined v_text v_length w82 u3 w78 v_error v_reason v_detail v_answer v_thrown v_mixed v_conflicts v_firstConflict] : List va_W)) (g1 := ([gX9 E a v_now v_tried v_kept v_undos v_saved v_isSaved v_line v_lined v_text v_length w86 u3 w87 v_error v_reason v_detail v_answer v_thrown v_mixed v_conflicts v_firstConflict] : List va_W)) (g2 := ([gX9 E a v_now v_tried v_kept v_undos v_saved v_isSaved v_line v_lined v_text v_length w86 u3 w87 v_error v_reason v_detail v_answer v_thrown v_mixed v_conflicts v_firstConflict] : List va_W)) ⟨hx, hb, hml, hown, hts⟩ (c9_digits l E a  ((nI 2)) ((nI 1)) (v_now) (v_tried) (v_kept) (v_undos) (v_saved) (v_isSaved) (v_line) (v_lined) (v_text) (v_length) (w82) (u3) (w78) (v_error) (v_reason) (v_detail) (v_answer) (v_thrown) (v_mixed) (v_conflicts) (v_firstConflict) r85 w86 w87 hr88) (cwV 2 hts (ws_v q1553 q1555 q54 q68 q1556) rfl rfl rfl hdV_X9_digits (by rw [hR]; exact ⟨Nat.le_of_ble_eq_true rfl, Nat.le_of_ble_eq_true rfl⟩)) hK hN hP hD hS hA [] [0] [0] rfl rfl (by decide) (by decide) rfl (by decide) 0 9 rfl rfl rfl rfl hl.1 rfl (Nat.le_of_ble_eq_true rfl) dX9_isOrder_304 (by rw [hR]; exact ⟨Nat.le_of_ble_eq_true rfl, Nat.le_of_ble_eq_true rfl⟩) (fun H locs hP hD hS => ?_)
                    refine W.eq (g2 := F0 m 307 ls [.int (b2i r85)]) rfl ?_
                    refine lv_if_eq (tgt := 314) hx hb dX9_isOrder_307 (by decide) (fun c89 => ?_) (fun c89 => ?_)
                    · rw [if_pos c89] at h
                      refine lv_iconst (v := (nI 0)) hx hb dX9_isOrder_314 (by decide) ?_
                      cases h
                      refine W.eq (g2 := F0 m 315 ls [.int (b2i false)]) rfl ?_
                      exact px_eWz (b2i_n _) hA0 hQ hP hD hS hx hb hr hlocks dX9_isOrder_315
                    · rw [if_neg c89] at h
                      refine lv_iconst (v := (nI 1)) hx hb dX9_isOrder_310 (by decide) ?_
                      refine lv_goto (tgt := 315) hx hb dX9_isOrder_311 (by decide) ?_
                      cases h
                      refine W.eq (g2 := F0 m 315 ls [.int (b2i true)]) rfl ?_
                      exact px_eWz (b2i_n _) hA0 hQ hP hD hS hx hb hr hlocks dX9_isOrder_315
          · rw [if_neg c64] at h
            by_cases c90 : (ch u3) = nI 114
            · rw [if_pos c90] at h
              refine lv_tableIn (off := 286) (tgt := 316) hx hb dX9_isOrder_30 (by rw [c90]; decide) (by rw [c90]; decide) (by rw [c90]; rfl) (by decide) ?_
              refine lv_aload_n hx hb dX9_isOrder_316 rfl (lv_at hl 0 rfl) ?_
              refine lv_dup hx hb dX9_isOrder_317 rfl ?_
              refine va_get (D := E.1) (ci := 9) (v := .int v_at) (C := RX9) (T := TX9) (N := 21) hx hb hts iX9 hown hK hP 0 rfl rfl 10 (by decide) (hts _ q1208) (fun _ h9 => h9) rfl dX9_isOrder_318 ?_
              refine lv_iconst (v := (nI 1)) hx hb dX9_isOrder_321 (by decide) ?_
              refine lv_iadd hx hb dX9_isOrder_322 ?_
              refine va_put (D := E.1) (ci := 9) (v := .int (v_at + (nI 1))) (ty := .int) (C := RX9) (T := TX9) (N := 21) hx hb hts iX9 tyX9 tyX9_ok nmX9 hown hK hP hD hS 0 rfl rfl 10 (by decide) (hts _ q1208) (fun _ h9 => h9) rfl (tyX9_ok 10 (by decide)) rfl rfl (Nat.le_of_ble_eq_true rfl) dX9_isOrder_323 (fun H locs hP hD hS => ?_)
              have hP : va_P E.1 vwCl ([gX9 E a v_now v_tried v_kept v_undos v_saved v_isSaved v_line v_lined v_text v_length (v_at + (nI 1)) u3 v_told v_error v_reason v_detail v_answer v_thrown v_mixed v_conflicts v_firstConflict] : List va_W).flatten H := hP
              have hD : va_D A ([gX9 E a v_now v_tried v_kept v_undos v_saved v_isSaved v_line v_lined v_text v_length (v_at + (nI 1)) u3 v_told v_error v_reason v_detail v_answer v_thrown v_mixed v_conflicts v_firstConflict] : List va_W).flatten := hD
              obtain ⟨u91, e92, h⟩ := lt_e h
              rw [← e92] at hP hD
              refine lv_aload_n hx hb dX9_isOrder_326 rfl (lv_at hl 0 rfl) ?_
              refine lv_iconst (v := (nI 0)) hx hb dX9_isOrder_327 (by decide) ?_
              refine lv_iconst (v := (nI 1)) hx hb dX9_isOrder_328 (by decide) ?_
              obtain ⟨⟨r93, w94, w95⟩, hr96, h⟩ := ob h
              dsimp only at h
              refine px_V (As := [.int (nI 0), .int (nI 1)]) (rest := []) (gs := ([gX9 E a v_now v_tried v_kept v_undos v_saved v_isSaved v_line v_lined v_text v_length u91 u3 v_told v_error v_reason v_detail v_answer v_thrown v_mixed v_conflicts v_firstConflict] : List va_W)) (gr := ([] : List va_W)) (gc := ([gX9 E a v_now v_tried v_kept v_undos v_saved v_isSaved v_line v_lined v_text v_length u91 u3 v_told v_error v_reason v_detail v_answer v_thrown v_mixed v_conflicts v_firstConflict] : List va_W)) (g1 := ([gX9 E a v_now v_tried v_kept v_undos v_saved v_isSaved v_line v_lined v_text v_length w94 u3 w95 v_error v_reason v_detail v_answer v_thrown v_mixed v_conflicts v_firstConflict] : List va_W)) (g2 := ([gX9 E a v_now v_tried v_kept v_undos v_saved v_isSaved v_line v_lined v_text v_length w94 u3 w95 v_error v_reason v_detail v_answer v_thrown v_mixed v_conflicts v_firstConflict] : List va_W)) ⟨hx, hb, hml, hown, hts⟩ (c9_digits l E a  ((nI 0)) ((nI 1)) (v_now) (v_tried) (v_kept) (v_undos) (v_saved) (v_isSaved) (v_line) (v_lined) (v_text) (v_length) (u91) (u3) (v_told) (v_error) (v_reason) (v_detail) (v_answer) (v_thrown) (v_mixed) (v_conflicts) (v_firstConflict) r93 w94 w95 hr96) (cwV 2 hts (ws_v q1553 q1555 q54 q68 q1556) rfl rfl rfl hdV_X9_digits (by rw [hR]; exact ⟨Nat.le_of_ble_eq_true rfl, Nat.le_of_ble_eq_true rfl⟩)) hK hN hP hD hS hA [] [0] [0] rfl rfl (by decide) (by decide) rfl (by decide) 0 9 rfl rfl rfl rfl hl.1 rfl (Nat.le_of_ble_eq_true rfl) dX9_isOrder_329 (by rw [hR]; exact ⟨Nat.le_of_ble_eq_true rfl, Nat.le_of_ble_eq_true rfl⟩) (fun H locs hP hD hS => ?_)
              refine W.eq (g2 := F0 m 332 ls [.int (b2i r93)]) rfl ?_
              refine lv_if_eq (tgt := 357) hx hb dX9_isOrder_332 (by decide) (fun c97 => ?_) (fun c97 => ?_)
              · rw [if_pos c97] at h
                refine lv_iconst (v := (nI 0)) hx hb dX9_isOrder_357 (by decide) ?_
                cases h
                refine W.eq (g2 := F0 m 358 ls [.int (b2i false)]) rfl ?_
                exact px_eWz (b2i_n _) hA0 hQ hP hD hS hx hb hr hlocks dX9_isOrder_358
              · rw [if_neg c97] at h
                refine lv_aload_n hx hb dX9_isOrder_335 rfl (lv_at hl 0 rfl) ?_
                refine lv_bipush (v := (nI 61)) hx hb dX9_isOrder_336 (by decide) ?_
                obtain ⟨⟨r98, w99⟩, hr100, h⟩ := ob h
                dsimp only at h
                refine px_V (As := [.int (ch (nI 61))]) (rest := []) (gs := ([gX9 E a v_now v_tried v_kept v_undos v_saved v_isSaved v_line v_lined v_text v_length w94 u3 w95 v_error v_reason v_detail v_answer v_thrown v_mixed v_conflicts v_firstConflict] : List va_W)) (gr := ([] : List va_W)) (gc := ([gX9 E a v_now v_tried v_kept v_undos v_saved v_isSaved v_line v_lined v_text v_length w94 u3 w95 v_error v_reason v_detail v_answer v_thrown v_mixed v_conflicts v_firstConflict] : List va_W)) (g1 := ([gX9 E a v_now v_tried v_kept v_undos v_saved v_isSaved v_line v_lined v_text v_length w99 u3 w95 v_error v_reason v_detail v_answer v_thrown v_mixed v_conflicts v_firstConflict] : List va_W)) (g2 := ([gX9 E a v_now v_tried v_kept v_undos v_saved v_isSaved v_line v_lined v_text v_length w99 u3 w95 v_error v_reason v_detail v_answer v_thrown v_mixed v_conflicts v_firstConflict] : List va_W)) ⟨hx, hb, hml, hown, hts⟩ (c9_sign l E a  ((nI 61)) (v_now) (v_tried) (v_kept) (v_undos) (v_saved) (v_isSaved) (v_line) (v_lined) (v_text) (v_length) (w94) (u3) (w95) (v_error) (v_reason) (v_detail) (v_answer) (v_thrown) (v_mixed) (v_conflicts) (v_firstConflict) r98 w99 hr100) (cwV 1 hts (ws_v q1557 q1559 q55 q68 q1560) rfl rfl rfl hdV_X9_sign (by rw [hR]; exact ⟨Nat.le_of_ble_eq_true rfl, Nat.le_of_ble_eq_true rfl⟩)) hK hN hP hD hS hA [] [0] [0] rfl rfl (by decide) (by decide) rfl (by decide) 0 9 rfl rfl rfl rfl hl.1 rfl (Nat.le_of_ble_eq_true rfl) dX9_isOrder_338 (by rw [hR]; exact ⟨Nat.le_of_ble_eq_true rfl, Nat.le_of_ble_eq_true rfl⟩) (fun H locs hP hD hS => ?_)
                refine W.eq (g2 := F0 m 341 ls [.int (b2i r98)]) rfl ?_
                refine lv_if_eq (tgt := 357) hx hb dX9_isOrder_341 (by decide) (fun c101 => ?_) (fun c101 => ?_)
                · rw [if_pos c101] at h
                  refine lv_iconst (v := (nI 0)) hx hb dX9_isOrder_357 (by decide) ?_
                  cases h
                  refine W.eq (g2 := F0 m 358 ls [.int (b2i false)]) rfl ?_
                  exact px_eWz (b2i_n _) hA0 hQ hP hD hS hx hb hr hlocks dX9_isOrder_358
                · rw [if_neg c101] at h
                  refine lv_aload_n hx hb dX9_isOrder_344 rfl (lv_at hl 0 rfl) ?_
                  refine lv_iconst (v := (nI 1)) hx hb dX9_isOrder_345 (by decide) ?_
                  refine lv_iconst (v := (nI 2)) hx hb dX9_isOrder_346 (by decide) ?_
                  obtain ⟨⟨r102, w103, w104⟩, hr105, h⟩ := ob h
                  dsimp only at h
                  refine px_V (As := [.int (nI 1), .int (nI 2)]) (rest := []) (gs := ([gX9 E a v_now v_tried v_kept v_undos v_saved v_isSaved v_line v_lined v_text v_length w99 u3 w95 v_error v_reason v_detail v_answer v_thrown v_mixed v_conflicts v_firstConflict] : List va_W)) (gr := ([] : List va_W)) (gc := ([gX9 E a v_now v_tried v_kept v_undos v_saved v_isSaved v_line v_lined v_text v_length w99 u3 w95 v_error v_reason v_detail v_answer v_thrown v_mixed v_conflicts v_firstConflict] : List va_W)) (g1 := ([gX9 E a v_now v_tried v_kept v_undos v_saved v_isSaved v_line v_lined v_text v_length w103 u3 w104 v_error v_reason v_detail v_answer v_thrown v_mixed v_conflicts v_firstConflict] : List va_W)) (g2 := ([gX9 E a v_now v_tried v_kept v_undos v_saved v_isSaved v_line v_lined v_text v_length w103 u3 w104 v_error v_reason v_detail v_answer v_thrown v_mixed v_conflicts v_firstConflict] : List va_W)) ⟨hx, hb, hml, hown, hts⟩ (c9_digits l E a  ((nI 1)) ((nI 2)) (v_now) (v_tried) (v_kept) (v_undos) (v_saved) (v_isSaved) (v_line) (v_lined) (v_text) (v_length) (w99) (u3) (w95) (v_error) (v_reason) (v_detail) (v_answer) (v_thrown) (v_mixed) (v_conflicts) (v_firstConflict) r102 w103 w104 hr105) (cwV 2 hts (ws_v q1553 q1555 q54 q68 q1556) rfl rfl rfl hdV_X9_digits (by rw [hR]; exact ⟨Nat.le_of_ble_eq_true rfl, Nat.le_of_ble_eq_true rfl⟩)) hK hN hP hD hS hA [] [0] [0] rfl rfl (by decide) (by decide) rfl (by decide) 0 9 rfl rfl rfl rfl hl.1 rfl (Nat.le_of_ble_eq_true rfl) dX9_isOrder_347 (by rw [hR]; exact ⟨Nat.le_of_ble_eq_true rfl, Nat.le_of_ble_eq_true rfl⟩) (fun H locs hP hD hS => ?_)
                  refine W.eq (g2 := F0 m 350 ls [.int (b2i r102)]) rfl ?_
                  refine lv_if_eq (tgt := 357) hx hb dX9_isOrder_350 (by decide) (fun c106 => ?_) (fun c106 => ?_)
                  · rw [if_pos c106] at h
                    refine lv_iconst (v := (nI 0)) hx hb dX9_isOrder_357 (by decide) ?_
                    cases h
                    refine W.eq (g2 := F0 m 358 ls [.int (b2i false)]) rfl ?_
                    exact px_eWz (b2i_n _) hA0 hQ hP hD hS hx hb hr hlocks dX9_isOrder_358
                  · rw [if_neg c106] at h
                    refine lv_iconst (v := (nI 1)) hx hb dX9_isOrder_353 (by decide) ?_
                    refine lv_goto (tgt := 358) hx hb dX9_isOrder_354 (by decide) ?_
                    cases h
                    refine W.eq (g2 := F0 m 358 ls [.int (b2i true)]) rfl ?_
                    exact px_eWz (b2i_n _) hA0 hQ hP hD hS hx hb hr hlocks dX9_isOrder_358
            · rw [if_neg c90] at h
              by_cases c107 : (ch u3) = nI 118
              · rw [if_pos c107] at h
                refine lv_tableIn (off := 225) (tgt := 255) hx hb dX9_isOrder_30 (by rw [c107]; decide) (by rw [c107]; decide) (by rw [c107]; rfl) (by decide) ?_
                refine lv_aload_n hx hb dX9_isOrder_255 rfl (lv_at hl 0 rfl) ?_
                refine lv_dup hx hb dX9_isOrder_256 rfl ?_
                refine va_get (D := E.1) (ci := 9) (v := .int v_at) (C := RX9) (T := TX9) (N := 21) hx hb hts iX9 hown hK hP 0 rfl rfl 10 (by decide) (hts _ q1208) (fun _ h9 => h9) rfl dX9_isOrder_257 ?_
                refine lv_iconst (v := (nI 1)) hx hb dX9_isOrder_260 (by decide) ?_
                refine lv_iadd hx hb dX9_isOrder_261 ?_
                refine va_put (D := E.1) (ci := 9) (v := .int (v_at + (nI 1))) (ty := .int) (C := RX9) (T := TX9) (N := 21) hx hb hts iX9 tyX9 tyX9_ok nmX9 hown hK hP hD hS 0 rfl rfl 10 (by decide) (hts _ q1208) (fun _ h9 => h9) rfl (tyX9_ok 10 (by decide)) rfl rfl (Nat.le_of_ble_eq_true rfl) dX9_isOrder_262 (fun H locs hP hD hS => ?_)
                have hP : va_P E.1 vwCl ([gX9 E a v_now v_tried v_kept v_undos v_saved v_isSaved v_line v_lined v_text v_length (v_at + (nI 1)) u3 v_told v_error v_reason v_detail v_answer v_thrown v_mixed v_conflicts v_firstConflict] : List va_W).flatten H := hP
                have hD : va_D A ([gX9 E a v_now v_tried v_kept v_undos v_saved v_isSaved v_line v_lined v_text v_length (v_at + (nI 1)) u3 v_told v_error v_reason v_detail v_answer v_thrown v_mixed v_conflicts v_firstConflict] : List va_W).flatten := hD
                obtain ⟨u108, e109, h⟩ := lt_e h
                rw [← e109] at hP hD
                refine lv_aload_n hx hb dX9_isOrder_265 rfl (lv_at hl 0 rfl) ?_
                refine lv_iconst (v := (nI 0)) hx hb dX9_isOrder_266 (by decide) ?_
                refine lv_iconst (v := (nI 1)) hx hb dX9_isOrder_267 (by decide) ?_
                obtain ⟨⟨r110, w111, w112⟩, hr113, h⟩ := ob h
                dsimp only at h
                refine px_V (As := [.int (nI 0), .int (nI 1)]) (rest := []) (gs := ([gX9 E a v_now v_tried v_kept v_undos v_saved v_isSaved v_line v_lined v_text v_length u108 u3 v_told v_error v_reason v_detail v_answer v_thrown v_mixed v_conflicts v_firstConflict] : List va_W)) (gr := ([] : List va_W)) (gc := ([gX9 E a v_now v_tried v_kept v_undos v_saved v_isSaved v_line v_lined v_text v_length u108 u3 v_told v_error v_reason v_detail v_answer v_thrown v_mixed v_conflicts v_firstConflict] : List va_W)) (g1 := ([gX9 E a v_now v_tried v_kept v_undos v_saved v_isSaved v_line v_lined v_text v_length w111 u3 w112 v_error v_reason v_detail v_answer v_thrown v_mixed v_conflicts v_firstConflict] : List va_W)) (g2 := ([gX9 E a v_now v_tried v_kept v_undos v_saved v_isSaved v_line v_lined v_text v_length w111 u3 w112 v_error v_reason v_detail v_answer v_thrown v_mixed v_conflicts v_firstConflict] : List va_W)) ⟨hx, hb, hml, hown, hts⟩ (c9_digits l E a  ((nI 0)) ((nI 1)) (v_now) (v_tried) (v_kept) (v_undos) (v_saved) (v_isSaved) (v_line) (v_lined) (v_text) (v_length) (u108) (u3) (v_told) (v_error) (v_reason) (v_detail) (v_answer) (v_thrown) (v_mixed) (v_conflicts) (v_firstConflict) r110 w111 w112 hr113) (cwV 2 hts (ws_v q1553 q1555 q54 q68 q1556) rfl rfl rfl hdV_X9_digits (by rw [hR]; exact ⟨Nat.le_of_ble_eq_true rfl, Nat.le_of_ble_eq_true rfl⟩)) hK hN hP hD hS hA [] [0] [0] rfl rfl (by decide) (by decide) rfl (by decide) 0 9 rfl rfl rfl rfl hl.1 rfl (Nat.le_of_ble_eq_true rfl) dX9_isOrder_268 (by rw [hR]; exact ⟨Nat.le_of_ble_eq_true rfl, Nat.le_of_ble_eq_true rfl⟩) (fun H locs hP hD hS => ?_)
                refine W.eq (g2 := F0 m 271 ls [.int (b2i r110)]) rfl ?_
                refine lv_if_eq (tgt := 314) hx hb dX9_isOrder_271 (by decide) (fun c114 => ?_) (fun c114 => ?_)
                · rw [if_pos c114] at h
                  refine lv_iconst (v := (nI 0)) hx hb dX9_isOrder_314 (by decide) ?_
                  cases h
                  refine W.eq (g2 := F0 m 315 ls [.int (b2i false)]) rfl ?_
                  exact px_eWz (b2i_n _) hA0 hQ hP hD hS hx hb hr hlocks dX9_isOrder_315
                · rw [if_neg c114] at h
                  refine lv_aload_n hx hb dX9_isOrder_274 rfl (lv_at hl 0 rfl) ?_
                  refine lv_bipush (v := (nI 60)) hx hb dX9_isOrder_275 (by decide) ?_
                  obtain ⟨⟨r115, w116⟩, hr117, h⟩ := ob h
                  dsimp only at h
                  refine px_V (As := [.int (ch (nI 60))]) (rest := []) (gs := ([gX9 E a v_now v_tried v_kept v_undos v_saved v_isSaved v_line v_lined v_text v_length w111 u3 w112 v_error v_reason v_detail v_answer v_thrown v_mixed v_conflicts v_firstConflict] : List va_W)) (gr := ([] : List va_W)) (gc := ([gX9 E a v_now v_tried v_kept v_undos v_saved v_isSaved v_line v_lined v_text v_length w111 u3 w112 v_error v_reason v_detail v_answer v_thrown v_mixed v_conflicts v_firstConflict] : List va_W)) (g1 := ([gX9 E a v_now v_tried v_kept v_undos v_saved v_isSaved v_line v_lined v_text v_length w116 u3 w112 v_error v_reason v_detail v_answer v_thrown v_mixed v_conflicts v_firstConflict] : List va_W)) (g2 := ([gX9 E a v_now v_tried v_kept v_undos v_saved v_isSaved v_line v_lined v_text v_length w116 u3 w112 v_error v_reason v_detail v_answer v_thrown v_mixed v_conflicts v_firstConflict] : List va_W)) ⟨hx, hb, hml, hown, hts⟩ (c9_sign l E a  ((nI 60)) (v_now) (v_tried) (v_kept) (v_undos) (v_saved) (v_isSaved) (v_line) (v_lined) (v_text) (v_length) (w111) (u3) (w112) (v_error) (v_reason) (v_detail) (v_answer) (v_thrown) (v_mixed) (v_conflicts) (v_firstConflict) r115 w116 hr117) (cwV 1 hts (ws_v q1557 q1559 q55 q68 q1560) rfl rfl rfl hdV_X9_sign (by rw [hR]; exact ⟨Nat.le_of_ble_eq_true rfl, Nat.le_of_ble_eq_true rfl⟩)) hK hN hP hD hS hA [] [0] [0] rfl rfl (by decide) (by decide) rfl (by decide) 0 9 rfl rfl rfl rfl hl.1 rfl (Nat.le_of_ble_eq_true rfl) dX9_isOrder_277 (by rw [hR]; exact ⟨Nat.le_of_ble_eq_true rfl, Nat.le_of_ble_eq_true rfl⟩) (fun H locs hP hD hS => ?_)
                  refine W.eq (g2 := F0 m 280 ls [.int (b2i r115)]) rfl ?_
                  refine lv_if_eq (tgt := 314) hx hb dX9_isOrder_280 (by decide) (fun c118 => ?_) (fun c118 => ?_)
                  · rw [if_pos c118] at h
                    refine lv_iconst (v := (nI 0)) hx hb dX9_isOrder_314 (by decide) ?_
                    cases h
                    refine W.eq (g2 := F0 m 315 ls [.int (b2i false)]) rfl ?_
                    exact px_eWz (b2i_n _) hA0 hQ hP hD hS hx hb hr hlocks dX9_isOrder_315
                  · rw [if_neg c118] at h
                    refine lv_aload_n hx hb dX9_isOrder_283 rfl (lv_at hl 0 rfl) ?_
                    refine lv_iconst (v := (nI 1)) hx hb dX9_isOrder_284 (by decide) ?_
                    refine lv_iconst (v := (nI 2)) hx hb dX9_isOrder_285 (by decide) ?_
                    obtain ⟨⟨r119, w120, w121⟩, hr122, h⟩ := ob h
                    dsimp only at h
                    refine px_V (As := [.int (nI 1), .int (nI 2)]) (rest := []) (gs := ([gX9 E a v_now v_tried v_kept v_undos v_saved v_isSaved v_line v_lined v_text v_length w116 u3 w112 v_error v_reason v_detail v_answer v_thrown v_mixed v_conflicts v_firstConflict] : List va_W)) (gr := ([] : List va_W)) (gc := ([gX9 E a v_now v_tried v_kept v_undos v_saved v_isSaved v_line v_lined v_text v_length w116 u3 w112 v_error v_reason v_detail v_answer v_thrown v_mixed v_conflicts v_firstConflict] : List va_W)) (g1 := ([gX9 E a v_now v_tried v_kept v_undos v_saved v_isSaved v_line v_lined v_text v_length w120 u3 w121 v_error v_reason v_detail v_answer v_thrown v_mixed v_conflicts v_firstConflict] : List va_W)) (g2 := ([gX9 E a v_now v_tried v_kept v_undos v_saved v_isSaved v_line v_lined v_text v_length w120 u3 w121 v_error v_reason v_detail v_answer v_thrown v_mixed v_conflicts v_firstConflict] : List va_W)) ⟨hx, hb, hml, hown, hts⟩ (c9_digits l E a  ((nI 1)) ((nI 2)) (v_now) (v_tried) (v_kept) (v_undos) (v_saved) (v_isSaved) (v_line) (v_lined) (v_text) (v_length) (w116) (u3) (w112) (v_error) (v_reason) (v_detail) (v_answer) (v_thrown) (v_mixed) (v_conflicts) (v_firstConflict) r119 w120 w121 hr122) (cwV 2 hts (ws_v q1553 q1555 q54 q68 q1556) rfl rfl rfl hdV_X9_digits (by rw [hR]; exact ⟨Nat.le_of_ble_eq_true rfl, Nat.le_of_ble_eq_true rfl⟩)) hK hN hP hD hS hA [] [0] [0] rfl rfl (by decide) (by decide) rfl (by decide) 0 9 rfl rfl rfl rfl hl.1 rfl (Nat.le_of_ble_eq_true rfl) dX9_isOrder_286 (by rw [hR]; exact ⟨Nat.le_of_ble_eq_true rfl, Nat.le_of_ble_eq_true rfl⟩) (fun H locs hP hD hS => ?_)
                    refine W.eq (g2 := F0 m 289 ls [.int (b2i r119)]) rfl ?_
                    refine lv_if_eq (tgt := 314) hx hb dX9_isOrder_289 (by decide) (fun c123 => ?_) (fun c123 => ?_)
                    · rw [if_pos c123] at h
                      refine lv_iconst (v := (nI 0)) hx hb dX9_isOrder_314 (by decide) ?_
                      cases h
                      refine W.eq (g2 := F0 m 315 ls [.int (b2i false)]) rfl ?_
                      exact px_eWz (b2i_n _) hA0 hQ hP hD hS hx hb hr hlocks dX9_isOrder_315
                    · rw [if_neg c123] at h
                      refine lv_aload_n hx hb dX9_isOrder_292 rfl (lv_at hl 0 rfl) ?_
                      refine lv_bipush (v := (nI 33)) hx hb dX9_isOrder_293 (by decide) ?_
                      obtain ⟨⟨r124, w125⟩, hr126, h⟩ := ob h
                      dsimp only at h
                      refine px_V (As := [.int (ch (nI 33))]) (rest := []) (gs := ([gX9 E a v_now v_tried v_kept v_undos v_saved v_isSaved v_line v_lined v_text v_length w120 u3 w121 v_error v_reason v_detail v_answer v_thrown v_mixed v_conflicts v_firstConflict] : List va_W)) (gr := ([] : List va_W)) (gc := ([gX9 E a v_now v_tried v_kept v_undos v_saved v_isSaved v_line v_lined v_text v_length w120 u3 w121 v_error v_reason v_detail v_answer v_thrown v_mixed v_conflicts v_firstConflict] : List va_W)) (g1 := ([gX9 E a v_now v_tried v_kept v_undos v_saved v_isSaved v_line v_lined v_text v_length w125 u3 w121 v_error v_reason v_detail v_answer v_thrown v_mixed v_conflicts v_firstConflict] : List va_W)) (g2 := ([gX9 E a v_now v_tried v_kept v_undos v_saved v_isSaved v_line v_lined v_text v_length w125 u3 w121 v_error v_reason v_detail v_answer v_thrown v_mixed v_conflicts v_firstConflict] : List va_W)) ⟨hx, hb, hml, hown, hts⟩ (c9_sign l E a  ((nI 33)) (v_now) (v_tried) (v_kept) (v_undos) (v_saved) (v_isSaved) (v_line) (v_lined) (v_text) (v_length) (w120) (u3) (w121) (v_error) (v_reason) (v_detail) (v_answer) (v_thrown) (v_mixed) (v_conflicts) (v_firstConflict) r124 w125 hr126) (cwV 1 hts (ws_v q1557 q1559 q55 q68 q1560) rfl rfl rfl hdV_X9_sign (by rw [hR]; exact ⟨Nat.le_of_ble_eq_true rfl, Nat.le_of_ble_eq_true rfl⟩)) hK hN hP hD hS hA [] [0] [0] rfl rfl (by decide) (by decide) rfl (by decide) 0 9 rfl rfl rfl rfl hl.1 rfl (Nat.le_of_ble_eq_true rfl) dX9_isOrder_295 (by rw [hR]; exact ⟨Nat.le_of_ble_eq_true rfl, Nat.le_of_ble_eq_true rfl⟩) (fun H locs hP hD hS => ?_)
                      refine W.eq (g2 := F0 m 298 ls [.int (b2i r124)]) rfl ?_
                      refine lv_if_eq (tgt := 314) hx hb dX9_isOrder_298 (by decide) (fun c127 => ?_) (fun c127 => ?_)
                      · rw [if_pos c127] at h
                        refine lv_iconst (v := (nI 0)) hx hb dX9_isOrder_314 (by decide) ?_
                        cases h
                        refine W.eq (g2 := F0 m 315 ls [.int (b2i false)]) rfl ?_
                        exact px_eWz (b2i_n _) hA0 hQ hP hD hS hx hb hr hlocks dX9_isOrder_315
                      · rw [if_neg c127] at h
                        refine lv_aload_n hx hb dX9_isOrder_301 rfl (lv_at hl 0 rfl) ?_
                        refine lv_iconst (v := (nI 2)) hx hb dX9_isOrder_302 (by decide) ?_
                        refine lv_iconst (v := (nI 1)) hx hb dX9_isOrder_303 (by decide) ?_
                        obtain ⟨⟨r128, w129, w130⟩, hr131, h⟩ := ob h
                        dsimp only at h
                        refine px_V (As := [.int (nI 2), .int (nI 1)]) (rest := []) (gs := ([gX9 E a v_now v_tried v_kept v_undos v_saved v_isSaved v_line v_lined v_text v_length w125 u3 w121 v_error v_reason v_detail v_answer v_thrown v_mixed v_conflicts v_firstConflict] : List va_W)) (gr := ([] : List va_W)) (gc := ([gX9 E a v_now v_tried v_kept v_undos v_saved v_isSaved v_line v_lined v_text v_length w125 u3 w121 v_error v_reason v_detail v_answer v_thrown v_mixed v_conflicts v_firstConflict] : List va_W)) (g1 := ([gX9 E a v_now v_tried v_kept v_undos v_saved v_isSaved v_line v_lined v_text v_length w129 u3 w130 v_error v_reason v_detail v_answer v_thrown v_mixed v_conflicts v_firstConflict] : List va_W)) (g2 := ([gX9 E a v_now v_tried v_kept v_undos v_saved v_isSaved v_line v_lined v_text v_length w129 u3 w130 v_error v_reason v_detail v_answer v_thrown v_mixed v_conflicts v_firstConflict] : List va_W)) ⟨hx, hb, hml, hown, hts⟩ (c9_digits l E a  ((nI 2)) ((nI 1)) (v_now) (v_tried) (v_kept) (v_undos) (v_saved) (v_isSaved) (v_line) (v_lined) (v_text) (v_length) (w125) (u3) (w121) (v_error) (v_reason) (v_detail) (v_answer) (v_thrown) (v_mixed) (v_conflicts) (v_firstConflict) r128 w129 w130 hr131) (cwV 2 hts (ws_v q1553 q1555 q54 q68 q1556) rfl rfl rfl hdV_X9_digits (by rw [hR]; exact ⟨Nat.le_of_ble_eq_true rfl, Nat.le_of_ble_eq_true rfl⟩)) hK hN hP hD hS hA [] [0] [0] rfl rfl (by decide) (by decide) rfl (by decide) 0 9 rfl rfl rfl rfl hl.1 rfl (Nat.le_of_ble_eq_true rfl) dX9_isOrder_304 (by rw [hR]; exact ⟨Nat.le_of_ble_eq_true rfl, Nat.le_of_ble_eq_true rfl⟩) (fun H locs hP hD hS => ?_)
                        refine W.eq (g2 := F0 m 307 ls [.int (b2i r128)]) rfl ?_
                        refine lv_if_eq (tgt := 314) hx hb dX9_isOrder_307 (by decide) (fun c132 => ?_) (fun c132 => ?_)
                        · rw [if_pos c132] at h
                          refine lv_iconst (v := (nI 0)) hx hb dX9_isOrder_314 (by decide) ?_
                          cases h
                          refine W.eq (g2 := F0 m 315 ls [.int (b2i false)]) rfl ?_
                          exact px_eWz (b2i_n _) hA0 hQ hP hD hS hx hb hr hlocks dX9_isOrder_315
                        · rw [if_neg c132] at h
                          refine lv_iconst (v := (nI 1)) hx hb dX9_isOrder_310 (by decide) ?_
                          refine lv_goto (tgt := 315) hx hb dX9_isOrder_311 (by decide) ?_
                          cases h
                          refine W.eq (g2 := F0 m 315 ls [.int (b2i true)]) rfl ?_
                          exact px_eWz (b2i_n _) hA0 hQ hP hD hS hx hb hr hlocks dX9_isOrder_315
              · rw [if_neg c107] at h
                refine px_tdef hx hb dX9_isOrder_30 (fun w1 w2 => ?_) (tgt := 359) (by decide) ?_
                · obtain w | w | w | w | w | w | w | w | w | w | w | w | w | w | w | w | w | w : ((ch u3)).toInt = 101 ∨ ((ch u3)).toInt = 102 ∨ ((ch u3)).toInt = 103 ∨ ((ch u3)).toInt = 104 ∨ ((ch u3)).toInt = 105 ∨ ((ch u3)).toInt = 106 ∨ ((ch u3)).toInt = 107 ∨ ((ch u3)).toInt = 108 ∨ ((ch u3)).toInt = 109 ∨ ((ch u3)).toInt = 110 ∨ ((ch u3)).toInt = 111 ∨ ((ch u3)).toInt = 112 ∨ ((ch u3)).toInt = 113 ∨ ((ch u3)).toInt = 114 ∨ ((ch u3)).toInt = 115 ∨ ((ch u3)).toInt = 116 ∨ ((ch u3)).toInt = 117 ∨ ((ch u3)).toInt = 118 := by omega
                  · exact absurd (Int32.toInt_inj.mp (w.trans (show (101 : Int) = (nI 101).toInt from by decide))) c5
                  · exact absurd (Int32.toInt_inj.mp (w.trans (show (102 : Int) = (nI 102).toInt from by decide))) c31
                  · rw [w]; rfl
                  · rw [w]; rfl
                  · rw [w]; rfl
                  · rw [w]; rfl
                  · rw [w]; rfl
                  · rw [w]; rfl
                  · exact absurd (Int32.toInt_inj.mp (w.trans (show (109 : Int) = (nI 109).toInt from by decide))) c38
                  · rw [w]; rfl
                  · rw [w]; rfl
                  · exact absurd (Int32.toInt_inj.mp (w.trans (show (112 : Int) = (nI 112).toInt from by decide))) c64
                  · rw [w]; rfl
                  · exact absurd (Int32.toInt_inj.mp (w.trans (show (114 : Int) = (nI 114).toInt from by decide))) c90
                  · rw [w]; rfl
                  · rw [w]; rfl
                  · rw [w]; rfl
                  · exact absurd (Int32.toInt_inj.mp (w.trans (show (118 : Int) = (nI 118).toInt from by decide))) c107
                · refine lv_iconst (v := (nI 0)) hx hb dX9_isOrder_359 (by decide) ?_
                  cases h
                  refine W.eq (g2 := F0 m 360 ls [.int (b2i false)]) rfl ?_
                  exact px_eWz (b2i_n _) hA0 hQ hP hD hS hx hb hr hlocks dX9_isOrder_360
  · rw [if_pos c1] at h
    refine lv_iconst (v := (nI 0)) hx hb dX9_isOrder_11 (by decide) ?_
    cases h
    refine W.eq (g2 := F0 m 12 ls [.int (b2i false)]) rfl ?_
    exact px_eWz (b2i_n _) hA0 hQ hP hD hS hx hb hr hlocks dX9_isOrder_12
def f9_carries  (v_now : AI) (v_order : Int32) (v_told : AI) (v_reason : Int32) (v_detail : Int32) (v_answer : Int32) (v_mixed : AI) (v_conflicts : Int32) (v_firstConflict : Int32) : Option (Int32 × AI × Int32 × Int32 × Int32 × AI × Int32 × Int32) := (if (ch v_order) = nI 101 then ((f9_edits ((v_told ((nI 0)).toNatClampNeg)) ((v_told ((nI 1)).toNatClampNeg)) ((v_told ((nI 2)).toNatClampNeg)) (v_now) (v_reason) (v_detail) (v_answer)).bind fun (r2, w3, w4, w5, w6) => (some (r2, w3, w4, w5, w6, v_mixed, v_conflicts, v_firstConflict))) else (if (ch v_order) = nI 102 then ((f9_forks ((v_told ((nI 0)).toNatClampNeg)) (v_now) (v_reason) (v_detail) (v_answer)).bind fun (r9, w10, w11, w12, w13) => (some (r9, w10, w11, w12, w13, v_mixed, v_conflicts, v_firstConflict))) else (if (ch v_order) = nI 109 then ((f9_merges ((v_told ((nI 0)).toNatClampNeg)) ((v_told ((nI 1)).toNatClampNeg)) ((v_told ((nI 2)).toNatClampNeg)) (v_now) (v_reason) (v_detail) (v_answer) (v_mixed) (v_conflicts) (v_firstConflict)).bind fun (r16, w17, w18, w19, w20, w21, w22, w23) => (some (r16, w17, w18, w19, w20, w21, w22, w23))) else (if (ch v_order) = nI 112 then ((f9_picks ((v_told ((nI 0)).toNatClampNeg)) ((v_told ((nI 1)).toNatClampNeg)) ((v_told ((nI 2)).toNatClampNeg)) (v_now) (v_reason) (v_detail) (v_answer) (v_mixed) (v_conflicts) (v_firstConflict)).bind fun (r26, w27, w28, w29, w30, w31, w32, w33) => (some (r26, w27, w28, w29, w30, w31, w32, w33))) else (if (ch v_order) = nI 118 then ((f9_reverts ((v_told ((nI 0)).toNatClampNeg)) ((v_told ((nI 1)).toNatClampNeg)) ((v_told ((nI 2)).toNatClampNeg)) (v_now) (v_reason) (v_detail) (v_answer) (v_mixed) (v_conflicts) (v_firstConflict)).bind fun (r36, w37, w38, w39, w40, w41, w42, w43) => (some (r36, w37, w38, w39, w40, w41, w42, w43))) else ((f9_resets ((v_told ((nI 0)).toNatClampNeg)) ((v_told ((nI 1)).toNatClampNeg)) (v_now) (v_reason) (v_detail) (v_answer)).bind fun (r45, w46, w47, w48, w49) => (some (r45, w46, w47, w48, w49, v_mixed, v_conflicts, v_firstConflict))))))))
set_option maxHeartbeats 4000000 in
set_option maxRecDepth 100000 in
theorem c9_carries (l : Launch) (E : PE) (a : Nat → Nat)   (v_now : AI) (v_tried : AI) (v_kept : AI) (v_undos : Int32) (v_saved : AI) (v_isSaved : Int32) (v_line : AI) (v_lined : Int32) (v_text : AI) (v_length : Int32) (v_at : Int32) (v_order : Int32) (v_told : AI) (v_error : Int32) (v_reason : Int32) (v_detail : Int32) (v_answer : Int32) (v_thrown : Int32) (v_mixed : AI) (v_conflicts : Int32) (v_firstConflict : Int32) (r : Int32) (z_this_now : AI) (z_this_reason : Int32) (z_this_detail : Int32) (z_this_answer : Int32) (z_this_mixed : AI) (z_this_conflicts : Int32) (z_this_firstConflict : Int32) (h : f9_carries v_now v_order v_told v_reason v_detail v_answer v_mixed v_conflicts v_firstConflict = some (r, z_this_now, z_this_reason, z_this_detail, z_this_answer, z_this_mixed, z_this_conflicts, z_this_firstConflict)) : MW l yX9_carries cX9_carries 1 (some .int) { frames := 5, cells := 0, slots := 0, locals := 116 } E [.ref (a 0)] ([gX9 E a v_now v_tried v_kept v_undos v_saved v_isSaved v_line v_lined v_text v_length v_at v_order v_told v_error v_reason v_detail v_answer v_thrown v_mixed v_conflicts v_firstConflict] : List va_W).flatten 0 0 (some (.int r)) ([gX9 E a z_this_now v_tried v_kept v_undos v_saved v_isSaved v_line v_lined v_text v_length v_at v_order v_told v_error z_this_reason z_this_detail z_this_answer v_thrown z_this_mixed z_this_conflicts z_this_firstConflict] : List va_W).flatten := by
  refine px_startW (by decide +kernel) (Nat.le_of_ble_eq_true rfl) ?_
  intro p e s m args below meth c R Q A ls hC hA0 hQ
  obtain ⟨hx, hb, hr, hml, hts, hown, hlocks, hR, hK, hN, hP, hD, hA, hl, hin⟩ := hC
  have hl : lv_has ls 1 [(0, .ref (a 0))] := hl
  suffices key : ∀ (H : Heap) (locs : List Loc), va_P E.1 vwCl ([gX9 E a v_now v_tried v_kept v_undos v_saved v_isSaved v_line v_lined v_text v_length v_at v_order v_told v_error v_reason v_detail v_answer v_thrown v_mixed v_conflicts v_firstConflict] : List va_W).flatten H → va_S A s.heap H locs → W p l e R s m args below meth c H locs 0 0 Q (F0 m 0 ls []) from key s.heap [] hP va_S.rf
  unfold f9_carries at h
  intro H locs hP hS
  refine lv_aload_n hx hb dX9_carries_0 rfl (lv_at hl 0 rfl) ?_
  refine va_get (D := E.1) (ci := 9) (v := .int (ch v_order)) (C := RX9) (T := TX9) (N := 21) hx hb hts iX9 hown hK hP 0 rfl rfl 11 (by decide) (hts _ q1209) (fun _ h9 => h9) rfl dX9_carries_1 ?_
  by_cases c1 : (ch v_order) = nI 101
  · rw [if_pos c1] at h
    refine lv_lookup (off := 52) (tgt := 56) hx hb dX9_carries_4 (by decide) (by rw [c1]; rfl) (by decide) ?_
    refine lv_aload_n hx hb dX9_carries_56 rfl (lv_at hl 0 rfl) ?_
    refine lv_aload_n hx hb dX9_carries_57 rfl (lv_at hl 0 rfl) ?_
    refine va_get (D := E.1) (ci := 9) (v := .ref (a 7)) (C := RX9) (T := TX9) (N := 21) hx hb hts iX9 hown hK hP 0 rfl rfl 12 (by decide) (hts _ q1210) (fun _ h9 => h9) rfl dX9_carries_58 ?_
    refine lv_iconst (v := (nI 0)) hx hb dX9_carries_61 (by decide) ?_
    refine va_iald (f := v_told) hx hb hK hP 7 0 rfl rfl (inb_in (i := (nI 0)) (n := 3) (by decide)) dX9_carries_62 ?_
    refine lv_aload_n hx hb dX9_carries_63 rfl (lv_at hl 0 rfl) ?_
    refine va_get (D := E.1) (ci := 9) (v := .ref (a 7)) (C := RX9) (T := TX9) (N := 21) hx hb hts iX9 hown hK hP 0 rfl rfl 12 (by decide) (hts _ q1210) (fun _ h9 => h9) rfl dX9_carries_64 ?_
    refine lv_iconst (v := (nI 1)) hx hb dX9_carries_67 (by decide) ?_
    refine va_iald (f := v_told) hx hb hK hP 7 0 rfl rfl (inb_in (i := (nI 1)) (n := 3) (by decide)) dX9_carries_68 ?_
    refine lv_aload_n hx hb dX9_carries_69 rfl (lv_at hl 0 rfl) ?_
    refine va_get (D := E.1) (ci := 9) (v := .ref (a 7)) (C := RX9) (T := TX9) (N := 21) hx hb hts iX9 hown hK hP 0 rfl rfl 12 (by decide) (hts _ q1210) (fun _ h9 => h9) rfl dX9_carries_70 ?_
    refine lv_iconst (v := (nI 2)) hx hb dX9_carries_73 (by decide) ?_
    refine va_iald (f := v_told) hx hb hK hP 7 0 rfl rfl (inb_in (i := (nI 2)) (n := 3) (by decide)) dX9_carries_74 ?_
    obtain ⟨⟨r2, w3, w4, w5, w6⟩, hr7, h⟩ := ob h
    dsimp only at h
    refine px_V (As := [.int (v_told ((nI 0)).toNatClampNeg), .int (v_told ((nI 1)).toNatClampNeg), .int (v_told ((nI 2)).toNatClampNeg)]) (rest := []) (gs := ([gX9 E a v_now v_tried v_kept v_undos v_saved v_isSaved v_line v_lined v_text v_length v_at v_order v_told v_error v_reason v_detail v_answer v_thrown v_mixed v_conflicts v_firstConflict] : List va_W)) (gr := ([] : List va_W)) (gc := ([gX9 E a v_now v_tried v_kept v_undos v_saved v_isSaved v_line v_lined v_text v_length v_at v_order v_told v_error v_reason v_detail v_answer v_thrown v_mixed v_conflicts v_firstConflict] : List va_W)) (g1 := ([gX9 E a w3 v_tried v_kept v_undos v_saved v_isSaved v_line v_lined v_text v_length v_at v_order v_told v_error w4 w5 w6 v_thrown v_mixed v_conflicts v_firstConflict] : List va_W)) (g2 := ([gX9 E a w3 v_tried v_kept v_undos v_saved v_isSaved v_line v_lined v_text v_length v_at v_order v_told v_error w4 w5 w6 v_thrown v_mixed v_conflicts v_firstConflict] : List va_W)) ⟨hx, hb, hml, hown, hts⟩ (c9_edits l E a  ((v_told ((nI 0)).toNatClampNeg)) ((v_told ((nI 1)).toNatClampNeg)) ((v_told ((nI 2)).toNatClampNeg)) (v_now) (v_tried) (v_kept) (v_undos) (v_saved) (v_isSaved) (v_line) (v_lined) (v_text) (v_length) (v_at) (v_order) (v_told) (v_error) (v_reason) (v_detail) (v_answer) (v_thrown) (v_mixed) (v_conflicts) (v_firstConflict) r2 w3 w4 w5 w6 hr7) (cwV 3 hts (ws_v q1274 q1276 q18 q68 q1277) rfl rfl rfl hdV_X9_edits (by rw [hR]; exact ⟨Nat.le_of_ble_eq_true rfl, Nat.le_of_ble_eq_true rfl⟩)) hK hN hP hD hS hA [] [0] [0] rfl rfl (by decide) (by decide) rfl (by decide) 0 9 rfl rfl rfl rfl hl.1 rfl (Nat.le_of_ble_eq_true rfl) dX9_carries_75 (by rw [hR]; exact ⟨Nat.le_of_ble_eq_true rfl, Nat.le_of_ble_eq_true rfl⟩) (fun H locs hP hD hS => ?_)
    refine W.eq (g2 := F0 m 78 ls [.int r2]) rfl ?_
    cases h
    exact px_eWi hA0 hQ hP hD hS hx hb hr hlocks dX9_carries_78
  · rw [if_neg c1] at h
    by_cases c8 : (ch v_order) = nI 102
    · rw [if_pos c8] at h
      refine lv_lookup (off := 75) (tgt := 79) hx hb dX9_carries_4 (by decide) (by rw [c8]; rfl) (by decide) ?_
      refine lv_aload_n hx hb dX9_carries_79 rfl (lv_at hl 0 rfl) ?_
      refine lv_aload_n hx hb dX9_carries_80 rfl (lv_at hl 0 rfl) ?_
      refine va_get (D := E.1) (ci := 9) (v := .ref (a 7)) (C := RX9) (T := TX9) (N := 21) hx hb hts iX9 hown hK hP 0 rfl rfl 12 (by decide) (hts _ q1210) (fun _ h9 => h9) rfl dX9_carries_81 ?_
      refine lv_iconst (v := (nI 0)) hx hb dX9_carries_84 (by decide) ?_
      refine va_iald (f := v_told) hx hb hK hP 7 0 rfl rfl (inb_in (i := (nI 0)) (n := 3) (by decide)) dX9_carries_85 ?_
      obtain ⟨⟨r9, w10, w11, w12, w13⟩, hr14, h⟩ := ob h
      dsimp only at h
      refine px_V (As := [.int (v_told ((nI 0)).toNatClampNeg)]) (rest := []) (gs := ([gX9 E a v_now v_tried v_kept v_undos v_saved v_isSaved v_line v_lined v_text v_length v_at v_order v_told v_error v_reason v_detail v_answer v_thrown v_mixed v_conflicts v_firstConflict] : List va_W)) (gr := ([] : List va_W)) (gc := ([gX9 E a v_now v_tried v_kept v_undos v_saved v_isSaved v_line v_lined v_text v_length v_at v_order v_told v_error v_reason v_detail v_answer v_thrown v_mixed v_conflicts v_firstConflict] : List va_W)) (g1 := ([gX9 E a w10 v_tried v_kept v_undos v_saved v_isSaved v_line v_lined v_text v_length v_at v_order v_told v_error w11 w12 w13 v_thrown v_mixed v_conflicts v_firstConflict] : List va_W)) (g2 := ([gX9 E a w10 v_tried v_kept v_undos v_saved v_isSaved v_line v_lined v_text v_length v_at v_order v_told v_error w11 w12 w13 v_thrown v_mixed v_conflicts v_firstConflict] : List va_W)) ⟨hx, hb, hml, hown, hts⟩ (c9_forks l E a  ((v_told ((nI 0)).toNatClampNeg)) (v_now) (v_tried) (v_kept) (v_undos) (v_saved) (v_isSaved) (v_line) (v_lined) (v_text) (v_length) (v_at) (v_order) (v_told) (v_error) (v_reason) (v_detail) (v_answer) (v_thrown) (v_mixed) (v_conflicts) (v_firstConflict) r9 w10 w11 w12 w13 hr14) (cwV 1 hts (ws_v q1328 q1330 q29 q68 q1331) rfl rfl rfl hdV_X9_forks (by rw [hR]; exact ⟨Nat.le_of_ble_eq_true rfl, Nat.le_of_ble_eq_true rfl⟩)) hK hN hP hD hS hA [] [0] [0] rfl rfl (by decide) (by decide) rfl (by decide) 0 9 rfl rfl rfl rfl hl.1 rfl (Nat.le_of_ble_eq_true rfl) dX9_carries_86 (by rw [hR]; exact ⟨Nat.le_of_ble_eq_true rfl, Nat.le_of_ble_eq_true rfl⟩) (fun H locs hP hD hS => ?_)
      refine W.eq (g2 := F0 m 89 ls [.int r9]) rfl ?_
      cases h
      exact px_eWi hA0 hQ hP hD hS hx hb hr hlocks dX9_carries_89
    · rw [if_neg c8] at h
      by_cases c15 : (ch v_order) = nI 109
      · rw [if_pos c15] at h
        refine lv_lookup (off := 86) (tgt := 90) hx hb dX9_carries_4 (by decide) (by rw [c15]; rfl) (by decide) ?_
        refine lv_aload_n hx hb dX9_carries_90 rfl (lv_at hl 0 rfl) ?_
        refine lv_aload_n hx hb dX9_carries_91 rfl (lv_at hl 0 rfl) ?_
        refine va_get (D := E.1) (ci := 9) (v := .ref (a 7)) (C := RX9) (T := TX9) (N := 21) hx hb hts iX9 hown hK hP 0 rfl rfl 12 (by decide) (hts _ q1210) (fun _ h9 => h9) rfl dX9_carries_92 ?_
        refine lv_iconst (v := (nI 0)) hx hb dX9_carries_95 (by decide) ?_
        refine va_iald (f := v_told) hx hb hK hP 7 0 rfl rfl (inb_in (i := (nI 0)) (n := 3) (by decide)) dX9_carries_96 ?_
        refine lv_aload_n hx hb dX9_carries_97 rfl (lv_at hl 0 rfl) ?_
        refine va_get (D := E.1) (ci := 9) (v := .ref (a 7)) (C := RX9) (T := TX9) (N := 21) hx hb hts iX9 hown hK hP 0 rfl rfl 12 (by decide) (hts _ q1210) (fun _ h9 => h9) rfl dX9_carries_98 ?_
        refine lv_iconst (v := (nI 1)) hx hb dX9_carries_101 (by decide) ?_
        refine va_iald (f := v_told) hx hb hK hP 7 0 rfl rfl (inb_in (i := (nI 1)) (n := 3) (by decide)) dX9_carries_102 ?_
        refine lv_aload_n hx hb dX9_carries_103 rfl (lv_at hl 0 rfl) ?_
        refine va_get (D := E.1) (ci := 9) (v := .ref (a 7)) (C := RX9) (T := TX9) (N := 21) hx hb hts iX9 hown hK hP 0 rfl rfl 12 (by decide) (hts _ q1210) (fun _ h9 => h9) rfl dX9_carries_104 ?_
        refine lv_iconst (v := (nI 2)) hx hb dX9_carries_107 (by decide) ?_
        refine va_iald (f := v_told) hx hb hK hP 7 0 rfl rfl (inb_in (i := (nI 2)) (n := 3) (by decide)) dX9_carries_108 ?_
        obtain ⟨⟨r16, w17, w18, w19, w20, w21, w22, w23⟩, hr24, h⟩ := ob h
        dsimp only at h
        refine px_V (As := [.int (v_told ((nI 0)).toNatClampNeg), .int (v_told ((nI 1)).toNatClampNeg), .int (v_told ((nI 2)).toNatClampNeg)]) (rest := []) (gs := ([gX9 E a v_now v_tried v_kept v_undos v_saved v_isSaved v_line v_lined v_text v_length v_at v_order v_told v_error v_reason v_detail v_answer v_thrown v_mixed v_conflicts v_firstConflict] : List va_W)) (gr := ([] : List va_W)) (gc := ([gX9 E a v_now v_tried v_kept v_undos v_saved v_isSaved v_line v_lined v_text v_length v_at v_order v_told v_error v_reason v_detail v_answer v_thrown v_mixed v_conflicts v_firstConflict] : List va_W)) (g1 := ([gX9 E a w17 v_tried v_kept v_undos v_saved v_isSaved v_line v_lined v_text v_length v_at v_order v_told v_error w18 w19 w20 v_thrown w21 w22 w23] : List va_W)) (g2 := ([gX9 E a w17 v_tried v_kept v_undos v_saved v_isSaved v_line v_lined v_text v_length v_at v_order v_told v_error w18 w19 w20 v_thrown w21 w22 w23] : List va_W)) ⟨hx, hb, hml, hown, hts⟩ (c9_merges l E a  ((v_told ((nI 0)).toNatClampNeg)) ((v_told ((nI 1)).toNatClampNeg)) ((v_told ((nI 2)).toNatClampNeg)) (v_now) (v_tried) (v_kept) (v_undos) (v_saved) (v_isSaved) (v_line) (v_lined) (v_text) (v_length) (v_at) (v_order) (v_told) (v_error) (v_reason) (v_detail) (v_answer) (v_thrown) (v_mixed) (v_conflicts) (v_firstConflict) r16 w17 w18 w19 w20 w21 w22 w23 hr24) (cwV 3 hts (ws_v q1378 q1380 q36 q68 q1381) rfl rfl rfl hdV_X9_merges (by rw [hR]; exact ⟨Nat.le_of_ble_eq_true rfl, Nat.le_of_ble_eq_true rfl⟩)) hK hN hP hD hS hA [] [0] [0] rfl rfl (by decide) (by decide) rfl (by decide) 0 9 rfl rfl rfl rfl hl.1 rfl (Nat.le_of_ble_eq_true rfl) dX9_carries_109 (by rw [hR]; exact ⟨Nat.le_of_ble_eq_true rfl, Nat.le_of_ble_eq_true rfl⟩) (fun H locs hP hD hS => ?_)
        refine W.eq (g2 := F0 m 112 ls [.int r16]) rfl ?_
        cases h
        exact px_eWi hA0 hQ hP hD hS hx hb hr hlocks dX9_carries_112
      · rw [if_neg c15] at h
        by_cases c25 : (ch v_order) = nI 112
        · rw [if_pos c25] at h
          refine lv_lookup (off := 109) (tgt := 113) hx hb dX9_carries_4 (by decide) (by rw [c25]; rfl) (by decide) ?_
          refine lv_aload_n hx hb dX9_carries_113 rfl (lv_at hl 0 rfl) ?_
          refine lv_aload_n hx hb dX9_carries_114 rfl (lv_at hl 0 rfl) ?_
          refine va_get (D := E.1) (ci := 9) (v := .ref (a 7)) (C := RX9) (T := TX9) (N := 21) hx hb hts iX9 hown hK hP 0 rfl rfl 12 (by decide) (hts _ q1210) (fun _ h9 => h9) rfl dX9_carries_115 ?_
          refine lv_iconst (v := (nI 0)) hx hb dX9_carries_118 (by decide) ?_
          refine va_iald (f := v_told) hx hb hK hP 7 0 rfl rfl (inb_in (i := (nI 0)) (n := 3) (by decide)) dX9_carries_119 ?_
          refine lv_aload_n hx hb dX9_carries_120 rfl (lv_at hl 0 rfl) ?_
          refine va_get (D := E.1) (ci := 9) (v := .ref (a 7)) (C := RX9) (T := TX9) (N := 21) hx hb hts iX9 hown hK hP 0 rfl rfl 12 (by decide) (hts _ q1210) (fun _ h9 => h9) rfl dX9_carries_121 ?_
          refine lv_iconst (v := (nI 1)) hx hb dX9_carries_124 (by decide) ?_
          refine va_iald (f := v_told) hx hb hK hP 7 0 rfl rfl (inb_in (i := (nI 1)) (n := 3) (by decide)) dX9_carries_125 ?_
          refine lv_aload_n hx hb dX9_carries_126 rfl (lv_at hl 0 rfl) ?_
          refine va_get (D := E.1) (ci := 9) (v := .ref (a 7)) (C := RX9) (T := TX9) (N := 21) hx hb hts iX9 hown hK hP 0 rfl rfl 12 (by decide) (hts _ q1210) (fun _ h9 => h9) rfl dX9_carries_127 ?_
          refine lv_iconst (v := (nI 2)) hx hb dX9_carries_130 (by decide) ?_
          refine va_iald (f := v_told) hx hb hK hP 7 0 rfl rfl (inb_in (i := (nI 2)) (n := 3) (by decide)) dX9_carries_131 ?_
          obtain ⟨⟨r26, w27, w28, w29, w30, w31, w32, w33⟩, hr34, h⟩ := ob h
          dsimp only at h
          refine px_V (As := [.int (v_told ((nI 0)).toNatClampNeg), .int (v_told ((nI 1)).toNatClampNeg), .int (v_told ((nI 2)).toNatClampNeg)]) (rest := []) (gs := ([gX9 E a v_now v_tried v_kept v_undos v_saved v_isSaved v_line v_lined v_text v_length v_at v_order v_told v_error v_reason v_detail v_answer v_thrown v_mixed v_conflicts v_firstConflict] : List va_W)) (gr := ([] : List va_W)) (gc := ([gX9 E a v_now v_tried v_kept v_undos v_saved v_isSaved v_line v_lined v_text v_length v_at v_order v_told v_error v_reason v_detail v_answer v_thrown v_mixed v_conflicts v_firstConflict] : List va_W)) (g1 := ([gX9 E a w27 v_tried v_kept v_undos v_saved v_isSaved v_line v_lined v_text v_length v_at v_order v_told v_error w28 w29 w30 v_thrown w31 w32 w33] : List va_W)) (g2 := ([gX9 E a w27 v_tried v_kept v_undos v_saved v_isSaved v_line v_lined v_text v_length v_at v_order v_told v_error w28 w29 w30 v_thrown w31 w32 w33] : List va_W)) ⟨hx, hb, hml, hown, hts⟩ (c9_picks l E a  ((v_told ((nI 0)).toNatClampNeg)) ((v_told ((nI 1)).toNatClampNeg)) ((v_told ((nI 2)).toNatClampNeg)) (v_now) (v_tried) (v_kept) (v_undos) (v_saved) (v_isSaved) (v_line) (v_lined) (v_text) (v_length) (v_at) (v_order) (v_told) (v_error) (v_reason) (v_detail) (v_answer) (v_thrown) (v_mixed) (v_conflicts) (v_firstConflict) r26 w27 w28 w29 w30 w31 w32 w33 hr34) (cwV 3 hts (ws_v q1402 q1404 q41 q68 q1405) rfl rfl rfl hdV_X9_picks (by rw [hR]; exact ⟨Nat.le_of_ble_eq_true rfl, Nat.le_of_ble_eq_true rfl⟩)) hK hN hP hD hS hA [] [0] [0] rfl rfl (by decide) (by decide) rfl (by decide) 0 9 rfl rfl rfl rfl hl.1 rfl (Nat.le_of_ble_eq_true rfl) dX9_carries_132 (by rw [hR]; exact ⟨Nat.le_of_ble_eq_true rfl, Nat.le_of_ble_eq_true rfl⟩) (fun H locs hP hD hS => ?_)
          refine W.eq (g2 := F0 m 135 ls [.int r26]) rfl ?_
          cases h
          exact px_eWi hA0 hQ hP hD hS hx hb hr hlocks dX9_carries_135
        · rw [if_neg c25] at h
          by_cases c35 : (ch v_order) = nI 118
          · rw [if_pos c35] at h
            refine lv_lookup (off := 132) (tgt := 136) hx hb dX9_carries_4 (by decide) (by rw [c35]; rfl) (by decide) ?_
            refine lv_aload_n hx hb dX9_carries_136 rfl (lv_at hl 0 rfl) ?_
            refine lv_aload_n hx hb dX9_carries_137 rfl (lv_at hl 0 rfl) ?_
            refine va_get (D := E.1) (ci := 9) (v := .ref (a 7)) (C := RX9) (T := TX9) (N := 21) hx hb hts iX9 hown hK hP 0 rfl rfl 12 (by decide) (hts _ q1210) (fun _ h9 => h9) rfl dX9_carries_138 ?_
            refine lv_iconst (v := (nI 0)) hx hb dX9_carries_141 (by decide) ?_
            refine va_iald (f := v_told) hx hb hK hP 7 0 rfl rfl (inb_in (i := (nI 0)) (n := 3) (by decide)) dX9_carries_142 ?_
            refine lv_aload_n hx hb dX9_carries_143 rfl (lv_at hl 0 rfl) ?_
            refine va_get (D := E.1) (ci := 9) (v := .ref (a 7)) (C := RX9) (T := TX9) (N := 21) hx hb hts iX9 hown hK hP 0 rfl rfl 12 (by decide) (hts _ q1210) (fun _ h9 => h9) rfl dX9_carries_144 ?_
            refine lv_iconst (v := (nI 1)) hx hb dX9_carries_147 (by decide) ?_
            refine va_iald (f := v_told) hx hb hK hP 7 0 rfl rfl (inb_in (i := (nI 1)) (n := 3) (by decide)) dX9_carries_148 ?_
            refine lv_aload_n hx hb dX9_carries_149 rfl (lv_at hl 0 rfl) ?_
            refine va_get (D := E.1) (ci := 9) (v := .ref (a 7)) (C := RX9) (T := TX9) (N := 21) hx hb hts iX9 hown hK hP 0 rfl rfl 12 (by decide) (hts _ q1210) (fun _ h9 => h9) rfl dX9_carries_150 ?_
            refine lv_iconst (v := (nI 2)) hx hb dX9_carries_153 (by decide) ?_
            refine va_iald (f := v_told) hx hb hK hP 7 0 rfl rfl (inb_in (i := (nI 2)) (n := 3) (by decide)) dX9_carries_154 ?_
            obtain ⟨⟨r36, w37, w38, w39, w40, w41, w42, w43⟩, hr44, h⟩ := ob h
            dsimp only at h
            refine px_V (As := [.int (v_told ((nI 0)).toNatClampNeg), .int (v_told ((nI 1)).toNatClampNeg), .int (v_told ((nI 2)).toNatClampNeg)]) (rest := []) (gs := ([gX9 E a v_now v_tried v_kept v_undos v_saved v_isSaved v_line v_lined v_text v_length v_at v_order v_told v_error v_reason v_detail v_answer v_thrown v_mixed v_conflicts v_firstConflict] : List va_W)) (gr := ([] : List va_W)) (gc := ([gX9 E a v_now v_tried v_kept v_undos v_saved v_isSaved v_line v_lined v_text v_length v_at v_order v_told v_error v_reason v_detail v_answer v_thrown v_mixed v_conflicts v_firstConflict] : List va_W)) (g1 := ([gX9 E a w37 v_tried v_kept v_undos v_saved v_isSaved v_line v_lined v_text v_length v_at v_order v_told v_error w38 w39 w40 v_thrown w41 w42 w43] : List va_W)) (g2 := ([gX9 E a w37 v_tried v_kept v_undos v_saved v_isSaved v_line v_lined v_text v_length v_at v_order v_told v_error w38 w39 w40 v_thrown w41 w42 w43] : List va_W)) ⟨hx, hb, hml, hown, hts⟩ (c9_reverts l E a  ((v_told ((nI 0)).toNatClampNeg)) ((v_told ((nI 1)).toNatClampNeg)) ((v_told ((nI 2)).toNatClampNeg)) (v_now) (v_tried) (v_kept) (v_undos) (v_saved) (v_isSaved) (v_line) (v_lined) (v_text) (v_length) (v_at) (v_order) (v_told) (v_error) (v_reason) (v_detail) (v_answer) (v_thrown) (v_mixed) (v_conflicts) (v_firstConflict) r36 w37 w38 w39 w40 w41 w42 w43 hr44) (cwV 3 hts (ws_v q1414 q1416 q43 q68 q1417) rfl rfl rfl hdV_X9_reverts (by rw [hR]; exact ⟨Nat.le_of_ble_eq_true rfl, Nat.le_of_ble_eq_true rfl⟩)) hK hN hP hD hS hA [] [0] [0] rfl rfl (by decide) (by decide) rfl (by decide) 0 9 rfl rfl rfl rfl hl.1 rfl (Nat.le_of_ble_eq_true rfl) dX9_carries_155 (by rw [hR]; exact ⟨Nat.le_of_ble_eq_true rfl, Nat.le_of_ble_eq_true rfl⟩) (fun H locs hP hD hS => ?_)
            refine W.eq (g2 := F0 m 158 ls [.int r36]) rfl ?_
            cases h
            exact px_eWi hA0 hQ hP hD hS hx hb hr hlocks dX9_carries_158
          · rw [if_neg c35] at h
            refine lv_lookup (off := 155) (tgt := 159) hx hb dX9_carries_4 (by decide) (by show Op.lookupswitch.offset _ _ _ = _; rw [lv_osw c1 (by decide), lv_osw c8 (by decide), lv_osw c15 (by decide), lv_osw c25 (by decide), lv_osw c35 (by decide)]; rfl) (by decide) ?_
            refine lv_aload_n hx hb dX9_carries_159 rfl (lv_at hl 0 rfl) ?_
            refine lv_aload_n hx hb dX9_carries_160 rfl (lv_at hl 0 rfl) ?_
            refine va_get (D := E.1) (ci := 9) (v := .ref (a 7)) (C := RX9) (T := TX9) (N := 21) hx hb hts iX9 hown hK hP 0 rfl rfl 12 (by decide) (hts _ q1210) (fun _ h9 => h9) rfl dX9_carries_161 ?_
            refine lv_iconst (v := (nI 0)) hx hb dX9_carries_164 (by decide) ?_
            refine va_iald (f := v_told) hx hb hK hP 7 0 rfl rfl (inb_in (i := (nI 0)) (n := 3) (by decide)) dX9_carries_165 ?_
            refine lv_aload_n hx hb dX9_carries_166 rfl (lv_at hl 0 rfl) ?_
            refine va_get (D := E.1) (ci := 9) (v := .ref (a 7)) (C := RX9) (T := TX9) (N := 21) hx hb hts iX9 hown hK hP 0 rfl rfl 12 (by decide) (hts _ q1210) (fun _ h9 => h9) rfl dX9_carries_167 ?_
            refine lv_iconst (v := (nI 1)) hx hb dX9_carries_170 (by decide) ?_
            refine va_iald (f := v_told) hx hb hK hP 7 0 rfl rfl (inb_in (i := (nI 1)) (n := 3) (by decide)) dX9_carries_171 ?_
            obtain ⟨⟨r45, w46, w47, w48, w49⟩, hr50, h⟩ := ob h
            dsimp only at h
            refine px_V (As := [.int (v_told ((nI 0)).toNatClampNeg), .int (v_told ((nI 1)).toNatClampNeg)]) (rest := []) (gs := ([gX9 E a v_now v_tried v_kept v_undos v_saved v_isSaved v_line v_lined v_text v_length v_at v_order v_told v_error v_reason v_detail v_answer v_thrown v_mixed v_conflicts v_firstConflict] : List va_W)) (gr := ([] : List va_W)) (gc := ([gX9 E a v_now v_tried v_kept v_undos v_saved v_isSaved v_line v_lined v_text v_length v_at v_order v_told v_error v_reason v_detail v_answer v_thrown v_mixed v_conflicts v_firstConflict] : List va_W)) (g1 := ([gX9 E a w46 v_tried v_kept v_undos v_saved v_isSaved v_line v_lined v_text v_length v_at v_order v_told v_error w47 w48 w49 v_thrown v_mixed v_conflicts v_firstConflict] : List va_W)) (g2 := ([gX9 E a w46 v_tried v_kept v_undos v_saved v_isSaved v_line v_lined v_text v_length v_at v_order v_told v_error w47 w48 w49 v_thrown v_mixed v_conflicts v_firstConflict] : List va_W)) ⟨hx, hb, hml, hown, hts⟩ (c9_resets l E a  ((v_told ((nI 0)).toNatClampNeg)) ((v_told ((nI 1)).toNatClampNeg)) (v_now) (v_tried) (v_kept) (v_undos) (v_saved) (v_isSaved) (v_line) (v_lined) (v_text) (v_length) (v_at) (v_order) (v_told) (v_error) (v_reason) (v_detail) (v_answer) (v_thrown) (v_mixed) (v_conflicts) (v_firstConflict) r45 w46 w47 w48 w49 hr50) (cwV 2 hts (ws_v q1340 q1342 q31 q68 q1343) rfl rfl rfl hdV_X9_resets (by rw [hR]; exact ⟨Nat.le_of_ble_eq_true rfl, Nat.le_of_ble_eq_true rfl⟩)) hK hN hP hD hS hA [] [0] [0] rfl rfl (by decide) (by decide) rfl (by decide) 0 9 rfl rfl rfl rfl hl.1 rfl (Nat.le_of_ble_eq_true rfl) dX9_carries_172 (by rw [hR]; exact ⟨Nat.le_of_ble_eq_true rfl, Nat.le_of_ble_eq_true rfl⟩) (fun H locs hP hD hS => ?_)
            refine W.eq (g2 := F0 m 175 ls [.int r45]) rfl ?_
            cases h
            exact px_eWi hA0 hQ hP hD hS hx hb hr hlocks dX9_carries_175
def f9_read_L94 (v_text : AI) : Nat → Int32 → Int32 → Int32 → AI → AI → AI → Int32 → Int32 → Int32 → Int32 → AI → Int32 → Int32 → Int32 → Int32 → Int32 → AI → Int32 → Int32 → Option (Int32 × AI × AI × AI × Int32 × Int32 × Int32 × Int32 × AI × Int32 × Int32 × Int32 × Int32 × Int32 × AI × Int32 × Int32)
  | 0, _, _, _, _, _, _, _, _, _, _, _, _, _, _, _, _, _, _, _ => none
  | n + 1, x2, x3, x4, v_now, v_tried, v_kept, v_undos, v_length, v_at, v_order, v_told, v_error, v_reason, v_detail, v_answer, v_thrown, v_mixed, v_conflicts, v_firstConflict => (if x4 = 0 then (if x3 = 0 then ((f9_keeps (x2) (v_tried) (v_kept) (v_undos)).bind fun (r40, w41, w42) => (some (r40, v_now, v_tried, w41, w42, (nI 0), v_at, v_order, v_told, v_error, v_reason, v_detail, v_answer, v_thrown, v_mixed, v_conflicts, v_firstConflict))) else ((f9_comesBack (v_now) (v_tried)).bind fun w31 => (if x3 = (nI 3) then ((f9_raises ((nI 2)) (v_thrown)).bind fun (r37, w38) => (some (r37, w31, v_tried, v_kept, v_undos, (nI 0), v_at, v_order, v_told, v_error, v_reason, v_detail, v_answer, w38, v_mixed, v_conflicts, v_firstConflict))) else ((f9_raises ((nI 1)) (v_thrown)).bind fun (r34, w35) => (some (r34, w31, v_tried, v_kept, v_undos, (nI 0), v_at, v_order, v_told, v_error, v_reason, v_detail, v_answer, w35, v_mixed, v_conflicts, v_firstConflict)))))) else ((f9_isOrder (v_text) (v_length) (v_at) (v_order) (v_told)).bind fun (r44, w45, w46, w47) => ((f9_carries (v_now) (w46) (w47) (v_reason) (v_detail) (v_answer) (v_mixed) (v_conflicts) (v_firstConflict)).bind fun (r49, w50, w51, w52, w53, w54, w55, w56) => (if r49 = 0 then (if r49 = 0 then ((f9_sign ((nI 59)) (v_text) (v_length) (w45)).bind fun (r65, w66) => (if (b2i r65) = 0 then (f9_read_L94 v_text n ((x2 + nI 1)) (r49) ((nI 0)) (w50) (v_tried) (v_kept) (v_undos) (v_length) (w66) (w46) (w47) (v_error) (w51) (w52) (w53) (v_thrown) (w54) (w55) (w56)) else (f9_read_L94 v_text n ((x2 + nI 1)) (r49) ((nI 1)) (w50) (v_tried) (v_kept) (v_undos) (v_length) (w66) (w46) (w47) (v_error) (w51) (w52) (w53) (v_thrown) (w54) (w55) (w56)))) else (f9_read_L94 v_text n ((x2 + nI 1)) (r49) ((nI 0)) (w50) (v_tried) (v_kept) (v_undos) (v_length) (w45) (w46) (w47) (v_error) (w51) (w52) (w53) (v_thrown) (w54) (w55) (w56))) else (if r49 = 0 then ((f9_sign ((nI 59)) (v_text) (v_length) (w45)).bind fun (r60, w61) => (if (b2i r60) = 0 then (f9_read_L94 v_text n (x2) (r49) ((nI 0)) (w50) (v_tried) (v_kept) (v_undos) (v_length) (w61) (w46) (w47) (v_error) (w51) (w52) (w53) (v_thrown) (w54) (w55) (w56)) else (f9_read_L94 v_text n (x2) (r49) ((nI 1)) (w50) (v_tried) (v_kept) (v_undos) (v_length) (w61) (w46) (w47) (v_error) (w51) (w52) (w53) (v_thrown) (w54) (w55) (w56)))) else (f9_read_L94 v_text n (x2) (r49) ((nI 0)) (w50) (v_tried) (v_kept) (v_undos) (v_length) (w45) (w46) (w47) (v_error) (w51) (w52) (w53) (v_thrown) (w54) (w55) (w56)))))))
def f9_read_L19 (v_text : AI) : Nat → Int32 → AI → AI → AI → Int32 → Int32 → Int32 → Int32 → AI → Int32 → Int32 → Int32 → Int32 → Int32 → AI → Int32 → Int32 → Option (Int32 × AI × AI × AI × Int32 × Int32 × Int32 × Int32 × AI × Int32 × Int32 × Int32 × Int32 × Int32 × AI × Int32 × Int32)
  | 0, _, _, _, _, _, _, _, _, _, _, _, _, _, _, _, _, _ => none
  | n + 1, x1, v_now, v_tried, v_kept, v_undos, v_length, v_at, v_order, v_told, v_error, v_reason, v_detail, v_answer, v_thrown, v_mixed, v_conflicts, v_firstConflict => (if x1 = 0 then (if x1 = 0 then ((f9_raises ((nI 1)) (v_thrown)).bind fun (r11, w12) => (some (r11, v_now, v_tried, v_kept, v_undos, (nI 0), v_at, v_order, v_told, v_at, v_reason, v_detail, v_answer, w12, v_mixed, v_conflicts, v_firstConflict))) else (f9_read_L94 v_text fuel ((nI 0)) ((nI 0)) ((nI 1)) (v_now) (v_tried) (v_kept) (v_undos) (v_length) ((nI 0)) (v_order) (v_told) (v_error) (v_reason) (v_detail) (v_answer) (v_thrown) (v_mixed) (v_conflicts) (v_firstConflict))) else (if v_length ≤ v_at then (if x1 = 0 then ((f9_raises ((nI 1)) (v_thrown)).bind fun (r16, w17) => (some (r16, v_now, v_tried, v_kept, v_undos, (nI 0), v_at, v_order, v_told, v_at, v_reason, v_detail, v_answer, w17, v_mixed, v_conflicts, v_firstConflict))) else (f9_read_L94 v_text fuel ((nI 0)) ((nI 0)) ((nI 1)) (v_now) (v_tried) (v_kept) (v_undos) (v_length) ((nI 0)) (v_order) (v_told) (v_error) (v_reason) (v_detail) (v_answer) (v_thrown) (v_mixed) (v_conflicts) (v_firstConflict))) else ((f9_sign ((nI 59)) (v_text) (v_length) (v_at)).bind fun (r19, w20) => (if (b2i r19) = 0 then (f9_read_L19 v_text n ((nI 0)) (v_now) (v_tried) (v_kept) (v_undos) (v_length) (w20) (v_order) (v_told) (v_error) (v_reason) (v_detail) (v_answer) (v_thrown) (v_mixed) (v_conflicts) (v_firstConflict)) else ((f9_isOrder (v_text) (v_length) (w20) (v_order) (v_told)).bind fun (r23, w24, w25, w26) => (if (b2i r23) = 0 then (f9_read_L19 v_text n ((nI 0)) (v_now) (v_tried) (v_kept) (v_undos) (v_length) (w24) (w25) (w26) (v_error) (v_reason) (v_detail) (v_answer) (v_thrown) (v_mixed) (v_conflicts) (v_firstConflict)) else (f9_read_L19 v_text n ((nI 1)) (v_now) (v_tried) (v_kept) (v_undos) (v_length) (w24) (w25) (w26) (v_error) (v_reason) (v_detail) (v_answer) (v_thrown) (v_mixed) (v_conflicts) (v_firstConflict))))))))
def f9_read  (v_now : AI) (v_tried : AI) (v_kept : AI) (v_undos : Int32) (v_text : AI) (v_length : Int32) (v_at : Int32) (v_order : Int32) (v_told : AI) (v_error : Int32) (v_reason : Int32) (v_detail : Int32) (v_answer : Int32) (v_thrown : Int32) (v_mixed : AI) (v_conflicts : Int32) (v_firstConflict : Int32) : Option (Int32 × AI × AI × AI × Int32 × Int32 × Int32 × Int32 × AI × Int32 × Int32 × Int32 × Int32 × Int32 × AI × Int32 × Int32) := ((f9_tries (v_now) (v_tried) (v_thrown)).bind fun (w1, w2) => ((f9_isOrder (v_text) (v_length) ((nI 0)) (v_order) (v_told)).bind fun (r4, w5, w6, w7) => (f9_read_L19 v_text fuel ((b2i r4)) (v_now) (w1) (v_kept) (v_undos) (v_length) (w5) (w6) (w7) ((-1 : Int32)) (v_reason) (v_detail) (v_answer) (w2) (v_mixed) (v_conflicts) (v_firstConflict))))
set_option maxHeartbeats 4000000 in
set_option maxRecDepth 100000 in
theorem c9_read (l : Launch) (E : PE) (a : Nat → Nat)   (v_now : AI) (v_tried : AI) (v_kept : AI) (v_undos : Int32) (v_saved : AI) (v_isSaved : Int32) (v_line : AI) (v_lined : Int32) (v_text : AI) (v_length : Int32) (v_at : Int32) (v_order : Int32) (v_told : AI) (v_error : Int32) (v_reason : Int32) (v_detail : Int32) (v_answer : Int32) (v_thrown : Int32) (v_mixed : AI) (v_conflicts : Int32) (v_firstConflict : Int32) (r : Int32) (z_this_now : AI) (z_this_tried : AI) (z_this_kept : AI) (z_this_undos : Int32) (z_this_length : Int32) (z_this_at : Int32) (z_this_order : Int32) (z_this_told : AI) (z_this_error : Int32) (z_this_reason : Int32) (z_this_detail : Int32) (z_this_answer : Int32) (z_this_thrown : Int32) (z_this_mixed : AI) (z_this_conflicts : Int32) (z_this_firstConflict : Int32) (h : f9_read v_now v_tried v_kept v_undos v_text v_length v_at v_order v_told v_error v_reason v_detail v_answer v_thrown v_mixed v_conflicts v_firstConflict = some (r, z_this_now, z_this_tried, z_this_kept, z_this_undos, z_this_length, z_this_at, z_this_order, z_this_told, z_this_error, z_this_reason, z_this_detail, z_this_answer, z_this_thrown, z_this_mixed, z_this_conflicts, z_this_firstConflict)) : MW l yX9_read cX9_read 5 (some .int) { frames := 6, cells := 0, slots := 0, locals := 136 } E [.ref (a 0)] ([gX9 E a v_now v_tried v_kept v_undos v_saved v_isSaved v_line v_lined v_text v_length v_at v_order v_told v_error v_reason v_detail v_answer v_thrown v_mixed v_conflicts v_firstConflict] : List va_W).flatten 0 0 (some (.int r)) ([gX9 E a z_this_now z_this_tried z_this_kept z_this_undos v_saved v_isSaved v_line v_lined v_text z_this_length z_this_at z_this_order z_this_told z_this_error z_this_reason z_this_detail z_this_answer z_this_thrown z_this_mixed z_this_conflicts z_this_firstConflict] : List va_W).flatten := by
  refine px_startW (by decide +kernel) (Nat.le_of_ble_eq_true rfl) ?_
  intro p e s m args below meth c R Q A ls hC hA0 hQ
  obtain ⟨hx, hb, hr, hml, hts, hown, hlocks, hR, hK, hN, hP, hD, hA, hl, hin⟩ := hC
  have hl : lv_has ls 5 [(0, .ref (a 0))] := hl
  suffices key : ∀ (H : Heap) (locs : List Loc), va_P E.1 vwCl ([gX9 E a v_now v_tried v_kept v_undos v_saved v_isSaved v_line v_lined v_text v_length v_at v_order v_told v_error v_reason v_detail v_answer v_thrown v_mixed v_conflicts v_firstConflict] : List va_W).flatten H → va_S A s.heap H locs → W p l e R s m args below meth c H locs 0 0 Q (F0 m 0 ls []) from key s.heap [] hP va_S.rf
  unfold f9_read at h
  have L94 : ∀ (n : Nat) (x2 : Int32) (x3 : Int32) (x4 : Int32) (v_now : AI) (v_tried : AI) (v_kept : AI) (v_undos : Int32) (v_length : Int32) (v_at : Int32) (v_order : Int32) (v_told : AI) (v_error : Int32) (v_reason : Int32) (v_detail : Int32) (v_answer : Int32) (v_thrown : Int32) (v_mixed : AI) (v_conflicts : Int32) (v_firstConflict : Int32) (H : Heap) (locs : List Loc) (ls : Array Slot), va_P E.1 vwCl ([gX9 E a v_now v_tried v_kept v_undos v_saved v_isSaved v_line v_lined v_text v_length v_at v_order v_told v_error v_reason v_detail v_answer v_thrown v_mixed v_conflicts v_firstConflict] : List va_W).flatten H → va_D A ([gX9 E a v_now v_tried v_kept v_undos v_saved v_isSaved v_line v_lined v_text v_length v_at v_order v_told v_error v_reason v_detail v_answer v_thrown v_mixed v_conflicts v_firstConflict] : List va_W).flatten → va_S A s.heap H locs → lv_has ls 5 [(0, .ref (a 0)), (2, .int x2), (3, .int x3), (4, .int x4)] → f9_read_L94 v_text n x2 x3 x4 v_now v_tried v_kept v_undos v_length v_at v_order v_told v_error v_reason v_detail v_answer v_thrown v_mixed v_conflicts v_firstConflict = some (r, z_this_now, z_this_tried, z_this_kept, z_this_undos, z_this_length, z_this_at, z_this_order, z_this_told, z_this_error, z_this_reason, z_this_detail, z_this_answer, z_this_thrown, z_this_mixed, z_this_conflicts, z_this_firstConflict) → W p l e R s m args below meth c H locs 0 0 Q (F0 m 94 ls []) := by
    intro n
    induction n with
    | zero =>
      intro x2 x3 x4 v_now v_tried v_kept v_undos v_length v_at v_order v_told v_error v_reason v_detail v_answer v_thrown v_mixed v_conflicts v_firstConflict H locs ls hP hD hS hl h
      unfold f9_read_L94 at h; cases h
    | succ n ih =>
      intro x2 x3 x4 v_now v_tried v_kept v_undos v_length v_at v_order v_told v_error v_reason v_detail v_answer v_thrown v_mixed v_conflicts v_firstConflict H locs ls hP hD hS hl h
      unfold f9_read_L94 at h
      refine lv_iload hx hb dX9_read_94 (lv_at hl 3 rfl) ?_
      refine lv_if_eq (tgt := 139) hx hb dX9_read_96 (by decide) (fun c29 => ?_) (fun c29 => ?_)
      · rw [if_pos c29] at h
        refine lv_aload_n hx hb dX9_read_139 rfl (lv_at hl 0 rfl) ?_
        refine lv_iconst (v := (nI 0)) hx hb dX9_read_140 (by decide) ?_
        refine va_put (D := E.1) (ci := 9) (v := .int (nI 0)) (ty := .int) (C := RX9) (T := TX9) (N := 21) hx hb hts iX9 tyX9 tyX9_ok nmX9 hown hK hP hD hS 0 rfl rfl 9 (by decide) (hts _ q1207) (fun _ h9 => h9) rfl (tyX9_ok 9 (by decide)) rfl rfl (Nat.le_of_ble_eq_true rfl) dX9_read_141 (fun H locs hP hD hS => ?_)
        have hP : va_P E.1 vwCl ([gX9 E a v_now v_tried v_kept v_undos v_saved v_isSaved v_line v_lined v_text (nI 0) v_at v_order v_told v_error v_reason v_detail v_answer v_thrown v_mixed v_conflicts v_firstConflict] : List va_W).flatten H := hP
        have hD : va_D A ([gX9 E a v_now v_tried v_kept v_undos v_saved v_isSaved v_line v_lined v_text (nI 0) v_at v_order v_told v_error v_reason v_detail v_answer v_thrown v_mixed v_conflicts v_firstConflict] : List va_W).flatten := hD
        refine lv_iload_n hx hb dX9_read_144 rfl (lv_at hl 2 rfl) ?_
        refine lv_if_ne (tgt := 154) hx hb dX9_read_145 (by decide) (fun c30 => ?_) (fun c30 => ?_)
        · rw [if_neg c30] at h
          refine lv_aload_n hx hb dX9_read_154 rfl (lv_at hl 0 rfl) ?_
          obtain ⟨w31, hr32, h⟩ := ob h
          refine px_V (As := []) (rest := []) (gs := ([gX9 E a v_now v_tried v_kept v_undos v_saved v_isSaved v_line v_lined v_text (nI 0) v_at v_order v_told v_error v_reason v_detail v_answer v_thrown v_mixed v_conflicts v_firstConflict] : List va_W)) (gr := ([] : List va_W)) (gc := ([gX9 E a v_now v_tried v_kept v_undos v_saved v_isSaved v_line v_lined v_text (nI 0) v_at v_order v_told v_error v_reason v_detail v_answer v_thrown v_mixed v_conflicts v_firstConflict] : List va_W)) (g1 := ([gX9 E a w31 v_tried v_kept v_undos v_saved v_isSaved v_line v_lined v_text (nI 0) v_at v_order v_told v_error v_reason v_detail v_answer v_thrown v_mixed v_conflicts v_firstConflict] : List va_W)) (g2 := ([gX9 E a w31 v_tried v_kept v_undos v_saved v_isSaved v_line v_lined v_text (nI 0) v_at v_order v_told v_error v_reason v_detail v_answer v_thrown v_mixed v_conflicts v_firstConflict] : List va_W)) ⟨hx, hb, hml, hown, hts⟩ (c9_comesBack l E a   (v_now) (v_tried) (v_kept) (v_undos) (v_saved) (v_isSaved) (v_line) (v_lined) (v_text) ((nI 0)) (v_at) (v_order) (v_told) (v_error) (v_reason) (v_detail) (v_answer) (v_thrown) (v_mixed) (v_conflicts) (v_firstConflict) w31 hr32) (cwV 0 hts (ws_v q1523 q1525 q51 q68 q1526) rfl rfl rfl hdV_X9_comesBack (by rw [hR]; exact ⟨Nat.le_of_ble_eq_true rfl, Nat.le_of_ble_eq_true rfl⟩)) hK hN hP hD hS hA [] [0] [0] rfl rfl (by decide) (by decide) rfl (by decide) 0 9 rfl rfl rfl rfl hl.1 rfl (Nat.le_of_ble_eq_true rfl) dX9_read_155 (by rw [hR]; exact ⟨Nat.le_of_ble_eq_true rfl, Nat.le_of_ble_eq_true rfl⟩) (fun H locs hP hD hS => ?_)
          refine W.eq (g2 := F0 m 158 ls []) rfl ?_
          refine lv_aload_n hx hb dX9_read_158 rfl (lv_at hl 0 rfl) ?_
          refine lv_iload_n hx hb dX9_read_159 rfl (lv_at hl 2 rfl) ?_
          refine lv_iconst (v := (nI 3)) hx hb dX9_read_160 (by decide) ?_
          refine lv_icmp_ne (tgt := 168) hx hb dX9_read_161 (by decide) (fun c33 => ?_) (fun c33 => ?_)
          · rw [if_neg c33] at h
            refine lv_iconst (v := (nI 1)) hx hb dX9_read_168 (by decide) ?_
            obtain ⟨⟨r34, w35⟩, hr36, h⟩ := ob h
            dsimp only at h
            refine px_V (As := [.int (nI 1)]) (rest := []) (gs := ([gX9 E a w31 v_tried v_kept v_undos v_saved v_isSaved v_line v_lined v_text (nI 0) v_at v_order v_told v_error v_reason v_detail v_answer v_thrown v_mixed v_conflicts v_firstConflict] : List va_W)) (gr := ([] : List va_W)) (gc := ([gX9 E a w31 v_tried v_kept v_undos v_saved v_isSaved v_line v_lined v_text (nI 0) v_at v_order v_told v_error v_reason v_detail v_answer v_thrown v_mixed v_conflicts v_firstConflict] : List va_W)) (g1 := ([gX9 E a w31 v_tried v_kept v_undos v_saved v_isSaved v_line v_lined v_text (nI 0) v_at v_order v_told v_error v_reason v_detail v_answer w35 v_mixed v_conflicts v_firstConflict] : List va_W)) (g2 := ([gX9 E a w31 v_tried v_kept v_undos v_saved v_isSaved v_line v_lined v_text (nI 0) v_at v_order v_told v_error v_reason v_detail v_answer w35 v_mixed v_conflicts v_firstConflict] : List va_W)) ⟨hx, hb, hml, hown, hts⟩ (c9_raises l E a  ((nI 1)) (w31) (v_tried) (v_kept) (v_undos) (v_saved) (v_isSaved) (v_line) (v_lined) (v_text) ((nI 0)) (v_at) (v_order) (v_told) (v_error) (v_reason) (v_detail) (v_answer) (v_thrown) (v_mixed) (v_conflicts) (v_firstConflict) r34 w35 hr36) (cwV 1 hts (ws_v q1320 q1322 q28 q68 q1323) rfl rfl rfl hdV_X9_raises (by rw [hR]; exact ⟨Nat.le_of_ble_eq_true rfl, Nat.le_of_ble_eq_true rfl⟩)) hK hN hP hD hS hA [] [0] [0] rfl rfl (by decide) (by decide) rfl (by decide) 0 9 rfl rfl rfl rfl hl.1 rfl (Nat.le_of_ble_eq_true rfl) dX9_read_169 (by rw [hR]; exact ⟨Nat.le_of_ble_eq_true rfl, Nat.le_of_ble_eq_true rfl⟩) (fun H locs hP hD hS => ?_)
            refine W.eq (g2 := F0 m 172 ls [.int r34]) rfl ?_
            cases h
            exact px_eWi hA0 hQ hP hD hS hx hb hr hlocks dX9_read_172
          · rw [if_pos c33] at h
            refine lv_iconst (v := (nI 2)) hx hb dX9_read_164 (by decide) ?_
            refine lv_goto (tgt := 169) hx hb dX9_read_165 (by decide) ?_
            obtain ⟨⟨r37, w38⟩, hr39, h⟩ := ob h
            dsimp only at h
            refine px_V (As := [.int (nI 2)]) (rest := []) (gs := ([gX9 E a w31 v_tried v_kept v_undos v_saved v_isSaved v_line v_lined v_text (nI 0) v_at v_order v_told v_error v_reason v_detail v_answer v_thrown v_mixed v_conflicts v_firstConflict] : List va_W)) (gr := ([] : List va_W)) (gc := ([gX9 E a w31 v_tried v_kept v_undos v_saved v_isSaved v_line v_lined v_text (nI 0) v_at v_order v_told v_error v_reason v_detail v_answer v_thrown v_mixed v_conflicts v_firstConflict] : List va_W)) (g1 := ([gX9 E a w31 v_tried v_kept v_undos v_saved v_isSaved v_line v_lined v_text (nI 0) v_at v_order v_told v_error v_reason v_detail v_answer w38 v_mixed v_conflicts v_firstConflict] : List va_W)) (g2 := ([gX9 E a w31 v_tried v_kept v_undos v_saved v_isSaved v_line v_lined v_text (nI 0) v_at v_order v_told v_error v_reason v_detail v_answer w38 v_mixed v_conflicts v_firstConflict] : List va_W)) ⟨hx, hb, hml, hown, hts⟩ (c9_raises l E a  ((nI 2)) (w31) (v_tried) (v_kept) (v_undos) (v_saved) (v_isSaved) (v_line) (v_lined) (v_text) ((nI 0)) (v_at) (v_order) (v_told) (v_error) (v_reason) (v_detail) (v_answer) (v_thrown) (v_mixed) (v_conflicts) (v_firstConflict) r37 w38 hr39) (cwV 1 hts (ws_v q1320 q1322 q28 q68 q1323) rfl rfl rfl hdV_X9_raises (by rw [hR]; exact ⟨Nat.le_of_ble_eq_true rfl, Nat.le_of_ble_eq_true rfl⟩)) hK hN hP hD hS hA [] [0] [0] rfl rfl (by decide) (by decide) rfl (by decide) 0 9 rfl rfl rfl rfl hl.1 rfl (Nat.le_of_ble_eq_true rfl) dX9_read_169 (by rw [hR]; exact ⟨Nat.le_of_ble_eq_true rfl, Nat.le_of_ble_eq_true rfl⟩) (fun H locs hP hD hS => ?_)
            refine W.eq (g2 := F0 m 172 ls [.int r37]) rfl ?_
            cases h
            exact px_eWi hA0 hQ hP hD hS hx hb hr hlocks dX9_read_172
        · rw [if_pos c30] at h
          refine lv_aload_n hx hb dX9_read_148 rfl (lv_at hl 0 rfl) ?_
          refine lv_iload_n hx hb dX9_read_149 rfl (lv_at hl 1 rfl) ?_
          obtain ⟨⟨r40, w41, w42⟩, hr43, h⟩ := ob h
          dsimp only at h
          refine px_V (As := [.int x2]) (rest := []) (gs := ([gX9 E a v_now v_tried v_kept v_undos v_saved v_isSaved v_line v_lined v_text (nI 0) v_at v_order v_told v_error v_reason v_detail v_answer v_thrown v_mixed v_conflicts v_firstConflict] : List va_W)) (gr := ([] : List va_W)) (gc := ([gX9 E a v_now v_tried v_kept v_undos v_saved v_isSaved v_line v_lined v_text (nI 0) v_at v_order v_told v_error v_reason v_detail v_answer v_thrown v_mixed v_conflicts v_firstConflict] : List va_W)) (g1 := ([gX9 E a v_now v_tried w41 w42 v_saved v_isSaved v_line v_lined v_text (nI 0) v_at v_order v_told v_error v_reason v_detail v_answer v_thrown v_mixed v_conflicts v_firstConflict] : List va_W)) (g2 := ([gX9 E a v_now v_tried w41 w42 v_saved v_isSaved v_line v_lined v_text (nI 0) v_at v_order v_told v_error v_reason v_detail v_answer v_thrown v_mixed v_conflicts v_firstConflict] : List va_W)) ⟨hx, hb, hml, hown, hts⟩ (c9_keeps l E a  (x2) (v_now) (v_tried) (v_kept) (v_undos) (v_saved) (v_isSaved) (v_line) (v_lined) (v_text) ((nI 0)) (v_at) (v_order) (v_told) (v_error) (v_reason) (v_detail) (v_answer) (v_thrown) (v_mixed) (v_conflicts) (v_firstConflict) r40 w41 w42 hr43) (cwV 1 hts (ws_v q1316 q1318 q27 q68 q1319) rfl rfl rfl hdV_X9_keeps (by rw [hR]; exact ⟨Nat.le_of_ble_eq_true rfl, Nat.le_of_ble_eq_true rfl⟩)) hK hN hP hD hS hA [] [0] [0] rfl rfl (by decide) (by decide) rfl (by decide) 0 9 rfl rfl rfl rfl hl.1 rfl (Nat.le_of_ble_eq_true rfl) dX9_read_150 (by rw [hR]; exact ⟨Nat.le_of_ble_eq_true rfl, Nat.le_of_ble_eq_true rfl⟩) (fun H locs hP hD hS => ?_)
          refine W.eq (g2 := F0 m 153 ls [.int r40]) rfl ?_
          cases h
          exact px_eWi hA0 hQ hP hD hS hx hb hr hlocks dX9_read_153
      · rw [if_neg c29] at h
        refine lv_aload_n hx hb dX9_read_99 rfl (lv_at hl 0 rfl) ?_
        obtain ⟨⟨r44, w45, w46, w47⟩, hr48, h⟩ := ob h
        dsimp only at h
        refine px_V (As := []) (rest := []) (gs := ([gX9 E a v_now v_tried v_kept v_undos v_saved v_isSaved v_line v_lined v_text v_length v_at v_order v_told v_error v_reason v_detail v_answer v_thrown v_mixed v_conflicts v_firstConflict] : List va_W)) (gr := ([] : List va_W)) (gc := ([gX9 E a v_now v_tried v_kept v_undos v_saved v_isSaved v_line v_lined v_text v_length v_at v_order v_told v_error v_reason v_detail v_answer v_thrown v_mixed v_conflicts v_firstConflict] : List va_W)) (g1 := ([gX9 E a v_now v_tried v_kept v_undos v_saved v_isSaved v_line v_lined v_text v_length w45 w46 w47 v_error v_reason v_detail v_answer v_thrown v_mixed v_conflicts v_firstConflict] : List va_W)) (g2 := ([gX9 E a v_now v_tried v_kept v_undos v_saved v_isSaved v_line v_lined v_text v_length w45 w46 w47 v_error v_reason v_detail v_answer v_thrown v_mixed v_conflicts v_firstConflict] : List va_W)) ⟨hx, hb, hml, hown, hts⟩ (c9_isOrder l E a   (v_now) (v_tried) (v_kept) (v_undos) (v_saved) (v_isSaved) (v_line) (v_lined) (v_text) (v_length) (v_at) (v_order) (v_told) (v_error) (v_reason) (v_detail) (v_answer) (v_thrown) (v_mixed) (v_conflicts) (v_firstConflict) r44 w45 w46 w47 hr48) (cwV 0 hts (ws_v q1549 q1551 q53 q68 q1552) rfl rfl rfl hdV_X9_isOrder (by rw [hR]; exact ⟨Nat.le_of_ble_eq_true rfl, Nat.le_of_ble_eq_true rfl⟩)) hK hN hP hD hS hA [] [0] [0] rfl rfl (by decide) (by decide) rfl (by decide) 0 9 rfl rfl rfl rfl hl.1 rfl (Nat.le_of_ble_eq_true rfl) dX9_read_100 (by rw [hR]; exact ⟨Nat.le_of_ble_eq_true rfl, Nat.le_of_ble_eq_true rfl⟩) (fun H locs hP hD hS => ?_)
        refine W.eq (g2 := F0 m 103 ls [.int (b2i r44)]) rfl ?_
        refine lv_istore_n (lv' := [(1, .int (b2i r44)), (0, .ref (a 0)), (2, .int x2), (3, .int x3), (4, .int x4)]) hx hb dX9_read_103 rfl hl (by decide) rfl (fun ls hl => ?_)
        refine lv_aload_n hx hb dX9_read_104 rfl (lv_at hl 1 rfl) ?_
        obtain ⟨⟨r49, w50, w51, w52, w53, w54, w55, w56⟩, hr57, h⟩ := ob h
        dsimp only at h
        refine px_V (As := []) (rest := []) (gs := ([gX9 E a v_now v_tried v_kept v_undos v_saved v_isSaved v_line v_lined v_text v_length w45 w46 w47 v_error v_reason v_detail v_answer v_thrown v_mixed v_conflicts v_firstConflict] : List va_W)) (gr := ([] : List va_W)) (gc := ([gX9 E a v_now v_tried v_kept v_undos v_saved v_isSaved v_line v_lined v_text v_length w45 w46 w47 v_error v_reason v_detail v_answer v_thrown v_mixed v_conflicts v_firstConflict] : List va_W)) (g1 := ([gX9 E a w50 v_tried v_kept v_undos v_saved v_isSaved v_line v_lined v_text v_length w45 w46 w47 v_error w51 w52 w53 v_thrown w54 w55 w56] : List va_W)) (g2 := ([gX9 E a w50 v_tried v_kept v_undos v_saved v_isSaved v_line v_lined v_text v_length w45 w46 w47 v_error w51 w52 w53 v_thrown w54 w55 w56] : List va_W)) ⟨hx, hb, hml, hown, hts⟩ (c9_carries l E a   (v_now) (v_tried) (v_kept) (v_undos) (v_saved) (v_isSaved) (v_line) (v_lined) (v_text) (v_length) (w45) (w46) (w47) (v_error) (v_reason) (v_detail) (v_answer) (v_thrown) (v_mixed) (v_conflicts) (v_firstConflict) r49 w50 w51 w52 w53 w54 w55 w56 hr57) (cwV 0 hts (ws_v q1561 q1563 q56 q68 q1564) rfl rfl rfl hdV_X9_carries (by rw [hR]; exact ⟨Nat.le_of_ble_eq_true rfl, Nat.le_of_ble_eq_true rfl⟩)) hK hN hP hD hS hA [] [0] [0] rfl rfl (by decide) (by decide) rfl (by decide) 0 9 rfl rfl rfl rfl hl.1 rfl (Nat.le_of_ble_eq_true rfl) dX9_read_105 (by rw [hR]; exact ⟨Nat.le_of_ble_eq_true rfl, Nat.le_of_ble_eq_true rfl⟩) (fun H locs hP hD hS => ?_)
        refine W.eq (g2 := F0 m 108 ls [.int r49]) rfl ?_
        refine lv_istore_n (lv' := [(3, .int r49), (1, .int (b2i r44)), (0, .ref (a 0)), (2, .int x2), (4, .int x4)]) hx hb dX9_read_108 rfl hl (by decide) rfl (fun ls hl => ?_)
        refine lv_iload_n hx hb dX9_read_109 rfl (lv_at hl 0 rfl) ?_
        refine lv_if_ne (tgt := 116) hx hb dX9_read_110 (by decide) (fun c58 => ?_) (fun c58 => ?_)
        · rw [if_neg c58] at h
          refine lv_iload_n hx hb dX9_read_116 rfl (lv_at hl 0 rfl) ?_
          refine lv_if_ne (tgt := 133) hx hb dX9_read_117 (by decide) (fun c59 => ?_) (fun c59 => ?_)
          · rw [if_neg c59] at h
            refine lv_iconst (v := (nI 0)) hx hb dX9_read_133 (by decide) ?_
            refine lv_istore (lv' := [(4, .int (nI 0)), (3, .int r49), (1, .int (b2i r44)), (0, .ref (a 0)), (2, .int x2)]) hx hb dX9_read_134 hl (by decide) rfl (fun ls hl => ?_)
            refine lv_goto (tgt := 94) hx hb dX9_read_136 (by decide) ?_
            exact ih (x2) (r49) ((nI 0)) (w50) (v_tried) (v_kept) (v_undos) (v_length) (w45) (w46) (w47) (v_error) (w51) (w52) (w53) (v_thrown) (w54) (w55) (w56) H locs ls hP hD hS (lv_sub hl [3, 4, 1, 0] rfl) h
          · rw [if_pos c59] at h
            refine lv_aload_n hx hb dX9_read_120 rfl (lv_at hl 2 rfl) ?_
            refine lv_bipush (v := (nI 59)) hx hb dX9_read_121 (by decide) ?_
            obtain ⟨⟨r60, w61⟩, hr62, h⟩ := ob h
            dsimp only at h
            refine px_V (As := [.int (ch (nI 59))]) (rest := []) (gs := ([gX9 E a w50 v_tried v_kept v_undos v_saved v_isSaved v_line v_lined v_text v_length w45 w46 w47 v_error w51 w52 w53 v_thrown w54 w55 w56] : List va_W)) (gr := ([] : List va_W)) (gc := ([gX9 E a w50 v_tried v_kept v_undos v_saved v_isSaved v_line v_lined v_text v_length w45 w46 w47 v_error w51 w52 w53 v_thrown w54 w55 w56] : List va_W)) (g1 := ([gX9 E a w50 v_tried v_kept v_undos v_saved v_isSaved v_line v_lined v_text v_length w61 w46 w47 v_error w51 w52 w53 v_thrown w54 w55 w56] : List va_W)) (g2 := ([gX9 E a w50 v_tried v_kept v_undos v_saved v_isSaved v_line v_lined v_text v_length w61 w46 w47 v_error w51 w52 w53 v_thrown w54 w55 w56] : List va_W)) ⟨hx, hb, hml, hown, hts⟩ (c9_sign l E a  ((nI 59)) (w50) (v_tried) (v_kept) (v_undos) (v_saved) (v_isSaved) (v_line) (v_lined) (v_text) (v_length) (w45) (w46) (w47) (v_error) (w51) (w52) (w53) (v_thrown) (w54) (w55) (w56) r60 w61 hr62) (cwV 1 hts (ws_v q1557 q1559 q55 q68 q1560) rfl rfl rfl hdV_X9_sign (by rw [hR]; exact ⟨Nat.le_of_ble_eq_true rfl, Nat.le_of_ble_eq_true rfl⟩)) hK hN hP hD hS hA [] [0] [0] rfl rfl (by decide) (by decide) rfl (by decide) 0 9 rfl rfl rfl rfl hl.1 rfl (Nat.le_of_ble_eq_true rfl) dX9_read_123 (by rw [hR]; exact ⟨Nat.le_of_ble_eq_true rfl, Nat.le_of_ble_eq_true rfl⟩) (fun H locs hP hD hS => ?_)
            refine W.eq (g2 := F0 m 126 ls [.int (b2i r60)]) rfl ?_
            refine lv_if_eq (tgt := 133) hx hb dX9_read_126 (by decide) (fun c63 => ?_) (fun c63 => ?_)
            · rw [if_pos c63] at h
              refine lv_iconst (v := (nI 0)) hx hb dX9_read_133 (by decide) ?_
              refine lv_istore (lv' := [(4, .int (nI 0)), (3, .int r49), (1, .int (b2i r44)), (0, .ref (a 0)), (2, .int x2)]) hx hb dX9_read_134 hl (by decide) rfl (fun ls hl => ?_)
              refine lv_goto (tgt := 94) hx hb dX9_read_136 (by decide) ?_
              exact ih (x2) (r49) ((nI 0)) (w50) (v_tried) (v_kept) (v_undos) (v_length) (w61) (w46) (w47) (v_error) (w51) (w52) (w53) (v_thrown) (w54) (w55) (w56) H locs ls hP hD hS (lv_sub hl [3, 4, 1, 0] rfl) h
            · rw [if_neg c63] at h
              refine lv_iconst (v := (nI 1)) hx hb dX9_read_129 (by decide) ?_
              refine lv_goto (tgt := 134) hx hb dX9_read_130 (by decide) ?_
              refine lv_istore (lv' := [(4, .int (nI 1)), (3, .int r49), (1, .int (b2i r44)), (0, .ref (a 0)), (2, .int x2)]) hx hb dX9_read_134 hl (by decide) rfl (fun ls hl => ?_)
              refine lv_goto (tgt := 94) hx hb dX9_read_136 (by decide) ?_
              exact ih (x2) (r49) ((nI 1)) (w50) (v_tried) (v_kept) (v_undos) (v_length) (w61) (w46) (w47) (v_error) (w51) (w52) (w53) (v_thrown) (w54) (w55) (w56) H locs ls hP hD hS (lv_sub hl [3, 4, 1, 0] rfl) h
        · rw [if_pos c58] at h
          refine lv_iinc (v := (x2 + nI 1)) (lv' := [(2, .int (x2 + nI 1)), (3, .int r49), (1, .int (b2i r44)), (0, .ref (a 0)), (4, .int x4)]) hx hb dX9_read_113 hl (k := 3) rfl rfl (by decide) rfl (fun ls hl => ?_)
          refine lv_iload_n hx hb dX9_read_116 rfl (lv_at hl 1 rfl) ?_
          refine lv_if_ne (tgt := 133) hx hb dX9_read_117 (by decide) (fun c64 => ?_) (fun c64 => ?_)
          · rw [if_neg c64] at h
            refine lv_iconst (v := (nI 0)) hx hb dX9_read_133 (by decide) ?_
            refine lv_istore (lv' := [(4, .int (nI 0)), (2, .int (x2 + nI 1)), (3, .int r49), (1, .int (b2i r44)), (0, .ref (a 0))]) hx hb dX9_read_134 hl (by decide) rfl (fun ls hl => ?_)
            refine lv_goto (tgt := 94) hx hb dX9_read_136 (by decide) ?_
            exact ih ((x2 + nI 1)) (r49) ((nI 0)) (w50) (v_tried) (v_kept) (v_undos) (v_length) (w45) (w46) (w47) (v_error) (w51) (w52) (w53) (v_thrown) (w54) (w55) (w56) H locs ls hP hD hS (lv_sub hl [4, 1, 2, 0] rfl) h
          · rw [if_pos c64] at h
            refine lv_aload_n hx hb dX9_read_120 rfl (lv_at hl 3 rfl) ?_
            refine lv_bipush (v := (nI 59)) hx hb dX9_read_121 (by decide) ?_
            obtain ⟨⟨r65, w66⟩, hr67, h⟩ := ob h
            dsimp only at h
            refine px_V (As := [.int (ch (nI 59))]) (rest := []) (gs := ([gX9 E a w50 v_tried v_kept v_undos v_saved v_isSaved v_line v_lined v_text v_length w45 w46 w47 v_error w51 w52 w53 v_thrown w54 w55 w56] : List va_W)) (gr := ([] : List va_W)) (gc := ([gX9 E a w50 v_tried v_kept v_undos v_saved v_isSaved v_line v_lined v_text v_length w45 w46 w47 v_error w51 w52 w53 v_thrown w54 w55 w56] : List va_W)) (g1 := ([gX9 E a w50 v_tried v_kept v_undos v_saved v_isSaved v_line v_lined v_text v_length w66 w46 w47 v_error w51 w52 w53 v_thrown w54 w55 w56] : List va_W)) (g2 := ([gX9 E a w50 v_tried v_kept v_undos v_saved v_isSaved v_line v_lined v_text v_length w66 w46 w47 v_error w51 w52 w53 v_thrown w54 w55 w56] : List va_W)) ⟨hx, hb, hml, hown, hts⟩ (c9_sign l E a  ((nI 59)) (w50) (v_tried) (v_kept) (v_undos) (v_saved) (v_isSaved) (v_line) (v_lined) (v_text) (v_length) (w45) (w46) (w47) (v_error) (w51) (w52) (w53) (v_thrown) (w54) (w55) (w56) r65 w66 hr67) (cwV 1 hts (ws_v q1557 q1559 q55 q68 q1560) rfl rfl rfl hdV_X9_sign (by rw [hR]; exact ⟨Nat.le_of_ble_eq_true rfl, Nat.le_of_ble_eq_true rfl⟩)) hK hN hP hD hS hA [] [0] [0] rfl rfl (by decide) (by decide) rfl (by decide) 0 9 rfl rfl rfl rfl hl.1 rfl (Nat.le_of_ble_eq_true rfl) dX9_read_123 (by rw [hR]; exact ⟨Nat.le_of_ble_eq_true rfl, Nat.le_of_ble_eq_true rfl⟩) (fun H locs hP hD hS => ?_)
            refine W.eq (g2 := F0 m 126 ls [.int (b2i r65)]) rfl ?_
            refine lv_if_eq (tgt := 133) hx hb dX9_read_126 (by decide) (fun c68 => ?_) (fun c68 => ?_)
            · rw [if_pos c68] at h
              refine lv_iconst (v := (nI 0)) hx hb dX9_read_133 (by decide) ?_
              refine lv_istore (lv' := [(4, .int (nI 0)), (2, .int (x2 + nI 1)), (3, .int r49), (1, .int (b2i r44)), (0, .ref (a 0))]) hx hb dX9_read_134 hl (by decide) rfl (fun ls hl => ?_)
              refine lv_goto (tgt := 94) hx hb dX9_read_136 (by decide) ?_
              exact ih ((x2 + nI 1)) (r49) ((nI 0)) (w50) (v_tried) (v_kept) (v_undos) (v_length) (w66) (w46) (w47) (v_error) (w51) (w52) (w53) (v_thrown) (w54) (w55) (w56) H locs ls hP hD hS (lv_sub hl [4, 1, 2, 0] rfl) h
            · rw [if_neg c68] at h
              refine lv_iconst (v := (nI 1)) hx hb dX9_read_129 (by decide) ?_
              refine lv_goto (tgt := 134) hx hb dX9_read_130 (by decide) ?_
              refine lv_istore (lv' := [(4, .int (nI 1)), (2, .int (x2 + nI 1)), (3, .int r49), (1, .int (b2i r44)), (0, .ref (a 0))]) hx hb dX9_read_134 hl (by decide) rfl (fun ls hl => ?_)
              refine lv_goto (tgt := 94) hx hb dX9_read_136 (by decide) ?_
              exact ih ((x2 + nI 1)) (r49) ((nI 1)) (w50) (v_tried) (v_kept) (v_undos) (v_length) (w66) (w46) (w47) (v_error) (w51) (w52) (w53) (v_thrown) (w54) (w55) (w56) H locs ls hP hD hS (lv_sub hl [4, 1, 2, 0] rfl) h
  have L19 : ∀ (n : Nat) (x1 : Int32) (v_now : AI) (v_tried : AI) (v_kept : AI) (v_undos : Int32) (v_length : Int32) (v_at : Int32) (v_order : Int32) (v_told : AI) (v_error : Int32) (v_reason : Int32) (v_detail : Int32) (v_answer : Int32) (v_thrown : Int32) (v_mixed : AI) (v_conflicts : Int32) (v_firstConflict : Int32) (H : Heap) (locs : List Loc) (ls : Array Slot), va_P E.1 vwCl ([gX9 E a v_now v_tried v_kept v_undos v_saved v_isSaved v_line v_lined v_text v_length v_at v_order v_told v_error v_reason v_detail v_answer v_thrown v_mixed v_conflicts v_firstConflict] : List va_W).flatten H → va_D A ([gX9 E a v_now v_tried v_kept v_undos v_saved v_isSaved v_line v_lined v_text v_length v_at v_order v_told v_error v_reason v_detail v_answer v_thrown v_mixed v_conflicts v_firstConflict] : List va_W).flatten → va_S A s.heap H locs → lv_has ls 5 [(0, .ref (a 0)), (1, .int x1)] → f9_read_L19 v_text n x1 v_now v_tried v_kept v_undos v_length v_at v_order v_told v_error v_reason v_detail v_answer v_thrown v_mixed v_conflicts v_firstConflict = some (r, z_this_now, z_this_tried, z_this_kept, z_this_undos, z_this_length, z_this_at, z_this_order, z_this_told, z_this_error, z_this_reason, z_this_detail, z_this_answer, z_this_thrown, z_this_mixed, z_this_conflicts, z_this_firstConflict) → W p l e R s m args below meth c H locs 0 0 Q (F0 m 19 ls []) := by
    intro n
    induction n with
    | zero =>
      intro x1 v_now v_tried v_kept v_undos v_length v_at v_order v_told v_error v_reason v_detail v_answer v_thrown v_mixed v_conflicts v_firstConflict H locs ls hP hD hS hl h
      unfold f9_read_L19 at h; cases h
    | succ n ih =>
      intro x1 v_now v_tried v_kept v_undos v_length v_at v_order v_told v_error v_reason v_detail v_answer v_thrown v_mixed v_conflicts v_firstConflict H locs ls hP hD hS hl h
      unfold f9_read_L19 at h
      refine lv_iload_n hx hb dX9_read_19 rfl (lv_at hl 1 rfl) ?_
      refine lv_if_eq (tgt := 59) hx hb dX9_read_20 (by decide) (fun c9 => ?_) (fun c9 => ?_)
      · rw [if_pos c9] at h
        refine lv_iload_n hx hb dX9_read_59 rfl (lv_at hl 1 rfl) ?_
        refine lv_if_ne (tgt := 82) hx hb dX9_read_60 (by decide) (fun c10 => ?_) (fun c10 => ?_)
        · rw [if_neg c10] at h
          refine lv_aload_n hx hb dX9_read_82 rfl (lv_at hl 0 rfl) ?_
          refine lv_iconst (v := (nI 0)) hx hb dX9_read_83 (by decide) ?_
          refine va_put (D := E.1) (ci := 9) (v := .int (nI 0)) (ty := .int) (C := RX9) (T := TX9) (N := 21) hx hb hts iX9 tyX9 tyX9_ok nmX9 hown hK hP hD hS 0 rfl rfl 10 (by decide) (hts _ q1208) (fun _ h9 => h9) rfl (tyX9_ok 10 (by decide)) rfl rfl (Nat.le_of_ble_eq_true rfl) dX9_read_84 (fun H locs hP hD hS => ?_)
          have hP : va_P E.1 vwCl ([gX9 E a v_now v_tried v_kept v_undos v_saved v_isSaved v_line v_lined v_text v_length (nI 0) v_order v_told v_error v_reason v_detail v_answer v_thrown v_mixed v_conflicts v_firstConflict] : List va_W).flatten H := hP
          have hD : va_D A ([gX9 E a v_now v_tried v_kept v_undos v_saved v_isSaved v_line v_lined v_text v_length (nI 0) v_order v_told v_error v_reason v_detail v_answer v_thrown v_mixed v_conflicts v_firstConflict] : List va_W).flatten := hD
          refine lv_iconst (v := (nI 0)) hx hb dX9_read_87 (by decide) ?_
          refine lv_istore_n (lv' := [(2, .int (nI 0)), (0, .ref (a 0)), (1, .int x1)]) hx hb dX9_read_88 rfl hl (by decide) rfl (fun ls hl => ?_)
          refine lv_iconst (v := (nI 0)) hx hb dX9_read_89 (by decide) ?_
          refine lv_istore_n (lv' := [(3, .int (nI 0)), (2, .int (nI 0)), (0, .ref (a 0)), (1, .int x1)]) hx hb dX9_read_90 rfl hl (by decide) rfl (fun ls hl => ?_)
          refine lv_iconst (v := (nI 1)) hx hb dX9_read_91 (by decide) ?_
          refine lv_istore (lv' := [(4, .int (nI 1)), (3, .int (nI 0)), (2, .int (nI 0)), (0, .ref (a 0)), (1, .int x1)]) hx hb dX9_read_92 hl (by decide) rfl (fun ls hl => ?_)
          exact L94 fuel ((nI 0)) ((nI 0)) ((nI 1)) (v_now) (v_tried) (v_kept) (v_undos) (v_length) ((nI 0)) (v_order) (v_told) (v_error) (v_reason) (v_detail) (v_answer) (v_thrown) (v_mixed) (v_conflicts) (v_firstConflict) H locs ls hP hD hS (lv_sub hl [3, 2, 1, 0] rfl) h
        · rw [if_pos c10] at h
          refine lv_aload_n hx hb dX9_read_63 rfl (lv_at hl 0 rfl) ?_
          refine lv_aload_n hx hb dX9_read_64 rfl (lv_at hl 0 rfl) ?_
          refine va_get (D := E.1) (ci := 9) (v := .int v_at) (C := RX9) (T := TX9) (N := 21) hx hb hts iX9 hown hK hP 0 rfl rfl 10 (by decide) (hts _ q1208) (fun _ h9 => h9) rfl dX9_read_65 ?_
          refine va_put (D := E.1) (ci := 9) (v := .int v_at) (ty := .int) (C := RX9) (T := TX9) (N := 21) hx hb hts iX9 tyX9 tyX9_ok nmX9 hown hK hP hD hS 0 rfl rfl 13 (by decide) (hts _ q1211) (fun _ h9 => h9) rfl (tyX9_ok 13 (by decide)) rfl rfl (Nat.le_of_ble_eq_true rfl) dX9_read_68 (fun H locs hP hD hS => ?_)
          have hP : va_P E.1 vwCl ([gX9 E a v_now v_tried v_kept v_undos v_saved v_isSaved v_line v_lined v_text v_length v_at v_order v_told v_at v_reason v_detail v_answer v_thrown v_mixed v_conflicts v_firstConflict] : List va_W).flatten H := hP
          have hD : va_D A ([gX9 E a v_now v_tried v_kept v_undos v_saved v_isSaved v_line v_lined v_text v_length v_at v_order v_told v_at v_reason v_detail v_answer v_thrown v_mixed v_conflicts v_firstConflict] : List va_W).flatten := hD
          refine lv_aload_n hx hb dX9_read_71 rfl (lv_at hl 0 rfl) ?_
          refine lv_iconst (v := (nI 0)) hx hb dX9_read_72 (by decide) ?_
          refine va_put (D := E.1) (ci := 9) (v := .int (nI 0)) (ty := .int) (C := RX9) (T := TX9) (N := 21) hx hb hts iX9 tyX9 tyX9_ok nmX9 hown hK hP hD hS 0 rfl rfl 9 (by decide) (hts _ q1207) (fun _ h9 => h9) rfl (tyX9_ok 9 (by decide)) rfl rfl (Nat.le_of_ble_eq_true rfl) dX9_read_73 (fun H locs hP hD hS => ?_)
          have hP : va_P E.1 vwCl ([gX9 E a v_now v_tried v_kept v_undos v_saved v_isSaved v_line v_lined v_text (nI 0) v_at v_order v_told v_at v_reason v_detail v_answer v_thrown v_mixed v_conflicts v_firstConflict] : List va_W).flatten H := hP
          have hD : va_D A ([gX9 E a v_now v_tried v_kept v_undos v_saved v_isSaved v_line v_lined v_text (nI 0) v_at v_order v_told v_at v_reason v_detail v_answer v_thrown v_mixed v_conflicts v_firstConflict] : List va_W).flatten := hD
          refine lv_aload_n hx hb dX9_read_76 rfl (lv_at hl 0 rfl) ?_
          refine lv_iconst (v := (nI 1)) hx hb dX9_read_77 (by decide) ?_
          obtain ⟨⟨r11, w12⟩, hr13, h⟩ := ob h
          dsimp only at h
          refine px_V (As := [.int (nI 1)]) (rest := []) (gs := ([gX9 E a v_now v_tried v_kept v_undos v_saved v_isSaved v_line v_lined v_text (nI 0) v_at v_order v_told v_at v_reason v_detail v_answer v_thrown v_mixed v_conflicts v_firstConflict] : List va_W)) (gr := ([] : List va_W)) (gc := ([gX9 E a v_now v_tried v_kept v_undos v_saved v_isSaved v_line v_lined v_text (nI 0) v_at v_order v_told v_at v_reason v_detail v_answer v_thrown v_mixed v_conflicts v_firstConflict] : List va_W)) (g1 := ([gX9 E a v_now v_tried v_kept v_undos v_saved v_isSaved v_line v_lined v_text (nI 0) v_at v_order v_told v_at v_reason v_detail v_answer w12 v_mixed v_conflicts v_firstConflict] : List va_W)) (g2 := ([gX9 E a v_now v_tried v_kept v_undos v_saved v_isSaved v_line v_lined v_text (nI 0) v_at v_order v_told v_at v_reason v_detail v_answer w12 v_mixed v_conflicts v_firstConflict] : List va_W)) ⟨hx, hb, hml, hown, hts⟩ (c9_raises l E a  ((nI 1)) (v_now) (v_tried) (v_kept) (v_undos) (v_saved) (v_isSaved) (v_line) (v_lined) (v_text) ((nI 0)) (v_at) (v_order) (v_told) (v_at) (v_reason) (v_detail) (v_answer) (v_thrown) (v_mixed) (v_conflicts) (v_firstConflict) r11 w12 hr13) (cwV 1 hts (ws_v q1320 q1322 q28 q68 q1323) rfl rfl rfl hdV_X9_raises (by rw [hR]; exact ⟨Nat.le_of_ble_eq_true rfl, Nat.le_of_ble_eq_true rfl⟩)) hK hN hP hD hS hA [] [0] [0] rfl rfl (by decide) (by decide) rfl (by decide) 0 9 rfl rfl rfl rfl hl.1 rfl (Nat.le_of_ble_eq_true rfl) dX9_read_78 (by rw [hR]; exact ⟨Nat.le_of_ble_eq_true rfl, Nat.le_of_ble_eq_true rfl⟩) (fun H locs hP hD hS => ?_)
          refine W.eq (g2 := F0 m 81 ls [.int r11]) rfl ?_
          cases h
          exact px_eWi hA0 hQ hP hD hS hx hb hr hlocks dX9_read_81
      · rw [if_neg c9] at h
        refine lv_aload_n hx hb dX9_read_23 rfl (lv_at hl 0 rfl) ?_
        refine va_get (D := E.1) (ci := 9) (v := .int v_at) (C := RX9) (T := TX9) (N := 21) hx hb hts iX9 hown hK hP 0 rfl rfl 10 (by decide) (hts _ q1208) (fun _ h9 => h9) rfl dX9_read_24 ?_
        refine lv_aload_n hx hb dX9_read_27 rfl (lv_at hl 0 rfl) ?_
        refine va_get (D := E.1) (ci := 9) (v := .int v_length) (C := RX9) (T := TX9) (N := 21) hx hb hts iX9 hown hK hP 0 rfl rfl 9 (by decide) (hts _ q1207) (fun _ h9 => h9) rfl dX9_read_28 ?_
        refine lv_icmp_ge (tgt := 59) hx hb dX9_read_31 (by decide) (fun c14 => ?_) (fun c14 => ?_)
        · rw [if_pos c14] at h
          refine lv_iload_n hx hb dX9_read_59 rfl (lv_at hl 1 rfl) ?_
          refine lv_if_ne (tgt := 82) hx hb dX9_read_60 (by decide) (fun c15 => ?_) (fun c15 => ?_)
          · rw [if_neg c15] at h
            refine lv_aload_n hx hb dX9_read_82 rfl (lv_at hl 0 rfl) ?_
            refine lv_iconst (v := (nI 0)) hx hb dX9_read_83 (by decide) ?_
            refine va_put (D := E.1) (ci := 9) (v := .int (nI 0)) (ty := .int) (C := RX9) (T := TX9) (N := 21) hx hb hts iX9 tyX9 tyX9_ok nmX9 hown hK hP hD hS 0 rfl rfl 10 (by decide) (hts _ q1208) (fun _ h9 => h9) rfl (tyX9_ok 10 (by decide)) rfl rfl (Nat.le_of_ble_eq_true rfl) dX9_read_84 (fun H locs hP hD hS => ?_)
            have hP : va_P E.1 vwCl ([gX9 E a v_now v_tried v_kept v_undos v_saved v_isSaved v_line v_lined v_text v_length (nI 0) v_order v_told v_error v_reason v_detail v_answer v_thrown v_mixed v_conflicts v_firstConflict] : List va_W).flatten H := hP
            have hD : va_D A ([gX9 E a v_now v_tried v_kept v_undos v_saved v_isSaved v_line v_lined v_text v_length (nI 0) v_order v_told v_error v_reason v_detail v_answer v_thrown v_mixed v_conflicts v_firstConflict] : List va_W).flatten := hD
            refine lv_iconst (v := (nI 0)) hx hb dX9_read_87 (by decide) ?_
            refine lv_istore_n (lv' := [(2, .int (nI 0)), (0, .ref (a 0)), (1, .int x1)]) hx hb dX9_read_88 rfl hl (by decide) rfl (fun ls hl => ?_)
            refine lv_iconst (v := (nI 0)) hx hb dX9_read_89 (by decide) ?_
            refine lv_istore_n (lv' := [(3, .int (nI 0)), (2, .int (nI 0)), (0, .ref (a 0)), (1, .int x1)]) hx hb dX9_read_90 rfl hl (by decide) rfl (fun ls hl => ?_)
            refine lv_iconst (v := (nI 1)) hx hb dX9_read_91 (by decide) ?_
            refine lv_istore (lv' := [(4, .int (nI 1)), (3, .int (nI 0)), (2, .int (nI 0)), (0, .ref (a 0)), (1, .int x1)]) hx hb dX9_read_92 hl (by decide) rfl (fun ls hl => ?_)
            exact L94 fuel ((nI 0)) ((nI 0)) ((nI 1)) (v_now) (v_tried) (v_kept) (v_undos) (v_length) ((nI 0)) (v_order) (v_told) (v_error) (v_reason) (v_detail) (v_answer) (v_thrown) (v_mixed) (v_conflicts) (v_firstConflict) H locs ls hP hD hS (lv_sub hl [3, 2, 1, 0] rfl) h
          · rw [if_pos c15] at h
            refine lv_aload_n hx hb dX9_read_63 rfl (lv_at hl 0 rfl) ?_
            refine lv_aload_n hx hb dX9_read_64 rfl (lv_at hl 0 rfl) ?_
            refine va_get (D := E.1) (ci := 9) (v := .int v_at) (C := RX9) (T := TX9) (N := 21) hx hb hts iX9 hown hK hP 0 rfl rfl 10 (by decide) (hts _ q1208) (fun _ h9 => h9) rfl dX9_read_65 ?_
            refine va_put (D := E.1) (ci := 9) (v := .int v_at) (ty := .int) (C := RX9) (T := TX9) (N := 21) hx hb hts iX9 tyX9 tyX9_ok nmX9 hown hK hP hD hS 0 rfl rfl 13 (by decide) (hts _ q1211) (fun _ h9 => h9) rfl (tyX9_ok 13 (by decide)) rfl rfl (Nat.le_of_ble_eq_true rfl) dX9_read_68 (fun H locs hP hD hS => ?_)
            have hP : va_P E.1 vwCl ([gX9 E a v_now v_tried v_kept v_undos v_saved v_isSaved v_line v_lined v_text v_length v_at v_order v_told v_at v_reason v_detail v_answer v_thrown v_mixed v_conflicts v_firstConflict] : List va_W).flatten H := hP
            have hD : va_D A ([gX9 E a v_now v_tried v_kept v_undos v_saved v_isSaved v_line v_lined v_text v_length v_at v_order v_told v_at v_reason v_detail v_answer v_thrown v_mixed v_conflicts v_firstConflict] : List va_W).flatten := hD
            refine lv_aload_n hx hb dX9_read_71 rfl (lv_at hl 0 rfl) ?_
            refine lv_iconst (v := (nI 0)) hx hb dX9_read_72 (by decide) ?_
            refine va_put (D := E.1) (ci := 9) (v := .int (nI 0)) (ty := .int) (C := RX9) (T := TX9) (N := 21) hx hb hts iX9 tyX9 tyX9_ok nmX9 hown hK hP hD hS 0 rfl rfl 9 (by decide) (hts _ q1207) (fun _ h9 => h9) rfl (tyX9_ok 9 (by decide)) rfl rfl (Nat.le_of_ble_eq_true rfl) dX9_read_73 (fun H locs hP hD hS => ?_)
            have hP : va_P E.1 vwCl ([gX9 E a v_now v_tried v_kept v_undos v_saved v_isSaved v_line v_lined v_text (nI 0) v_at v_order v_told v_at v_reason v_detail v_answer v_thrown v_mixed v_conflicts v_firstConflict] : List va_W).flatten H := hP
            have hD : va_D A ([gX9 E a v_now v_tried v_kept v_undos v_saved v_isSaved v_line v_lined v_text (nI 0) v_at v_order v_told v_at v_reason v_detail v_answer v_thrown v_mixed v_conflicts v_firstConflict] : List va_W).flatten := hD
            refine lv_aload_n hx hb dX9_read_76 rfl (lv_at hl 0 rfl) ?_
            refine lv_iconst (v := (nI 1)) hx hb dX9_read_77 (by decide) ?_
            obtain ⟨⟨r16, w17⟩, hr18, h⟩ := ob h
            dsimp only at h
            refine px_V (As := [.int (nI 1)]) (rest := []) (gs := ([gX9 E a v_now v_tried v_kept v_undos v_saved v_isSaved v_line v_lined v_text (nI 0) v_at v_order v_told v_at v_reason v_detail v_answer v_thrown v_mixed v_conflicts v_firstConflict] : List va_W)) (gr := ([] : List va_W)) (gc := ([gX9 E a v_now v_tried v_kept v_undos v_saved v_isSaved v_line v_lined v_text (nI 0) v_at v_order v_told v_at v_reason v_detail v_answer v_thrown v_mixed v_conflicts v_firstConflict] : List va_W)) (g1 := ([gX9 E a v_now v_tried v_kept v_undos v_saved v_isSaved v_line v_lined v_text (nI 0) v_at v_order v_told v_at v_reason v_detail v_answer w17 v_mixed v_conflicts v_firstConflict] : List va_W)) (g2 := ([gX9 E a v_now v_tried v_kept v_undos v_saved v_isSaved v_line v_lined v_text (nI 0) v_at v_order v_told v_at v_reason v_detail v_answer w17 v_mixed v_conflicts v_firstConflict] : List va_W)) ⟨hx, hb, hml, hown, hts⟩ (c9_raises l E a  ((nI 1)) (v_now) (v_tried) (v_kept) (v_undos) (v_saved) (v_isSaved) (v_line) (v_lined) (v_text) ((nI 0)) (v_at) (v_order) (v_told) (v_at) (v_reason) (v_detail) (v_answer) (v_thrown) (v_mixed) (v_conflicts) (v_firstConflict) r16 w17 hr18) (cwV 1 hts (ws_v q1320 q1322 q28 q68 q1323) rfl rfl rfl hdV_X9_raises (by rw [hR]; exact ⟨Nat.le_of_ble_eq_true rfl, Nat.le_of_ble_eq_true rfl⟩)) hK hN hP hD hS hA [] [0] [0] rfl rfl (by decide) (by decide) rfl (by decide) 0 9 rfl rfl rfl rfl hl.1 rfl (Nat.le_of_ble_eq_true rfl) dX9_read_78 (by rw [hR]; exact ⟨Nat.le_of_ble_eq_true rfl, Nat.le_of_ble_eq_true rfl⟩) (fun H locs hP hD hS => ?_)
            refine W.eq (g2 := F0 m 81 ls [.int r16]) rfl ?_
            cases h
            exact px_eWi hA0 hQ hP hD hS hx hb hr hlocks dX9_read_81
        · rw [if_neg c14] at h
          refine lv_aload_n hx hb dX9_read_34 rfl (lv_at hl 0 rfl) ?_
          refine lv_bipush (v := (nI 59)) hx hb dX9_read_35 (by decide) ?_
          obtain ⟨⟨r19, w20⟩, hr21, h⟩ := ob h
          dsimp only at h
          refine px_V (As := [.int (ch (nI 59))]) (rest := []) (gs := ([gX9 E a v_now v_tried v_kept v_undos v_saved v_isSaved v_line v_lined v_text v_length v_at v_order v_told v_error v_reason v_detail v_answer v_thrown v_mixed v_conflicts v_firstConflict] : List va_W)) (gr := ([] : List va_W)) (gc := ([gX9 E a v_now v_tried v_kept v_undos v_saved v_isSaved v_line v_lined v_text v_length v_at v_order v_told v_error v_reason v_detail v_answer v_thrown v_mixed v_conflicts v_firstConflict] : List va_W)) (g1 := ([gX9 E a v_now v_tried v_kept v_undos v_saved v_isSaved v_line v_lined v_text v_length w20 v_order v_told v_error v_reason v_detail v_answer v_thrown v_mixed v_conflicts v_firstConflict] : List va_W)) (g2 := ([gX9 E a v_now v_tried v_kept v_undos v_saved v_isSaved v_line v_lined v_text v_length w20 v_order v_told v_error v_reason v_detail v_answer v_thrown v_mixed v_conflicts v_firstConflict] : List va_W)) ⟨hx, hb, hml, hown, hts⟩ (c9_sign l E a  ((nI 59)) (v_now) (v_tried) (v_kept) (v_undos) (v_saved) (v_isSaved) (v_line) (v_lined) (v_text) (v_length) (v_at) (v_order) (v_told) (v_error) (v_reason) (v_detail) (v_answer) (v_thrown) (v_mixed) (v_conflicts) (v_firstConflict) r19 w20 hr21) (cwV 1 hts (ws_v q1557 q1559 q55 q68 q1560) rfl rfl rfl hdV_X9_sign (by rw [hR]; exact ⟨Nat.le_of_ble_eq_true rfl, Nat.le_of_ble_eq_true rfl⟩)) hK hN hP hD hS hA [] [0] [0] rfl rfl (by decide) (by decide) rfl (by decide) 0 9 rfl rfl rfl rfl hl.1 rfl (Nat.le_of_ble_eq_true rfl) dX9_read_37 (by rw [hR]; exact ⟨Nat.le_of_ble_eq_true rfl, Nat.le_of_ble_eq_true rfl⟩) (fun H locs hP hD hS => ?_)
          refine W.eq (g2 := F0 m 40 ls [.int (b2i r19)]) rfl ?_
          refine lv_if_eq (tgt := 54) hx hb dX9_read_40 (by decide) (fun c22 => ?_) (fun c22 => ?_)
          · rw [if_pos c22] at h
            refine lv_iconst (v := (nI 0)) hx hb dX9_read_54 (by decide) ?_
            refine lv_istore_n (lv' := [(1, .int (nI 0)), (0, .ref (a 0))]) hx hb dX9_read_55 rfl hl (by decide) rfl (fun ls hl => ?_)
            refine lv_goto (tgt := 19) hx hb dX9_read_56 (by decide) ?_
            exact ih ((nI 0)) (v_now) (v_tried) (v_kept) (v_undos) (v_length) (w20) (v_order) (v_told) (v_error) (v_reason) (v_detail) (v_answer) (v_thrown) (v_mixed) (v_conflicts) (v_firstConflict) H locs ls hP hD hS (lv_sub hl [1, 0] rfl) h
          · rw [if_neg c22] at h
            refine lv_aload_n hx hb dX9_read_43 rfl (lv_at hl 0 rfl) ?_
            obtain ⟨⟨r23, w24, w25, w26⟩, hr27, h⟩ := ob h
            dsimp only at h
            refine px_V (As := []) (rest := []) (gs := ([gX9 E a v_now v_tried v_kept v_undos v_saved v_isSaved v_line v_lined v_text v_length w20 v_order v_told v_error v_reason v_detail v_answer v_thrown v_mixed v_conflicts v_firstConflict] : List va_W)) (gr := ([] : List va_W)) (gc := ([gX9 E a v_now v_tried v_kept v_undos v_saved v_isSaved v_line v_lined v_text v_length w20 v_order v_told v_error v_reason v_detail v_answer v_thrown v_mixed v_conflicts v_firstConflict] : List va_W)) (g1 := ([gX9 E a v_now v_tried v_kept v_undos v_saved v_isSaved v_line v_lined v_text v_length w24 w25 w26 v_error v_reason v_detail v_answer v_thrown v_mixed v_conflicts v_firstConflict] : List va_W)) (g2 := ([gX9 E a v_now v_tried v_kept v_undos v_saved v_isSaved v_line v_lined v_text v_length w24 w25 w26 v_error v_reason v_detail v_answer v_thrown v_mixed v_conflicts v_firstConflict] : List va_W)) ⟨hx, hb, hml, hown, hts⟩ (c9_isOrder l E a   (v_now) (v_tried) (v_kept) (v_undos) (v_saved) (v_isSaved) (v_line) (v_lined) (v_text) (v_length) (w20) (v_order) (v_told) (v_error) (v_reason) (v_detail) (v_answer) (v_thrown) (v_mixed) (v_conflicts) (v_firstConflict) r23 w24 w25 w26 hr27) (cwV 0 hts (ws_v q1549 q1551 q53 q68 q1552) rfl rfl rfl hdV_X9_isOrder (by rw [hR]; exact ⟨Nat.le_of_ble_eq_true rfl, Nat.le_of_ble_eq_true rfl⟩)) hK hN hP hD hS hA [] [0] [0] rfl rfl (by decide) (by decide) rfl (by decide) 0 9 rfl rfl rfl rfl hl.1 rfl (Nat.le_of_ble_eq_true rfl) dX9_read_44 (by rw [hR]; exact ⟨Nat.le_of_ble_eq_true rfl, Nat.le_of_ble_eq_true rfl⟩) (fun H locs hP hD hS => ?_)
            refine W.eq (g2 := F0 m 47 ls [.int (b2i r23)]) rfl ?_
            refine lv_if_eq (tgt := 54) hx hb dX9_read_47 (by decide) (fun c28 => ?_) (fun c28 => ?_)
            · rw [if_pos c28] at h
              refine lv_iconst (v := (nI 0)) hx hb dX9_read_54 (by decide) ?_
              refine lv_istore_n (lv' := [(1, .int (nI 0)), (0, .ref (a 0))]) hx hb dX9_read_55 rfl hl (by decide) rfl (fun ls hl => ?_)
              refine lv_goto (tgt := 19) hx hb dX9_read_56 (by decide) ?_
              exact ih ((nI 0)) (v_now) (v_tried) (v_kept) (v_undos) (v_length) (w24) (w25) (w26) (v_error) (v_reason) (v_detail) (v_answer) (v_thrown) (v_mixed) (v_conflicts) (v_firstConflict) H locs ls hP hD hS (lv_sub hl [1, 0] rfl) h
            · rw [if_neg c28] at h
              refine lv_iconst (v := (nI 1)) hx hb dX9_read_50 (by decide) ?_
              refine lv_goto (tgt := 55) hx hb dX9_read_51 (by decide) ?_
              refine lv_istore_n (lv' := [(1, .int (nI 1)), (0, .ref (a 0))]) hx hb dX9_read_55 rfl hl (by decide) rfl (fun ls hl => ?_)
              refine lv_goto (tgt := 19) hx hb dX9_read_56 (by decide) ?_
              exact ih ((nI 1)) (v_now) (v_tried) (v_kept) (v_undos) (v_length) (w24) (w25) (w26) (v_error) (v_reason) (v_detail) (v_answer) (v_thrown) (v_mixed) (v_conflicts) (v_firstConflict) H locs ls hP hD hS (lv_sub hl [1, 0] rfl) h
  intro H locs hP hS
  refine lv_aload_n hx hb dX9_read_0 rfl (lv_at hl 0 rfl) ?_
  obtain ⟨⟨w1, w2⟩, hr3, h⟩ := ob h
  dsimp only at h
  refine px_V (As := []) (rest := []) (gs := ([gX9 E a v_now v_tried v_kept v_undos v_saved v_isSaved v_line v_lined v_text v_length v_at v_order v_told v_error v_reason v_detail v_answer v_thrown v_mixed v_conflicts v_firstConflict] : List va_W)) (gr := ([] : List va_W)) (gc := ([gX9 E a v_now v_tried v_kept v_undos v_saved v_isSaved v_line v_lined v_text v_length v_at v_order v_told v_error v_reason v_detail v_answer v_thrown v_mixed v_conflicts v_firstConflict] : List va_W)) (g1 := ([gX9 E a v_now w1 v_kept v_undos v_saved v_isSaved v_line v_lined v_text v_length v_at v_order v_told v_error v_reason v_detail v_answer w2 v_mixed v_conflicts v_firstConflict] : List va_W)) (g2 := ([gX9 E a v_now w1 v_kept v_undos v_saved v_isSaved v_line v_lined v_text v_length v_at v_order v_told v_error v_reason v_detail v_answer w2 v_mixed v_conflicts v_firstConflict] : List va_W)) ⟨hx, hb, hml, hown, hts⟩ (c9_tries l E a   (v_now) (v_tried) (v_kept) (v_undos) (v_saved) (v_isSaved) (v_line) (v_lined) (v_text) (v_length) (v_at) (v_order) (v_told) (v_error) (v_reason) (v_detail) (v_answer) (v_thrown) (v_mixed) (v_conflicts) (v_firstConflict) w1 w2 hr3) (cwV 0 hts (ws_v q1270 q1272 q17 q68 q1273) rfl rfl rfl hdV_X9_tries (by rw [hR]; exact ⟨Nat.le_of_ble_eq_true rfl, Nat.le_of_ble_eq_true rfl⟩)) hK hN hP hD hS hA [] [0] [0] rfl rfl (by decide) (by decide) rfl (by decide) 0 9 rfl rfl rfl rfl hl.1 rfl (Nat.le_of_ble_eq_true rfl) dX9_read_1 (by rw [hR]; exact ⟨Nat.le_of_ble_eq_true rfl, Nat.le_of_ble_eq_true rfl⟩) (fun H locs hP hD hS => ?_)
  refine W.eq (g2 := F0 m 4 ls []) rfl ?_
  refine lv_aload_n hx hb dX9_read_4 rfl (lv_at hl 0 rfl) ?_
  refine lv_iconst (v := (nI 0)) hx hb dX9_read_5 (by decide) ?_
  refine va_put (D := E.1) (ci := 9) (v := .int (nI 0)) (ty := .int) (C := RX9) (T := TX9) (N := 21) hx hb hts iX9 tyX9 tyX9_ok nmX9 hown hK hP hD hS 0 rfl rfl 10 (by decide) (hts _ q1208) (fun _ h9 => h9) rfl (tyX9_ok 10 (by decide)) rfl rfl (Nat.le_of_ble_eq_true rfl) dX9_read_6 (fun H locs hP hD hS => ?_)
  have hP : va_P E.1 vwCl ([gX9 E a v_now w1 v_kept v_undos v_saved v_isSaved v_line v_lined v_text v_length (nI 0) v_order v_told v_error v_reason v_detail v_answer w2 v_mixed v_conflicts v_firstConflict] : List va_W).flatten H := hP
  have hD : va_D A ([gX9 E a v_now w1 v_kept v_undos v_saved v_isSaved v_line v_lined v_text v_length (nI 0) v_order v_told v_error v_reason v_detail v_answer w2 v_mixed v_conflicts v_firstConflict] : List va_W).flatten := hD
  refine lv_aload_n hx hb dX9_read_9 rfl (lv_at hl 0 rfl) ?_
  refine lv_iconst (v := (-1 : Int32)) hx hb dX9_read_10 (by decide) ?_
  refine va_put (D := E.1) (ci := 9) (v := .int (-1 : Int32)) (ty := .int) (C := RX9) (T := TX9) (N := 21) hx hb hts iX9 tyX9 tyX9_ok nmX9 hown hK hP hD hS 0 rfl rfl 13 (by decide) (hts _ q1211) (fun _ h9 => h9) rfl (tyX9_ok 13 (by decide)) rfl rfl (Nat.le_of_ble_eq_true rfl) dX9_read_11 (fun H locs hP hD hS => ?_)
  have hP : va_P E.1 vwCl ([gX9 E a v_now w1 v_kept v_undos v_saved v_isSaved v_line v_lined v_text v_length (nI 0) v_order v_told (-1 : Int32) v_reason v_detail v_answer w2 v_mixed v_conflicts v_firstConflict] : List va_W).flatten H := hP
  have hD : va_D A ([gX9 E a v_now w1 v_kept v_undos v_saved v_isSaved v_line v_lined v_text v_length (nI 0) v_order v_told (-1 : Int32) v_reason v_detail v_answer w2 v_mixed v_conflicts v_firstConflict] : List va_W).flatten := hD
  refine lv_aload_n hx hb dX9_read_14 rfl (lv_at hl 0 rfl) ?_
  obtain ⟨⟨r4, w5, w6, w7⟩, hr8, h⟩ := ob h
  dsimp only at h
  refine px_V (As := []) (rest := []) (gs := ([gX9 E a v_now w1 v_kept v_undos v_saved v_isSaved v_line v_lined v_text v_length (nI 0) v_order v_told (-1 : Int32) v_reason v_detail v_answer w2 v_mixed v_conflicts v_firstConflict] : List va_W)) (gr := ([] : List va_W)) (gc := ([gX9 E a v_now w1 v_kept v_undos v_saved v_isSaved v_line v_lined v_text v_length (nI 0) v_order v_told (-1 : Int32) v_reason v_detail v_answer w2 v_mixed v_conflicts v_firstConflict] : List va_W)) (g1 := ([gX9 E a v_now w1 v_kept v_undos v_saved v_isSaved v_line v_lined v_text v_length w5 w6 w7 (-1 : Int32) v_reason v_detail v_answer w2 v_mixed v_conflicts v_firstConflict] : List va_W)) (g2 := ([gX9 E a v_now w1 v_kept v_undos v_saved v_isSaved v_line v_lined v_text v_length w5 w6 w7 (-1 : Int32) v_reason v_detail v_answer w2 v_mixed v_conflicts v_firstConflict] : List va_W)) ⟨hx, hb, hml, hown, hts⟩ (c9_isOrder l E a   (v_now) (w1) (v_kept) (v_undos) (v_saved) (v_isSaved) (v_line) (v_lined) (v_text) (v_length) ((nI 0)) (v_order) (v_told) ((-1 : Int32)) (v_reason) (v_detail) (v_answer) (w2) (v_mixed) (v_conflicts) (v_firstConflict) r4 w5 w6 w7 hr8) (cwV 0 hts (ws_v q1549 q1551 q53 q68 q1552) rfl rfl rfl hdV_X9_isOrder (by rw [hR]; exact ⟨Nat.le_of_ble_eq_true rfl, Nat.le_of_ble_eq_true rfl⟩)) hK hN hP hD hS hA [] [0] [0] rfl rfl (by decide) (by decide) rfl (by decide) 0 9 rfl rfl rfl rfl hl.1 rfl (Nat.le_of_ble_eq_true rfl) dX9_read_15 (by rw [hR]; exact ⟨Nat.le_of_ble_eq_true rfl, Nat.le_of_ble_eq_true rfl⟩) (fun H locs hP hD hS => ?_)
  refine W.eq (g2 := F0 m 18 ls [.int (b2i r4)]) rfl ?_
  refine lv_istore_n (lv' := [(1, .int (b2i r4)), (0, .ref (a 0))]) hx hb dX9_read_18 rfl hl (by decide) rfl (fun ls hl => ?_)
  exact L19 fuel ((b2i r4)) (v_now) (w1) (v_kept) (v_undos) (v_length) (w5) (w6) (w7) ((-1 : Int32)) (v_reason) (v_detail) (v_answer) (w2) (v_mixed) (v_conflicts) (v_firstConflict) H locs ls hP hD hS (lv_sub hl [1, 0] rfl) h
def f9_errorPosition  (v_error : Int32) (v_thrown : Int32) : Option (Int32 × Int32) := (some (v_error, (nI 0)))
set_option maxHeartbeats 4000000 in
set_option maxRecDepth 100000 in
theorem c9_errorPosition (l : Launch) (E : PE) (a : Nat → Nat)   (v_now : AI) (v_tried : AI) (v_kept : AI) (v_undos : Int32) (v_saved : AI) (v_isSaved : Int32) (v_line : AI) (v_lined : Int32) (v_text : AI) (v_length : Int32) (v_at : Int32) (v_order : Int32) (v_told : AI) (v_error : Int32) (v_reason : Int32) (v_detail : Int32) (v_answer : Int32) (v_thrown : Int32) (v_mixed : AI) (v_conflicts : Int32) (v_firstConflict : Int32) (r : Int32) (z_this_thrown : Int32) (h : f9_errorPosition v_error v_thrown = some (r, z_this_thrown)) : MW l yX9_errorPosition cX9_errorPosition 1 (some .int) { frames := 0, cells := 0, slots := 0, locals := 0 } E [.ref (a 0)] ([gX9 E a v_now v_tried v_kept v_undos v_saved v_isSaved v_line v_lined v_text v_length v_at v_order v_told v_error v_reason v_detail v_answer v_thrown v_mixed v_conflicts v_firstConflict] : List va_W).flatten 0 0 (some (.int r)) ([gX9 E a v_now v_tried v_kept v_undos v_saved v_isSaved v_line v_lined v_text v_length v_at v_order v_told v_error v_reason v_detail v_answer z_this_thrown v_mixed v_conflicts v_firstConflict] : List va_W).flatten := by
  refine px_startW (by decide +kernel) (Nat.le_of_ble_eq_true rfl) ?_
  intro p e s m args below meth c R Q A ls hC hA0 hQ
  obtain ⟨hx, hb, hr, hml, hts, hown, hlocks, hR, hK, hN, hP, hD, hA, hl, hin⟩ := hC
  have hl : lv_has ls 1 [(0, .ref (a 0))] := hl
  suffices key : ∀ (H : Heap) (locs : List Loc), va_P E.1 vwCl ([gX9 E a v_now v_tried v_kept v_undos v_saved v_isSaved v_line v_lined v_text v_length v_at v_order v_told v_error v_reason v_detail v_answer v_thrown v_mixed v_conflicts v_firstConflict] : List va_W).flatten H → va_S A s.heap H locs → W p l e R s m args below meth c H locs 0 0 Q (F0 m 0 ls []) from key s.heap [] hP va_S.rf
  unfold f9_errorPosition at h
  intro H locs hP hS
  refine lv_aload_n hx hb dX9_errorPosition_0 rfl (lv_at hl 0 rfl) ?_
  refine lv_iconst (v := (nI 0)) hx hb dX9_errorPosition_1 (by decide) ?_
  refine va_put (D := E.1) (ci := 9) (v := .int (nI 0)) (ty := .int) (C := RX9) (T := TX9) (N := 21) hx hb hts iX9 tyX9 tyX9_ok nmX9 hown hK hP hD hS 0 rfl rfl 17 (by decide) (hts _ q1215) (fun _ h9 => h9) rfl (tyX9_ok 17 (by decide)) rfl rfl (Nat.le_of_ble_eq_true rfl) dX9_errorPosition_2 (fun H locs hP hD hS => ?_)
  have hP : va_P E.1 vwCl ([gX9 E a v_now v_tried v_kept v_undos v_saved v_isSaved v_line v_lined v_text v_length v_at v_order v_told v_error v_reason v_detail v_answer (nI 0) v_mixed v_conflicts v_firstConflict] : List va_W).flatten H := hP
  have hD : va_D A ([gX9 E a v_now v_tried v_kept v_undos v_saved v_isSaved v_line v_lined v_text v_length v_at v_order v_told v_error v_reason v_detail v_answer (nI 0) v_mixed v_conflicts v_firstConflict] : List va_W).flatten := hD
  refine lv_aload_n hx hb dX9_errorPosition_5 rfl (lv_at hl 0 rfl) ?_
  refine va_get (D := E.1) (ci := 9) (v := .int v_error) (C := RX9) (T := TX9) (N := 21) hx hb hts iX9 hown hK hP 0 rfl rfl 13 (by decide) (hts _ q1211) (fun _ h9 => h9) rfl dX9_errorPosition_6 ?_
  cases h
  exact px_eWi hA0 hQ hP hD hS hx hb hr hlocks dX9_errorPosition_9
def f9_refusal (x1 : Int32) (v_reason : Int32) (v_detail : Int32) (v_thrown : Int32) : Option (Int32 × Int32) := (if v_reason = 0 then ((f9_raises ((nI 1)) ((nI 0))).bind fun (r3, w4) => (some (r3, w4))) else (if x1 = 0 then (some (v_reason, (nI 0))) else (some (v_detail, (nI 0)))))
set_option maxHeartbeats 4000000 in
set_option maxRecDepth 100000 in
theorem c9_refusal (l : Launch) (E : PE) (a : Nat → Nat)  (x1 : Int32) (v_now : AI) (v_tried : AI) (v_kept : AI) (v_undos : Int32) (v_saved : AI) (v_isSaved : Int32) (v_line : AI) (v_lined : Int32) (v_text : AI) (v_length : Int32) (v_at : Int32) (v_order : Int32) (v_told : AI) (v_error : Int32) (v_reason : Int32) (v_detail : Int32) (v_answer : Int32) (v_thrown : Int32) (v_mixed : AI) (v_conflicts : Int32) (v_firstConflict : Int32) (r : Int32) (z_this_thrown : Int32) (h : f9_refusal x1 v_reason v_detail v_thrown = some (r, z_this_thrown)) : MW l yX9_refusal cX9_refusal 2 (some .int) { frames := 1, cells := 0, slots := 0, locals := 21 } E [.ref (a 0), .int x1] ([gX9 E a v_now v_tried v_kept v_undos v_saved v_isSaved v_line v_lined v_text v_length v_at v_order v_told v_error v_reason v_detail v_answer v_thrown v_mixed v_conflicts v_firstConflict] : List va_W).flatten 0 0 (some (.int r)) ([gX9 E a v_now v_tried v_kept v_undos v_saved v_isSaved v_line v_lined v_text v_length v_at v_order v_told v_error v_reason v_detail v_answer z_this_thrown v_mixed v_conflicts v_firstConflict] : List va_W).flatten := by
  refine px_startW (by decide +kernel) (Nat.le_of_ble_eq_true rfl) ?_
  intro p e s m args below meth c R Q A ls hC hA0 hQ
  obtain ⟨hx, hb, hr, hml, hts, hown, hlocks, hR, hK, hN, hP, hD, hA, hl, hin⟩ := hC
  have hl : lv_has ls 2 [(0, .ref (a 0)), (1, .int x1)] := hl
  suffices key : ∀ (H : Heap) (locs : List Loc), va_P E.1 vwCl ([gX9 E a v_now v_tried v_kept v_undos v_saved v_isSaved v_line v_lined v_text v_length v_at v_order v_told v_error v_reason v_detail v_answer v_thrown v_mixed v_conflicts v_firstConflict] : List va_W).flatten H → va_S A s.heap H locs → W p l e R s m args below meth c H locs 0 0 Q (F0 m 0 ls []) from key s.heap [] hP va_S.rf
  unfold f9_refusal at h
  intro H locs hP hS
  refine lv_aload_n hx hb dX9_refusal_0 rfl (lv_at hl 0 rfl) ?_
  refine lv_iconst (v := (nI 0)) hx hb dX9_refusal_1 (by decide) ?_
  refine va_put (D := E.1) (ci := 9) (v := .int (nI 0)) (ty := .int) (C := RX9) (T := TX9) (N := 21) hx hb hts iX9 tyX9 tyX9_ok nmX9 hown hK hP hD hS 0 rfl rfl 17 (by decide) (hts _ q1215) (fun _ h9 => h9) rfl (tyX9_ok 17 (by decide)) rfl rfl (Nat.le_of_ble_eq_true rfl) dX9_refusal_2 (fun H locs hP hD hS => ?_)
  have hP : va_P E.1 vwCl ([gX9 E a v_now v_tried v_kept v_undos v_saved v_isSaved v_line v_lined v_text v_length v_at v_order v_told v_error v_reason v_detail v_answer (nI 0) v_mixed v_conflicts v_firstConflict] : List va_W).flatten H := hP
  have hD : va_D A ([gX9 E a v_now v_tried v_kept v_undos v_saved v_isSaved v_line v_lined v_text v_length v_at v_order v_told v_error v_reason v_detail v_answer (nI 0) v_mixed v_conflicts v_firstConflict] : List va_W).flatten := hD
  refine lv_aload_n hx hb dX9_refusal_5 rfl (lv_at hl 0 rfl) ?_
  refine va_get (D := E.1) (ci := 9) (v := .int v_reason) (C := RX9) (T := TX9) (N := 21) hx hb hts iX9 hown hK hP 0 rfl rfl 14 (by decide) (hts _ q1212) (fun _ h9 => h9) rfl dX9_refusal_6 ?_
  refine lv_if_ne (tgt := 18) hx hb dX9_refusal_9 (by decide) (fun c1 => ?_) (fun c1 => ?_)
  · rw [if_neg c1] at h
    refine lv_iload_n hx hb dX9_refusal_18 rfl (lv_at hl 1 rfl) ?_
    refine lv_if_eq (tgt := 29) hx hb dX9_refusal_19 (by decide) (fun c2 => ?_) (fun c2 => ?_)
    · rw [if_pos c2] at h
      refine lv_aload_n hx hb dX9_refusal_29 rfl (lv_at hl 0 rfl) ?_
      refine va_get (D := E.1) (ci := 9) (v := .int v_reason) (C := RX9) (T := TX9) (N := 21) hx hb hts iX9 hown hK hP 0 rfl rfl 14 (by decide) (hts _ q1212) (fun _ h9 => h9) rfl dX9_refusal_30 ?_
      cases h
      exact px_eWi hA0 hQ hP hD hS hx hb hr hlocks dX9_refusal_33
    · rw [if_neg c2] at h
      refine lv_aload_n hx hb dX9_refusal_22 rfl (lv_at hl 0 rfl) ?_
      refine va_get (D := E.1) (ci := 9) (v := .int v_detail) (C := RX9) (T := TX9) (N := 21) hx hb hts iX9 hown hK hP 0 rfl rfl 15 (by decide) (hts _ q1213) (fun _ h9 => h9) rfl dX9_refusal_23 ?_
      refine lv_goto (tgt := 33) hx hb dX9_refusal_26 (by decide) ?_
      cases h
      exact px_eWi hA0 hQ hP hD hS hx hb hr hlocks dX9_refusal_33
  · rw [if_pos c1] at h
    refine lv_aload_n hx hb dX9_refusal_12 rfl (lv_at hl 0 rfl) ?_
    refine lv_iconst (v := (nI 1)) hx hb dX9_refusal_13 (by decide) ?_
    obtain ⟨⟨r3, w4⟩, hr5, h⟩ := ob h
    dsimp only at h
    refine px_V (As := [.int (nI 1)]) (rest := []) (gs := ([gX9 E a v_now v_tried v_kept v_undos v_saved v_isSaved v_line v_lined v_text v_length v_at v_order v_told v_error v_reason v_detail v_answer (nI 0) v_mixed v_conflicts v_firstConflict] : List va_W)) (gr := ([] : List va_W)) (gc := ([gX9 E a v_now v_tried v_kept v_undos v_saved v_isSaved v_line v_lined v_text v_length v_at v_order v_told v_error v_reason v_detail v_answer (nI 0) v_mixed v_conflicts v_firstConflict] : List va_W)) (g1 := ([gX9 E a v_now v_tried v_kept v_undos v_saved v_isSaved v_line v_lined v_text v_length v_at v_order v_told v_error v_reason v_detail v_answer w4 v_mixed v_conflicts v_firstConflict] : List va_W)) (g2 := ([gX9 E a v_now v_tried v_kept v_undos v_saved v_isSaved v_line v_lined v_text v_length v_at v_order v_told v_error v_reason v_detail v_answer w4 v_mixed v_conflicts v_firstConflict] : List va_W)) ⟨hx, hb, hml, hown, hts⟩ (c9_raises l E a  ((nI 1)) (v_now) (v_tried) (v_kept) (v_undos) (v_saved) (v_isSaved) (v_line) (v_lined) (v_text) (v_length) (v_at) (v_order) (v_told) (v_error) (v_reason) (v_detail) (v_answer) ((nI 0)) (v_mixed) (v_conflicts) (v_firstConflict) r3 w4 hr5) (cwV 1 hts (ws_v q1320 q1322 q28 q68 q1323) rfl rfl rfl hdV_X9_raises (by rw [hR]; exact ⟨Nat.le_of_ble_eq_true rfl, Nat.le_of_ble_eq_true rfl⟩)) hK hN hP hD hS hA [] [0] [0] rfl rfl (by decide) (by decide) rfl (by decide) 0 9 rfl rfl rfl rfl hl.1 rfl (Nat.le_of_ble_eq_true rfl) dX9_refusal_14 (by rw [hR]; exact ⟨Nat.le_of_ble_eq_true rfl, Nat.le_of_ble_eq_true rfl⟩) (fun H locs hP hD hS => ?_)
    refine W.eq (g2 := F0 m 17 ls [.int r3]) rfl ?_
    cases h
    exact px_eWi hA0 hQ hP hD hS hx hb hr hlocks dX9_refusal_17
def f9_those_L4 (x1 : Int32) (v_now : AI) : Nat → Int32 → Int32 → Option (Int32)
  | 0, _, _ => none
  | n + 1, x2, x3 => (if (v_now ((nI 0)).toNatClampNeg) ≤ x3 then (some x2) else ((f9_of (x3) ((nI 0)) (v_now)).bind fun r2 => (if r2 = x1 then (f9_those_L4 x1 v_now n ((x2 + nI 1)) ((x3 + nI 1))) else (f9_those_L4 x1 v_now n (x2) ((x3 + nI 1))))))
def f9_those (x1 : Int32) (v_now : AI) : Option (Int32) := (f9_those_L4 x1 v_now fuel ((nI 0)) ((nI 0)))
set_option maxHeartbeats 4000000 in
set_option maxRecDepth 100000 in
theorem c9_those (l : Launch) (E : PE) (a : Nat → Nat)  (x1 : Int32) (v_now : AI) (v_tried : AI) (v_kept : AI) (v_undos : Int32) (v_saved : AI) (v_isSaved : Int32) (v_line : AI) (v_lined : Int32) (v_text : AI) (v_length : Int32) (v_at : Int32) (v_order : Int32) (v_told : AI) (v_error : Int32) (v_reason : Int32) (v_detail : Int32) (v_answer : Int32) (v_thrown : Int32) (v_mixed : AI) (v_conflicts : Int32) (v_firstConflict : Int32) (r : Int32) (h : f9_those x1 v_now = some r) : MP l yX9_those cX9_those 4 (some .int) { frames := 1, cells := 0, slots := 0, locals := 22 } E [.ref (a 0), .int x1] ([gX9 E a v_now v_tried v_kept v_undos v_saved v_isSaved v_line v_lined v_text v_length v_at v_order v_told v_error v_reason v_detail v_answer v_thrown v_mixed v_conflicts v_firstConflict] : List va_W).flatten (some (.int r)) := by
  refine px_startP (by decide +kernel) (Nat.le_of_ble_eq_true rfl) ?_
  intro p e s m args below meth c R Q A ls hC hQ
  obtain ⟨hx, hb, hr, hml, hts, hown, hlocks, hR, hK, hN, hP, hD, hA, hl, hin⟩ := hC
  have hl : lv_has ls 4 [(0, .ref (a 0)), (1, .int x1)] := hl
  unfold f9_those at h
  have L4 : ∀ (n : Nat) (x2 : Int32) (x3 : Int32) (ls : Array Slot), lv_has ls 4 [(0, .ref (a 0)), (1, .int x1), (2, .int x2), (3, .int x3)] → f9_those_L4 x1 v_now n x2 x3 = some r → W p l e R s m args below meth c s.heap [] 0 0 Q (F0 m 4 ls []) := by
    intro n
    induction n with
    | zero =>
      intro x2 x3 ls hl h
      unfold f9_those_L4 at h; cases h
    | succ n ih =>
      intro x2 x3 ls hl h
      unfold f9_those_L4 at h
      refine lv_iload_n hx hb dX9_those_4 rfl (lv_at hl 3 rfl) ?_
      refine lv_aload_n hx hb dX9_those_5 rfl (lv_at hl 0 rfl) ?_
      refine va_get (D := E.1) (ci := 9) (v := .ref (a 1)) (C := RX9) (T := TX9) (N := 21) hx hb hts iX9 hown hK hP 0 rfl rfl 0 (by decide) (hts _ q1198) (fun _ h9 => h9) rfl dX9_those_6 ?_
      refine lv_iconst (v := (nI 0)) hx hb dX9_those_9 (by decide) ?_
      refine va_iald (f := v_now) hx hb hK hP 1 0 rfl rfl (inb_in (i := (nI 0)) (n := 228) (by decide)) dX9_those_10 ?_
      refine lv_icmp_ge (tgt := 33) hx hb dX9_those_11 (by decide) (fun c1 => ?_) (fun c1 => ?_)
      · rw [if_pos c1] at h
        refine lv_iload_n hx hb dX9_those_33 rfl (lv_at hl 2 rfl) ?_
        cases h
        exact px_ePi hQ hx hb hr hlocks dX9_those_34
      · rw [if_neg c1] at h
        refine lv_aload_n hx hb dX9_those_14 rfl (lv_at hl 0 rfl) ?_
        refine lv_iload_n hx hb dX9_those_15 rfl (lv_at hl 3 rfl) ?_
        refine lv_iconst (v := (nI 0)) hx hb dX9_those_16 (by decide) ?_
        obtain ⟨r2, hr3, h⟩ := ob h
        refine px_Vp (As := [.int x3, .int (nI 0)]) (rest := []) (gs := ([gX9 E a v_now v_tried v_kept v_undos v_saved v_isSaved v_line v_lined v_text v_length v_at v_order v_told v_error v_reason v_detail v_answer v_thrown v_mixed v_conflicts v_firstConflict] : List va_W)) (gc := ([gX9 E a v_now v_tried v_kept v_undos v_saved v_isSaved v_line v_lined v_text v_length v_at v_order v_told v_error v_reason v_detail v_answer v_thrown v_mixed v_conflicts v_firstConflict] : List va_W)) ⟨hx, hb, hml, hown, hts⟩ (c9_of l E a  (x3) ((nI 0)) (v_now) (v_tried) (v_kept) (v_undos) (v_saved) (v_isSaved) (v_line) (v_lined) (v_text) (v_length) (v_at) (v_order) (v_told) (v_error) (v_reason) (v_detail) (v_answer) (v_thrown) (v_mixed) (v_conflicts) (v_firstConflict) r2 hr3) (cwV 2 hts (ws_v q1296 q1298 q22 q68 q1299) rfl rfl rfl hdV_X9_of (by rw [hR]; exact ⟨Nat.le_of_ble_eq_true rfl, Nat.le_of_ble_eq_true rfl⟩)) hK hN hP hD [0] rfl (by decide) 0 9 rfl rfl rfl rfl hl.1 rfl (Nat.le_of_ble_eq_true rfl) dX9_those_17 (by rw [hR]; exact ⟨Nat.le_of_ble_eq_true rfl, Nat.le_of_ble_eq_true rfl⟩) ?_
        refine W.eq (g2 := F0 m 20 ls [.int r2]) rfl ?_
        refine lv_iload_n hx hb dX9_those_20 rfl (lv_at hl 1 rfl) ?_
        refine lv_icmp_ne (tgt := 27) hx hb dX9_those_21 (by decide) (fun c4 => ?_) (fun c4 => ?_)
        · rw [if_neg c4] at h
          refine lv_iinc (v := (x3 + nI 1)) (lv' := [(3, .int (x3 + nI 1)), (0, .ref (a 0)), (1, .int x1), (2, .int x2)]) hx hb dX9_those_27 hl (k := 3) rfl rfl (by decide) rfl (fun ls hl => ?_)
          refine lv_goto (tgt := 4) hx hb dX9_those_30 (by decide) ?_
          exact ih (x2) ((x3 + nI 1)) ls (lv_sub hl [1, 2, 3, 0] rfl) h
        · rw [if_pos c4] at h
          refine lv_iinc (v := (x2 + nI 1)) (lv' := [(2, .int (x2 + nI 1)), (0, .ref (a 0)), (1, .int x1), (3, .int x3)]) hx hb dX9_those_24 hl (k := 2) rfl rfl (by decide) rfl (fun ls hl => ?_)
          refine lv_iinc (v := (x3 + nI 1)) (lv' := [(3, .int (x3 + nI 1)), (2, .int (x2 + nI 1)), (0, .ref (a 0)), (1, .int x1)]) hx hb dX9_those_27 hl (k := 3) rfl rfl (by decide) rfl (fun ls hl => ?_)
          refine lv_goto (tgt := 4) hx hb dX9_those_30 (by decide) ?_
          exact ih ((x2 + nI 1)) ((x3 + nI 1)) ls (lv_sub hl [2, 3, 1, 0] rfl) h
  refine lv_iconst (v := (nI 0)) hx hb dX9_those_0 (by decide) ?_
  refine lv_istore_n (lv' := [(2, .int (nI 0)), (0, .ref (a 0)), (1, .int x1)]) hx hb dX9_those_1 rfl hl (by decide) rfl (fun ls hl => ?_)
  refine lv_iconst (v := (nI 0)) hx hb dX9_those_2 (by decide) ?_
  refine lv_istore_n (lv' := [(3, .int (nI 0)), (2, .int (nI 0)), (0, .ref (a 0)), (1, .int x1)]) hx hb dX9_those_3 rfl hl (by decide) rfl (fun ls hl => ?_)
  exact L4 fuel ((nI 0)) ((nI 0)) ls (lv_sub hl [2, 3, 1, 0] rfl) h
def f9_account_L92 (x1 : Int32) (v_now : AI) (v_undos : Int32) (v_length : Int32) : Nat → Int32 → Int32 → Int32 → Option (Int32 × Int32)
  | 0, _, _, _ => none
  | n + 1, x2, x3, v_thrown => (if (v_now ((nI 1)).toNatClampNeg) ≤ x3 then ((fJ6_bitCount_0f7a4 (x2)).bind fun r24 => (some (((v_now ((nI 0)).toNatClampNeg) - r24), v_thrown))) else ((f9_top (x3) (v_now)).bind fun r26 => ((f9_family (r26) (v_now)).bind fun r28 => (f9_account_L92 x1 v_now v_undos v_length n ((x2 ||| r28)) ((x3 + nI 1)) (v_thrown)))))
def f9_account_L159 (K : Int32 → Int32 → Int32 → Option (Int32 × Int32)) (x1 : Int32) (v_now : AI) (v_undos : Int32) (v_length : Int32) : Nat → Int32 → Int32 → Int32 → Int32 → Option (Int32 × Int32)
  | 0, _, _, _, _ => none
  | n + 1, x2, x3, x4, v_thrown => (if (nI 6) ≤ x4 then (K (x2) ((x3 + nI 1)) (v_thrown)) else ((f9_top (x3) (v_now)).bind fun r32 => ((f9_has (r32) (x4) (v_now)).bind fun r34 => (f9_account_L159 K x1 v_now v_undos v_length n ((x2 + r34)) (x3) ((x4 + nI 1)) (v_thrown)))))
def f9_account_L146 (x1 : Int32) (v_now : AI) (v_undos : Int32) (v_length : Int32) : Nat → Int32 → Int32 → Int32 → Option (Int32 × Int32)
  | 0, _, _, _ => none
  | n + 1, x2, x3, v_thrown => (if (v_now ((nI 1)).toNatClampNeg) ≤ x3 then (some (x2, v_thrown)) else (f9_account_L159 (f9_account_L146 x1 v_now v_undos v_length n) x1 v_now v_undos v_length fuel (x2) (x3) ((nI 0)) (v_thrown)))
def f9_account (x1 : Int32) (v_now : AI) (v_undos : Int32) (v_length : Int32) (v_thrown : Int32) : Option (Int32 × Int32) := (if x1 = nI 0 then (some ((v_now ((nI 0)).toNatClampNeg), (nI 0))) else (if x1 = nI 1 then (some ((v_now ((nI 1)).toNatClampNeg), (nI 0))) else (if x1 = nI 2 then ((f9_those ((x1 - (nI 2))) (v_now)).bind fun r4 => (some (r4, (nI 0)))) else (if x1 = nI 3 then ((f9_those ((x1 - (nI 2))) (v_now)).bind fun r7 => (some (r7, (nI 0)))) else (if x1 = nI 4 then ((f9_those ((x1 - (nI 2))) (v_now)).bind fun r10 => (some (r10, (nI 0)))) else (if x1 = nI 5 then (f9_account_L92 x1 v_now v_undos v_length fuel ((nI 0)) ((nI 0)) ((nI 0))) else (if x1 = nI 6 then (some ((v_now ((nI 2)).toNatClampNeg), (nI 0))) else (if x1 = nI 7 then ((f9_inBundle (v_now)).bind fun r15 => (some (r15, (nI 0)))) else (if x1 = nI 8 then (f9_account_L146 x1 v_now v_undos v_length fuel ((nI 0)) ((nI 0)) ((nI 0))) else (if x1 = nI 9 then (some (v_length, (nI 0))) else (if x1 = nI 10 then (some (v_undos, (nI 0))) else ((f9_raises ((nI 1)) ((nI 0))).bind fun (r20, w21) => (some (r20, w21))))))))))))))
set_option maxHeartbeats 4000000 in
set_option maxRecDepth 100000 in
theorem c9_account (l : Launch) (E : PE) (a : Nat → Nat)  (x1 : Int32) (v_now : AI) (v_tried : AI) (v_kept : AI) (v_undos : Int32) (v_saved : AI) (v_isSaved : Int32) (v_line : AI) (v_lined : Int32) (v_text : AI) (v_length : Int32) (v_at : Int32) (v_order : Int32) (v_told : AI) (v_error : Int32) (v_reason : Int32) (v_detail : Int32) (v_answer : Int32) (v_thrown : Int32) (v_mixed : AI) (v_conflicts : Int32) (v_firstConflict : Int32) (r : Int32) (z_this_thrown : Int32) (h : f9_account x1 v_now v_undos v_length v_thrown = some (r, z_this_thrown)) : MW l yX9_account cX9_account 5 (some .int) { frames := 2, cells := 0, slots := 0, locals := 45 } E [.ref (a 0), .int x1] ([gX9 E a v_now v_tried v_kept v_undos v_saved v_isSaved v_line v_lined v_text v_length v_at v_order v_told v_error v_reason v_detail v_answer v_thrown v_mixed v_conflicts v_firstConflict] : List va_W).flatten 0 0 (some (.int r)) ([gX9 E a v_now v_tried v_kept v_undos v_saved v_isSaved v_line v_lined v_text v_length v_at v_order v_told v_error v_reason v_detail v_answer z_this_thrown v_mixed v_conflicts v_firstConflict] : List va_W).flatten := by
  refine px_startW (by decide +kernel) (Nat.le_of_ble_eq_true rfl) ?_
  intro p e s m args below meth c R Q A ls hC hA0 hQ
  obtain ⟨hx, hb, hr, hml, hts, hown, hlocks, hR, hK, hN, hP, hD, hA, hl, hin⟩ := hC
  have hl : lv_has ls 5 [(0, .ref (a 0)), (1, .int x1)] := hl
  suffices key : ∀ (H : Heap) (locs : List Loc), va_P E.1 vwCl ([gX9 E a v_now v_tried v_kept v_undos v_saved v_isSaved v_line v_lined v_text v_length v_at v_order v_told v_error v_reason v_detail v_answer v_thrown v_mixed v_conflicts v_firstConflict] : List va_W).flatten H → va_S A s.heap H locs → W p l e R s m args below meth c H locs 0 0 Q (F0 m 0 ls []) from key s.heap [] hP va_S.rf
  unfold f9_account at h
  have L92 : ∀ (n : Nat) (x2 : Int32) (x3 : Int32) (v_thrown : Int32) (H : Heap) (locs : List Loc) (ls : Array Slot), va_P E.1 vwCl ([gX9 E a v_now v_tried v_kept v_undos v_saved v_isSaved v_line v_lined v_text v_length v_at v_order v_told v_error v_reason v_detail v_answer v_thrown v_mixed v_conflicts v_firstConflict] : List va_W).flatten H → va_D A ([gX9 E a v_now v_tried v_kept v_undos v_saved v_isSaved v_line v_lined v_text v_length v_at v_order v_told v_error v_reason v_detail v_answer v_thrown v_mixed v_conflicts v_firstConflict] : List va_W).flatten → va_S A s.heap H locs → lv_has ls 5 [(0, .ref (a 0)), (2, .int x2), (3, .int x3)] → f9_account_L92 x1 v_now v_undos v_length n x2 x3 v_thrown = some (r, z_this_thrown) → W p l e R s m args below meth c H locs 0 0 Q (F0 m 92 ls []) := by
    intro n
    induction n with
    | zero =>
      intro x2 x3 v_thrown H locs ls hP hD hS hl h
      unfold f9_account_L92 at h; cases h
    | succ n ih =>
      intro x2 x3 v_thrown H locs ls hP hD hS hl h
      unfold f9_account_L92 at h
      refine lv_iload_n hx hb dX9_account_92 rfl (lv_at hl 2 rfl) ?_
      refine lv_aload_n hx hb dX9_account_93 rfl (lv_at hl 0 rfl) ?_
      refine va_get (D := E.1) (ci := 9) (v := .ref (a 1)) (C := RX9) (T := TX9) (N := 21) hx hb hts iX9 hown hK hP 0 rfl rfl 0 (by decide) (hts _ q1198) (fun _ h9 => h9) rfl dX9_account_94 ?_
      refine lv_iconst (v := (nI 1)) hx hb dX9_account_97 (by decide) ?_
      refine va_iald (f := v_now) hx hb hK hP 1 0 rfl rfl (inb_in (i := (nI 1)) (n := 228) (by decide)) dX9_account_98 ?_
      refine lv_icmp_ge (tgt := 120) hx hb dX9_account_99 (by decide) (fun c23 => ?_) (fun c23 => ?_)
      · rw [if_pos c23] at h
        refine lv_aload_n hx hb dX9_account_120 rfl (lv_at hl 0 rfl) ?_
        refine va_get (D := E.1) (ci := 9) (v := .ref (a 1)) (C := RX9) (T := TX9) (N := 21) hx hb hts iX9 hown hK hP 0 rfl rfl 0 (by decide) (hts _ q1198) (fun _ h9 => h9) rfl dX9_account_121 ?_
        refine lv_iconst (v := (nI 0)) hx hb dX9_account_124 (by decide) ?_
        refine va_iald (f := v_now) hx hb hK hP 1 0 rfl rfl (inb_in (i := (nI 0)) (n := 228) (by decide)) dX9_account_125 ?_
        refine lv_iload_n hx hb dX9_account_126 rfl (lv_at hl 1 rfl) ?_
        obtain ⟨r24, hr25, h⟩ := ob h
        refine px_Sp (As := [.int x2]) (rest := [.int (v_now ((nI 0)).toNatClampNeg)]) (gs := ([gX9 E a v_now v_tried v_kept v_undos v_saved v_isSaved v_line v_lined v_text v_length v_at v_order v_told v_error v_reason v_detail v_answer v_thrown v_mixed v_conflicts v_firstConflict] : List va_W)) (gc := ([] : List va_W)) ⟨hx, hb, hml, hown, hts⟩ (kJ6_bitCount_0f7a4 l E   (x2)  r24 hr25) (va_cwS 1 hts (ws_s q1368 q634 q78 q635) rfl rfl rfl hdS_J6_bitCount_0f7a4 (by rw [hR]; exact ⟨Nat.le_of_ble_eq_true rfl, Nat.le_of_ble_eq_true rfl⟩)) hK hN hP hD [] rfl (by decide) rfl hl.1 rfl (Nat.le_of_ble_eq_true rfl) dX9_account_127 (by rw [hR]; exact ⟨Nat.le_of_ble_eq_true rfl, Nat.le_of_ble_eq_true rfl⟩) ?_
        refine W.eq (g2 := F0 m 130 ls [.int r24, .int (v_now ((nI 0)).toNatClampNeg)]) rfl ?_
        refine lv_isub hx hb dX9_account_130 ?_
        cases h
        exact px_eWi hA0 hQ hP hD hS hx hb hr hlocks dX9_account_131
      · rw [if_neg c23] at h
        refine lv_iload_n hx hb dX9_account_102 rfl (lv_at hl 1 rfl) ?_
        refine lv_aload_n hx hb dX9_account_103 rfl (lv_at hl 0 rfl) ?_
        refine lv_aload_n hx hb dX9_account_104 rfl (lv_at hl 0 rfl) ?_
        refine lv_iload_n hx hb dX9_account_105 rfl (lv_at hl 2 rfl) ?_
        obtain ⟨r26, hr27, h⟩ := ob h
        refine px_Vp (As := [.int x3]) (rest := [.ref (a 0), .int x2]) (gs := ([gX9 E a v_now v_tried v_kept v_undos v_saved v_isSaved v_line v_lined v_text v_length v_at v_order v_told v_error v_reason v_detail v_answer v_thrown v_mixed v_conflicts v_firstConflict] : List va_W)) (gc := ([gX9 E a v_now v_tried v_kept v_undos v_saved v_isSaved v_line v_lined v_text v_length v_at v_order v_told v_error v_reason v_detail v_answer v_thrown v_mixed v_conflicts v_firstConflict] : List va_W)) ⟨hx, hb, hml, hown, hts⟩ (c9_top l E a  (x3) (v_now) (v_tried) (v_kept) (v_undos) (v_saved) (v_isSaved) (v_line) (v_lined) (v_text) (v_length) (v_at) (v_order) (v_told) (v_error) (v_reason) (v_detail) (v_answer) (v_thrown) (v_mixed) (v_conflicts) (v_firstConflict) r26 hr27) (cwV 1 hts (ws_v q1288 q1290 q20 q68 q1291) rfl rfl rfl hdV_X9_top (by rw [hR]; exact ⟨Nat.le_of_ble_eq_true rfl, Nat.le_of_ble_eq_true rfl⟩)) hK hN hP hD [0] rfl (by decide) 0 9 rfl rfl rfl rfl hl.1 rfl (Nat.le_of_ble_eq_true rfl) dX9_account_106 (by rw [hR]; exact ⟨Nat.le_of_ble_eq_true rfl, Nat.le_of_ble_eq_true rfl⟩) ?_
        refine W.eq (g2 := F0 m 109 ls [.int r26, .ref (a 0), .int x2]) rfl ?_
        obtain ⟨r28, hr29, h⟩ := ob h
        refine px_Vp (As := [.int r26]) (rest := [.int x2]) (gs := ([gX9 E a v_now v_tried v_kept v_undos v_saved v_isSaved v_line v_lined v_text v_length v_at v_order v_told v_error v_reason v_detail v_answer v_thrown v_mixed v_conflicts v_firstConflict] : List va_W)) (gc := ([gX9 E a v_now v_tried v_kept v_undos v_saved v_isSaved v_line v_lined v_text v_length v_at v_order v_told v_error v_reason v_detail v_answer v_thrown v_mixed v_conflicts v_firstConflict] : List va_W)) ⟨hx, hb, hml, hown, hts⟩ (c9_family l E a  (r26) (v_now) (v_tried) (v_kept) (v_undos) (v_saved) (v_isSaved) (v_line) (v_lined) (v_text) (v_length) (v_at) (v_order) (v_told) (v_error) (v_reason) (v_detail) (v_answer) (v_thrown) (v_mixed) (v_conflicts) (v_firstConflict) r28 hr29) (cwV 1 hts (ws_v q1364 q1366 q34 q68 q1367) rfl rfl rfl hdV_X9_family (by rw [hR]; exact ⟨Nat.le_of_ble_eq_true rfl, Nat.le_of_ble_eq_true rfl⟩)) hK hN hP hD [0] rfl (by decide) 0 9 rfl rfl rfl rfl hl.1 rfl (Nat.le_of_ble_eq_true rfl) dX9_account_109 (by rw [hR]; exact ⟨Nat.le_of_ble_eq_true rfl, Nat.le_of_ble_eq_true rfl⟩) ?_
        refine W.eq (g2 := F0 m 112 ls [.int r28, .int x2]) rfl ?_
        refine lv_ior hx hb dX9_account_112 ?_
        refine lv_istore_n (lv' := [(2, .int (x2 ||| r28)), (0, .ref (a 0)), (3, .int x3)]) hx hb dX9_account_113 rfl hl (by decide) rfl (fun ls hl => ?_)
        refine lv_iinc (v := (x3 + nI 1)) (lv' := [(3, .int (x3 + nI 1)), (2, .int (x2 ||| r28)), (0, .ref (a 0))]) hx hb dX9_account_114 hl (k := 2) rfl rfl (by decide) rfl (fun ls hl => ?_)
        refine lv_goto (tgt := 92) hx hb dX9_account_117 (by decide) ?_
        exact ih ((x2 ||| r28)) ((x3 + nI 1)) (v_thrown) H locs ls hP hD hS (lv_sub hl [2, 1, 0] rfl) h
  have L159 : ∀ (K : Int32 → Int32 → Int32 → Option (Int32 × Int32)) (hKK : ∀ (x2 : Int32) (x3 : Int32) (v_thrown : Int32) (H : Heap) (locs : List Loc) (ls : Array Slot), va_P E.1 vwCl ([gX9 E a v_now v_tried v_kept v_undos v_saved v_isSaved v_line v_lined v_text v_length v_at v_order v_told v_error v_reason v_detail v_answer v_thrown v_mixed v_conflicts v_firstConflict] : List va_W).flatten H → va_D A ([gX9 E a v_now v_tried v_kept v_undos v_saved v_isSaved v_line v_lined v_text v_length v_at v_order v_told v_error v_reason v_detail v_answer v_thrown v_mixed v_conflicts v_firstConflict] : List va_W).flatten → va_S A s.heap H locs → lv_has ls 5 [(0, .ref (a 0)), (2, .int x2), (3, .int x3)] → K x2 x3 v_thrown = some (r, z_this_thrown) → W p l e R s m args below meth c H locs 0 0 Q (F0 m 146 ls [])) (n : Nat) (x2 : Int32) (x3 : Int32) (x4 : Int32) (v_thrown : Int32) (H : Heap) (locs : List Loc) (ls : Array Slot), va_P E.1 vwCl ([gX9 E a v_now v_tried v_kept v_undos v_saved v_isSaved v_line v_lined v_text v_length v_at v_order v_told v_error v_reason v_detail v_answer v_thrown v_mixed v_conflicts v_firstConflict] : List va_W).flatten H → va_D A ([gX9 E a v_now v_tried v_kept v_undos v_saved v_isSaved v_line v_lined v_text v_length v_at v_order v_told v_error v_reason v_detail v_answer v_thrown v_mixed v_conflicts v_firstConflict] : List va_W).flatten → va_S A s.heap H locs → lv_has ls 5 [(0, .ref (a 0)), (2, .int x2), (3, .int x3), (4, .int x4)] → f9_account_L159 K x1 v_now v_undos v_length n x2 x3 x4 v_thrown = some (r, z_this_thrown) → W p l e R s m args below meth c H locs 0 0 Q (F0 m 159 ls []) := by
    intro K hKK n
    induction n with
    | zero =>
      intro x2 x3 x4 v_thrown H locs ls hP hD hS hl h
      unfold f9_account_L159 at h; cases h
    | succ n ih =>
      intro x2 x3 x4 v_thrown H locs ls hP hD hS hl h
      unfold f9_account_L159 at h
      refine lv_iload hx hb dX9_account_159 (lv_at hl 3 rfl) ?_
      refine lv_bipush (v := (nI 6)) hx hb dX9_account_161 (by decide) ?_
      refine lv_icmp_ge (tgt := 186) hx hb dX9_account_163 (by decide) (fun c31 => ?_) (fun c31 => ?_)
      · rw [if_pos c31] at h
        refine lv_iinc (v := (x3 + nI 1)) (lv' := [(3, .int (x3 + nI 1)), (0, .ref (a 0)), (2, .int x2), (4, .int x4)]) hx hb dX9_account_186 hl (k := 2) rfl rfl (by decide) rfl (fun ls hl => ?_)
        refine lv_goto (tgt := 146) hx hb dX9_account_189 (by decide) ?_
        exact hKK (x2) ((x3 + nI 1)) (v_thrown) H locs ls hP hD hS (lv_sub hl [1, 2, 0] rfl) h
      · rw [if_neg c31] at h
        refine lv_iload_n hx hb dX9_account_166 rfl (lv_at hl 1 rfl) ?_
        refine lv_aload_n hx hb dX9_account_167 rfl (lv_at hl 0 rfl) ?_
        refine lv_aload_n hx hb dX9_account_168 rfl (lv_at hl 0 rfl) ?_
        refine lv_iload_n hx hb dX9_account_169 rfl (lv_at hl 2 rfl) ?_
        obtain ⟨r32, hr33, h⟩ := ob h
        refine px_Vp (As := [.int x3]) (rest := [.ref (a 0), .int x2]) (gs := ([gX9 E a v_now v_tried v_kept v_undos v_saved v_isSaved v_line v_lined v_text v_length v_at v_order v_told v_error v_reason v_detail v_answer v_thrown v_mixed v_conflicts v_firstConflict] : List va_W)) (gc := ([gX9 E a v_now v_tried v_kept v_undos v_saved v_isSaved v_line v_lined v_text v_length v_at v_order v_told v_error v_reason v_detail v_answer v_thrown v_mixed v_conflicts v_firstConflict] : List va_W)) ⟨hx, hb, hml, hown, hts⟩ (c9_top l E a  (x3) (v_now) (v_tried) (v_kept) (v_undos) (v_saved) (v_isSaved) (v_line) (v_lined) (v_text) (v_length) (v_at) (v_order) (v_told) (v_error) (v_reason) (v_detail) (v_answer) (v_thrown) (v_mixed) (v_conflicts) (v_firstConflict) r32 hr33) (cwV 1 hts (ws_v q1288 q1290 q20 q68 q1291) rfl rfl rfl hdV_X9_top (by rw [hR]; exact ⟨Nat.le_of_ble_eq_true rfl, Nat.le_of_ble_eq_true rfl⟩)) hK hN hP hD [0] rfl (by decide) 0 9 rfl rfl rfl rfl hl.1 rfl (Nat.le_of_ble_eq_true rfl) dX9_account_170 (by rw [hR]; exact ⟨Nat.le_of_ble_eq_true rfl, Nat.le_of_ble_eq_true rfl⟩) ?_
        refine W.eq (g2 := F0 m 173 ls [.int r32, .ref (a 0), .int x2]) rfl ?_
        refine lv_iload hx hb dX9_account_173 (lv_at hl 3 rfl) ?_
        obtain ⟨r34, hr35, h⟩ := ob h
        refine px_Vp (As := [.int r32, .int x4]) (rest := [.int x2]) (gs := ([gX9 E a v_now v_tried v_kept v_undos v_saved v_isSaved v_line v_lined v_text v_length v_at v_order v_told v_error v_reason v_detail v_answer v_thrown v_mixed v_conflicts v_firstConflict] : List va_W)) (gc := ([gX9 E a v_now v_tried v_kept v_undos v_saved v_isSaved v_line v_lined v_text v_length v_at v_order v_told v_error v_reason v_detail v_answer v_thrown v_mixed v_conflicts v_firstConflict] : List va_W)) ⟨hx, hb, hml, hown, hts⟩ (c9_has l E a  (r32) (x4) (v_now) (v_tried) (v_kept) (v_undos) (v_saved) (v_isSaved) (v_line) (v_lined) (v_text) (v_length) (v_at) (v_order) (v_told) (v_error) (v_reason) (v_detail) (v_answer) (v_thrown) (v_mixed) (v_conflicts) (v_firstConflict) r34 hr35) (cwV 2 hts (ws_v q1292 q1294 q21 q68 q1295) rfl rfl rfl hdV_X9_has (by rw [hR]; exact ⟨Nat.le_of_ble_eq_true rfl, Nat.le_of_ble_eq_true rfl⟩)) hK hN hP hD [0] rfl (by decide) 0 9 rfl rfl rfl rfl hl.1 rfl (Nat.le_of_ble_eq_true rfl) dX9_account_175 (by rw [hR]; exact ⟨Nat.le_of_ble_eq_true rfl, Nat.le_of_ble_eq_true rfl⟩) ?_
        refine W.eq (g2 := F0 m 178 ls [.int r34, .int x2]) rfl ?_
        refine lv_iadd hx hb dX9_account_178 ?_
        refine lv_istore_n (lv' := [(2, .int (x2 + r34)), (0, .ref (a 0)), (3, .int x3), (4, .int x4)]) hx hb dX9_account_179 rfl hl (by decide) rfl (fun ls hl => ?_)
        refine lv_iinc (v := (x4 + nI 1)) (lv' := [(4, .int (x4 + nI 1)), (2, .int (x2 + r34)), (0, .ref (a 0)), (3, .int x3)]) hx hb dX9_account_180 hl (k := 3) rfl rfl (by decide) rfl (fun ls hl => ?_)
        refine lv_goto (tgt := 159) hx hb dX9_account_183 (by decide) ?_
        exact ih ((x2 + r34)) (x3) ((x4 + nI 1)) (v_thrown) H locs ls hP hD hS (lv_sub hl [2, 1, 3, 0] rfl) h
  have L146 : ∀ (n : Nat) (x2 : Int32) (x3 : Int32) (v_thrown : Int32) (H : Heap) (locs : List Loc) (ls : Array Slot), va_P E.1 vwCl ([gX9 E a v_now v_tried v_kept v_undos v_saved v_isSaved v_line v_lined v_text v_length v_at v_order v_told v_error v_reason v_detail v_answer v_thrown v_mixed v_conflicts v_firstConflict] : List va_W).flatten H → va_D A ([gX9 E a v_now v_tried v_kept v_undos v_saved v_isSaved v_line v_lined v_text v_length v_at v_order v_told v_error v_reason v_detail v_answer v_thrown v_mixed v_conflicts v_firstConflict] : List va_W).flatten → va_S A s.heap H locs → lv_has ls 5 [(0, .ref (a 0)), (2, .int x2), (3, .int x3)] → f9_account_L146 x1 v_now v_undos v_length n x2 x3 v_thrown = some (r, z_this_thrown) → W p l e R s m args below meth c H locs 0 0 Q (F0 m 146 ls []) := by
    intro n
    induction n with
    | zero =>
      intro x2 x3 v_thrown H locs ls hP hD hS hl h
      unfold f9_account_L146 at h; cases h
    | succ n ih =>
      intro x2 x3 v_thrown H locs ls hP hD hS hl h
      unfold f9_account_L146 at h
      refine lv_iload_n hx hb dX9_account_146 rfl (lv_at hl 2 rfl) ?_
      refine lv_aload_n hx hb dX9_account_147 rfl (lv_at hl 0 rfl) ?_
      refine va_get (D := E.1) (ci := 9) (v := .ref (a 1)) (C := RX9) (T := TX9) (N := 21) hx hb hts iX9 hown hK hP 0 rfl rfl 0 (by decide) (hts _ q1198) (fun _ h9 => h9) rfl dX9_account_148 ?_
      refine lv_iconst (v := (nI 1)) hx hb dX9_account_151 (by decide) ?_
      refine va_iald (f := v_now) hx hb hK hP 1 0 rfl rfl (inb_in (i := (nI 1)) (n := 228) (by decide)) dX9_account_152 ?_
      refine lv_icmp_ge (tgt := 192) hx hb dX9_account_153 (by decide) (fun c30 => ?_) (fun c30 => ?_)
      · rw [if_pos c30] at h
        refine lv_iload_n hx hb dX9_account_192 rfl (lv_at hl 1 rfl) ?_
        cases h
        exact px_eWi hA0 hQ hP hD hS hx hb hr hlocks dX9_account_193
      · rw [if_neg c30] at h
        refine lv_iconst (v := (nI 0)) hx hb dX9_account_156 (by decide) ?_
        refine lv_istore (lv' := [(4, .int (nI 0)), (0, .ref (a 0)), (2, .int x2), (3, .int x3)]) hx hb dX9_account_157 hl (by decide) rfl (fun ls hl => ?_)
        exact L159 (f9_account_L146 x1 v_now v_undos v_length n) ih fuel (x2) (x3) ((nI 0)) (v_thrown) H locs ls hP hD hS (lv_sub hl [1, 2, 3, 0] rfl) h
  intro H locs hP hS
  refine lv_aload_n hx hb dX9_account_0 rfl (lv_at hl 0 rfl) ?_
  refine lv_iconst (v := (nI 0)) hx hb dX9_account_1 (by decide) ?_
  refine va_put (D := E.1) (ci := 9) (v := .int (nI 0)) (ty := .int) (C := RX9) (T := TX9) (N := 21) hx hb hts iX9 tyX9 tyX9_ok nmX9 hown hK hP hD hS 0 rfl rfl 17 (by decide) (hts _ q1215) (fun _ h9 => h9) rfl (tyX9_ok 17 (by decide)) rfl rfl (Nat.le_of_ble_eq_true rfl) dX9_account_2 (fun H locs hP hD hS => ?_)
  have hP : va_P E.1 vwCl ([gX9 E a v_now v_tried v_kept v_undos v_saved v_isSaved v_line v_lined v_text v_length v_at v_order v_told v_error v_reason v_detail v_answer (nI 0) v_mixed v_conflicts v_firstConflict] : List va_W).flatten H := hP
  have hD : va_D A ([gX9 E a v_now v_tried v_kept v_undos v_saved v_isSaved v_line v_lined v_text v_length v_at v_order v_told v_error v_reason v_detail v_answer (nI 0) v_mixed v_conflicts v_firstConflict] : List va_W).flatten := hD
  refine lv_iconst (v := (nI 0)) hx hb dX9_account_5 (by decide) ?_
  refine lv_istore_n (lv' := [(2, .int (nI 0)), (0, .ref (a 0)), (1, .int x1)]) hx hb dX9_account_6 rfl hl (by decide) rfl (fun ls hl => ?_)
  refine lv_iload_n hx hb dX9_account_7 rfl (lv_at hl 2 rfl) ?_
  by_cases c1 : x1 = nI 0
  · rw [if_pos c1] at h
    refine lv_tableIn (off := 60) (tgt := 68) hx hb dX9_account_8 (by rw [c1]; decide) (by rw [c1]; decide) (by rw [c1]; rfl) (by decide) ?_
    refine lv_aload_n hx hb dX9_account_68 rfl (lv_at hl 1 rfl) ?_
    refine va_get (D := E.1) (ci := 9) (v := .ref (a 1)) (C := RX9) (T := TX9) (N := 21) hx hb hts iX9 hown hK hP 0 rfl rfl 0 (by decide) (hts _ q1198) (fun _ h9 => h9) rfl dX9_account_69 ?_
    refine lv_iconst (v := (nI 0)) hx hb dX9_account_72 (by decide) ?_
    refine va_iald (f := v_now) hx hb hK hP 1 0 rfl rfl (inb_in (i := (nI 0)) (n := 228) (by decide)) dX9_account_73 ?_
    cases h
    exact px_eWi hA0 hQ hP hD hS hx hb hr hlocks dX9_account_74
  · rw [if_neg c1] at h
    by_cases c2 : x1 = nI 1
    · rw [if_pos c2] at h
      refine lv_tableIn (off := 67) (tgt := 75) hx hb dX9_account_8 (by rw [c2]; decide) (by rw [c2]; decide) (by rw [c2]; rfl) (by decide) ?_
      refine lv_aload_n hx hb dX9_account_75 rfl (lv_at hl 1 rfl) ?_
      refine va_get (D := E.1) (ci := 9) (v := .ref (a 1)) (C := RX9) (T := TX9) (N := 21) hx hb hts iX9 hown hK hP 0 rfl rfl 0 (by decide) (hts _ q1198) (fun _ h9 => h9) rfl dX9_account_76 ?_
      refine lv_iconst (v := (nI 1)) hx hb dX9_account_79 (by decide) ?_
      refine va_iald (f := v_now) hx hb hK hP 1 0 rfl rfl (inb_in (i := (nI 1)) (n := 228) (by decide)) dX9_account_80 ?_
      cases h
      exact px_eWi hA0 hQ hP hD hS hx hb hr hlocks dX9_account_81
    · rw [if_neg c2] at h
      by_cases c3 : x1 = nI 2
      · rw [if_pos c3] at h
        refine lv_tableIn (off := 74) (tgt := 82) hx hb dX9_account_8 (by rw [c3]; decide) (by rw [c3]; decide) (by rw [c3]; rfl) (by decide) ?_
        refine lv_aload_n hx hb dX9_account_82 rfl (lv_at hl 1 rfl) ?_
        refine lv_iload_n hx hb dX9_account_83 rfl (lv_at hl 2 rfl) ?_
        refine lv_iconst (v := (nI 2)) hx hb dX9_account_84 (by decide) ?_
        refine lv_isub hx hb dX9_account_85 ?_
        obtain ⟨r4, hr5, h⟩ := ob h
        refine px_Vp (As := [.int (x1 - (nI 2))]) (rest := []) (gs := ([gX9 E a v_now v_tried v_kept v_undos v_saved v_isSaved v_line v_lined v_text v_length v_at v_order v_told v_error v_reason v_detail v_answer (nI 0) v_mixed v_conflicts v_firstConflict] : List va_W)) (gc := ([gX9 E a v_now v_tried v_kept v_undos v_saved v_isSaved v_line v_lined v_text v_length v_at v_order v_told v_error v_reason v_detail v_answer (nI 0) v_mixed v_conflicts v_firstConflict] : List va_W)) ⟨hx, hb, hml, hown, hts⟩ (c9_those l E a  ((x1 - (nI 2))) (v_now) (v_tried) (v_kept) (v_undos) (v_saved) (v_isSaved) (v_line) (v_lined) (v_text) (v_length) (v_at) (v_order) (v_told) (v_error) (v_reason) (v_detail) (v_answer) ((nI 0)) (v_mixed) (v_conflicts) (v_firstConflict) r4 hr5) (cwV 1 hts (ws_v q1577 q1579 q57 q68 q1580) rfl rfl rfl hdV_X9_those (by rw [hR]; exact ⟨Nat.le_of_ble_eq_true rfl, Nat.le_of_ble_eq_true rfl⟩)) hK hN hP hD [0] rfl (by decide) 0 9 rfl rfl rfl rfl hl.1 rfl (Nat.le_of_ble_eq_true rfl) dX9_account_86 (by rw [hR]; exact ⟨Nat.le_of_ble_eq_true rfl, Nat.le_of_ble_eq_true rfl⟩) ?_
        refine W.eq (g2 := F0 m 89 ls [.int r4]) rfl ?_
        cases h
        exact px_eWi hA0 hQ hP hD hS hx hb hr hlocks dX9_account_89
      · rw [if_neg c3] at h
        by_cases c6 : x1 = nI 3
        · rw [if_pos c6] at h
          refine lv_tableIn (off := 74) (tgt := 82) hx hb dX9_account_8 (by rw [c6]; decide) (by rw [c6]; decide) (by rw [c6]; rfl) (by decide) ?_
          refine lv_aload_n hx hb dX9_account_82 rfl (lv_at hl 1 rfl) ?_
          refine lv_iload_n hx hb dX9_account_83 rfl (lv_at hl 2 rfl) ?_
          refine lv_iconst (v := (nI 2)) hx hb dX9_account_84 (by decide) ?_
          refine lv_isub hx hb dX9_account_85 ?_
          obtain ⟨r7, hr8, h⟩ := ob h
          refine px_Vp (As := [.int (x1 - (nI 2))]) (rest := []) (gs := ([gX9 E a v_now v_tried v_kept v_undos v_saved v_isSaved v_line v_lined v_text v_length v_at v_order v_told v_error v_reason v_detail v_answer (nI 0) v_mixed v_conflicts v_firstConflict] : List va_W)) (gc := ([gX9 E a v_now v_tried v_kept v_undos v_saved v_isSaved v_line v_lined v_text v_length v_at v_order v_told v_error v_reason v_detail v_answer (nI 0) v_mixed v_conflicts v_firstConflict] : List va_W)) ⟨hx, hb, hml, hown, hts⟩ (c9_those l E a  ((x1 - (nI 2))) (v_now) (v_tried) (v_kept) (v_undos) (v_saved) (v_isSaved) (v_line) (v_lined) (v_text) (v_length) (v_at) (v_order) (v_told) (v_error) (v_reason) (v_detail) (v_answer) ((nI 0)) (v_mixed) (v_conflicts) (v_firstConflict) r7 hr8) (cwV 1 hts (ws_v q1577 q1579 q57 q68 q1580) rfl rfl rfl hdV_X9_those (by rw [hR]; exact ⟨Nat.le_of_ble_eq_true rfl, Nat.le_of_ble_eq_true rfl⟩)) hK hN hP hD [0] rfl (by decide) 0 9 rfl rfl rfl rfl hl.1 rfl (Nat.le_of_ble_eq_true rfl) dX9_account_86 (by rw [hR]; exact ⟨Nat.le_of_ble_eq_true rfl, Nat.le_of_ble_eq_true rfl⟩) ?_
          refine W.eq (g2 := F0 m 89 ls [.int r7]) rfl ?_
          cases h
          exact px_eWi hA0 hQ hP hD hS hx hb hr hlocks dX9_account_89
        · rw [if_neg c6] at h
          by_cases c9 : x1 = nI 4
          · rw [if_pos c9] at h
            refine lv_tableIn (off := 74) (tgt := 82) hx hb dX9_account_8 (by rw [c9]; decide) (by rw [c9]; decide) (by rw [c9]; rfl) (by decide) ?_
            refine lv_aload_n hx hb dX9_account_82 rfl (lv_at hl 1 rfl) ?_
            refine lv_iload_n hx hb dX9_account_83 rfl (lv_at hl 2 rfl) ?_
            refine lv_iconst (v := (nI 2)) hx hb dX9_account_84 (by decide) ?_
            refine lv_isub hx hb dX9_account_85 ?_
            obtain ⟨r10, hr11, h⟩ := ob h
            refine px_Vp (As := [.int (x1 - (nI 2))]) (rest := []) (gs := ([gX9 E a v_now v_tried v_kept v_undos v_saved v_isSaved v_line v_lined v_text v_length v_at v_order v_told v_error v_reason v_detail v_answer (nI 0) v_mixed v_conflicts v_firstConflict] : List va_W)) (gc := ([gX9 E a v_now v_tried v_kept v_undos v_saved v_isSaved v_line v_lined v_text v_length v_at v_order v_told v_error v_reason v_detail v_answer (nI 0) v_mixed v_conflicts v_firstConflict] : List va_W)) ⟨hx, hb, hml, hown, hts⟩ (c9_those l E a  ((x1 - (nI 2))) (v_now) (v_tried) (v_kept) (v_undos) (v_saved) (v_isSaved) (v_line) (v_lined) (v_text) (v_length) (v_at) (v_order) (v_told) (v_error) (v_reason) (v_detail) (v_answer) ((nI 0)) (v_mixed) (v_conflicts) (v_firstConflict) r10 hr11) (cwV 1 hts (ws_v q1577 q1579 q57 q68 q1580) rfl rfl rfl hdV_X9_those (by rw [hR]; exact ⟨Nat.le_of_ble_eq_true rfl, Nat.le_of_ble_eq_true rfl⟩)) hK hN hP hD [0] rfl (by decide) 0 9 rfl rfl rfl rfl hl.1 rfl (Nat.le_of_ble_eq_true rfl) dX9_account_86 (by rw [hR]; exact ⟨Nat.le_of_ble_eq_true rfl, Nat.le_of_ble_eq_true rfl⟩) ?_
            refine W.eq (g2 := F0 m 89 ls [.int r10]) rfl ?_
            cases h
            exact px_eWi hA0 hQ hP hD hS hx hb hr hlocks dX9_account_89
          · rw [if_neg c9] at h
            by_cases c12 : x1 = nI 5
            · rw [if_pos c12] at h
              refine lv_tableIn (off := 82) (tgt := 90) hx hb dX9_account_8 (by rw [c12]; decide) (by rw [c12]; decide) (by rw [c12]; rfl) (by decide) ?_
              refine lv_iconst (v := (nI 0)) hx hb dX9_account_90 (by decide) ?_
              refine lv_istore_n (lv' := [(3, .int (nI 0)), (2, .int (nI 0)), (0, .ref (a 0)), (1, .int x1)]) hx hb dX9_account_91 rfl hl (by decide) rfl (fun ls hl => ?_)
              exact L92 fuel ((nI 0)) ((nI 0)) ((nI 0)) H locs ls hP hD hS (lv_sub hl [2, 1, 0] rfl) h
            · rw [if_neg c12] at h
              by_cases c13 : x1 = nI 6
              · rw [if_pos c13] at h
                refine lv_tableIn (off := 124) (tgt := 132) hx hb dX9_account_8 (by rw [c13]; decide) (by rw [c13]; decide) (by rw [c13]; rfl) (by decide) ?_
                refine lv_aload_n hx hb dX9_account_132 rfl (lv_at hl 1 rfl) ?_
                refine va_get (D := E.1) (ci := 9) (v := .ref (a 1)) (C := RX9) (T := TX9) (N := 21) hx hb hts iX9 hown hK hP 0 rfl rfl 0 (by decide) (hts _ q1198) (fun _ h9 => h9) rfl dX9_account_133 ?_
                refine lv_iconst (v := (nI 2)) hx hb dX9_account_136 (by decide) ?_
                refine va_iald (f := v_now) hx hb hK hP 1 0 rfl rfl (inb_in (i := (nI 2)) (n := 228) (by decide)) dX9_account_137 ?_
                cases h
                exact px_eWi hA0 hQ hP hD hS hx hb hr hlocks dX9_account_138
              · rw [if_neg c13] at h
                by_cases c14 : x1 = nI 7
                · rw [if_pos c14] at h
                  refine lv_tableIn (off := 131) (tgt := 139) hx hb dX9_account_8 (by rw [c14]; decide) (by rw [c14]; decide) (by rw [c14]; rfl) (by decide) ?_
                  refine lv_aload_n hx hb dX9_account_139 rfl (lv_at hl 1 rfl) ?_
                  obtain ⟨r15, hr16, h⟩ := ob h
                  refine px_Vp (As := []) (rest := []) (gs := ([gX9 E a v_now v_tried v_kept v_undos v_saved v_isSaved v_line v_lined v_text v_length v_at v_order v_told v_error v_reason v_detail v_answer (nI 0) v_mixed v_conflicts v_firstConflict] : List va_W)) (gc := ([gX9 E a v_now v_tried v_kept v_undos v_saved v_isSaved v_line v_lined v_text v_length v_at v_order v_told v_error v_reason v_detail v_answer (nI 0) v_mixed v_conflicts v_firstConflict] : List va_W)) ⟨hx, hb, hml, hown, hts⟩ (c9_inBundle l E a   (v_now) (v_tried) (v_kept) (v_undos) (v_saved) (v_isSaved) (v_line) (v_lined) (v_text) (v_length) (v_at) (v_order) (v_told) (v_error) (v_reason) (v_detail) (v_answer) ((nI 0)) (v_mixed) (v_conflicts) (v_firstConflict) r15 hr16) (cwV 0 hts (ws_v q1499 q1501 q48 q68 q1502) rfl rfl rfl hdV_X9_inBundle (by rw [hR]; exact ⟨Nat.le_of_ble_eq_true rfl, Nat.le_of_ble_eq_true rfl⟩)) hK hN hP hD [0] rfl (by decide) 0 9 rfl rfl rfl rfl hl.1 rfl (Nat.le_of_ble_eq_true rfl) dX9_account_140 (by rw [hR]; exact ⟨Nat.le_of_ble_eq_true rfl, Nat.le_of_ble_eq_true rfl⟩) ?_
                  refine W.eq (g2 := F0 m 143 ls [.int r15]) rfl ?_
                  cases h
                  exact px_eWi hA0 hQ hP hD hS hx hb hr hlocks dX9_account_143
                · rw [if_neg c14] at h
                  by_cases c17 : x1 = nI 8
                  · rw [if_pos c17] at h
                    refine lv_tableIn (off := 136) (tgt := 144) hx hb dX9_account_8 (by rw [c17]; decide) (by rw [c17]; decide) (by rw [c17]; rfl) (by decide) ?_
                    refine lv_iconst (v := (nI 0)) hx hb dX9_account_144 (by decide) ?_
                    refine lv_istore_n (lv' := [(3, .int (nI 0)), (2, .int (nI 0)), (0, .ref (a 0)), (1, .int x1)]) hx hb dX9_account_145 rfl hl (by decide) rfl (fun ls hl => ?_)
                    exact L146 fuel ((nI 0)) ((nI 0)) ((nI 0)) H locs ls hP hD hS (lv_sub hl [2, 1, 0] rfl) h
                  · rw [if_neg c17] at h
                    by_cases c18 : x1 = nI 9
                    · rw [if_pos c18] at h
                      refine lv_tableIn (off := 186) (tgt := 194) hx hb dX9_account_8 (by rw [c18]; decide) (by rw [c18]; decide) (by rw [c18]; rfl) (by decide) ?_
                      refine lv_aload_n hx hb dX9_account_194 rfl (lv_at hl 1 rfl) ?_
                      refine va_get (D := E.1) (ci := 9) (v := .int v_length) (C := RX9) (T := TX9) (N := 21) hx hb hts iX9 hown hK hP 0 rfl rfl 9 (by decide) (hts _ q1207) (fun _ h9 => h9) rfl dX9_account_195 ?_
                      cases h
                      exact px_eWi hA0 hQ hP hD hS hx hb hr hlocks dX9_account_198
                    · rw [if_neg c18] at h
                      by_cases c19 : x1 = nI 10
                      · rw [if_pos c19] at h
                        refine lv_tableIn (off := 191) (tgt := 199) hx hb dX9_account_8 (by rw [c19]; decide) (by rw [c19]; decide) (by rw [c19]; rfl) (by decide) ?_
                        refine lv_aload_n hx hb dX9_account_199 rfl (lv_at hl 1 rfl) ?_
                        refine va_get (D := E.1) (ci := 9) (v := .int v_undos) (C := RX9) (T := TX9) (N := 21) hx hb hts iX9 hown hK hP 0 rfl rfl 3 (by decide) (hts _ q1201) (fun _ h9 => h9) rfl dX9_account_200 ?_
                        cases h
                        exact px_eWi hA0 hQ hP hD hS hx hb hr hlocks dX9_account_203
                      · rw [if_neg c19] at h
                        refine px_tdef hx hb dX9_account_8 (fun w1 w2 => ?_) (tgt := 204) (by decide) ?_
                        · obtain w | w | w | w | w | w | w | w | w | w | w : (x1).toInt = 0 ∨ (x1).toInt = 1 ∨ (x1).toInt = 2 ∨ (x1).toInt = 3 ∨ (x1).toInt = 4 ∨ (x1).toInt = 5 ∨ (x1).toInt = 6 ∨ (x1).toInt = 7 ∨ (x1).toInt = 8 ∨ (x1).toInt = 9 ∨ (x1).toInt = 10 := by omega
                          · exact absurd (Int32.toInt_inj.mp (w.trans (show (0 : Int) = (nI 0).toInt from by decide))) c1
                          · exact absurd (Int32.toInt_inj.mp (w.trans (show (1 : Int) = (nI 1).toInt from by decide))) c2
                          · exact absurd (Int32.toInt_inj.mp (w.trans (show (2 : Int) = (nI 2).toInt from by decide))) c3
                          · exact absurd (Int32.toInt_inj.mp (w.trans (show (3 : Int) = (nI 3).toInt from by decide))) c6
                          · exact absurd (Int32.toInt_inj.mp (w.trans (show (4 : Int) = (nI 4).toInt from by decide))) c9
                          · exact absurd (Int32.toInt_inj.mp (w.trans (show (5 : Int) = (nI 5).toInt from by decide))) c12
                          · exact absurd (Int32.toInt_inj.mp (w.trans (show (6 : Int) = (nI 6).toInt from by decide))) c13
                          · exact absurd (Int32.toInt_inj.mp (w.trans (show (7 : Int) = (nI 7).toInt from by decide))) c14
                          · exact absurd (Int32.toInt_inj.mp (w.trans (show (8 : Int) = (nI 8).toInt from by decide))) c17
                          · exact absurd (Int32.toInt_inj.mp (w.trans (show (9 : Int) = (nI 9).toInt from by decide))) c18
                          · exact absurd (Int32.toInt_inj.mp (w.trans (show (10 : Int) = (nI 10).toInt from by decide))) c19
                        · refine lv_aload_n hx hb dX9_account_204 rfl (lv_at hl 1 rfl) ?_
                          refine lv_iconst (v := (nI 1)) hx hb dX9_account_205 (by decide) ?_
                          obtain ⟨⟨r20, w21⟩, hr22, h⟩ := ob h
                          dsimp only at h
                          refine px_V (As := [.int (nI 1)]) (rest := []) (gs := ([gX9 E a v_now v_tried v_kept v_undos v_saved v_isSaved v_line v_lined v_text v_length v_at v_order v_told v_error v_reason v_detail v_answer (nI 0) v_mixed v_conflicts v_firstConflict] : List va_W)) (gr := ([] : List va_W)) (gc := ([gX9 E a v_now v_tried v_kept v_undos v_saved v_isSaved v_line v_lined v_text v_length v_at v_order v_told v_error v_reason v_detail v_answer (nI 0) v_mixed v_conflicts v_firstConflict] : List va_W)) (g1 := ([gX9 E a v_now v_tried v_kept v_undos v_saved v_isSaved v_line v_lined v_text v_length v_at v_order v_told v_error v_reason v_detail v_answer w21 v_mixed v_conflicts v_firstConflict] : List va_W)) (g2 := ([gX9 E a v_now v_tried v_kept v_undos v_saved v_isSaved v_line v_lined v_text v_length v_at v_order v_told v_error v_reason v_detail v_answer w21 v_mixed v_conflicts v_firstConflict] : List va_W)) ⟨hx, hb, hml, hown, hts⟩ (c9_raises l E a  ((nI 1)) (v_now) (v_tried) (v_kept) (v_undos) (v_saved) (v_isSaved) (v_line) (v_lined) (v_text) (v_length) (v_at) (v_order) (v_told) (v_error) (v_reason) (v_detail) (v_answer) ((nI 0)) (v_mixed) (v_conflicts) (v_firstConflict) r20 w21 hr22) (cwV 1 hts (ws_v q1320 q1322 q28 q68 q1323) rfl rfl rfl hdV_X9_raises (by rw [hR]; exact ⟨Nat.le_of_ble_eq_true rfl, Nat.le_of_ble_eq_true rfl⟩)) hK hN hP hD hS hA [] [0] [0] rfl rfl (by decide) (by decide) rfl (by decide) 0 9 rfl rfl rfl rfl hl.1 rfl (Nat.le_of_ble_eq_true rfl) dX9_account_206 (by rw [hR]; exact ⟨Nat.le_of_ble_eq_true rfl, Nat.le_of_ble_eq_true rfl⟩) (fun H locs hP hD hS => ?_)
                          refine W.eq (g2 := F0 m 209 ls [.int r20]) rfl ?_
                          cases h
                          exact px_eWi hA0 hQ hP hD hS hx hb hr hlocks dX9_account_209
def f9_isWell  (v_thrown : Int32) : Option (Bool × Int32) := (some (true, (nI 0)))
set_option maxHeartbeats 4000000 in
set_option maxRecDepth 100000 in
theorem c9_isWell (l : Launch) (E : PE) (a : Nat → Nat)   (v_now : AI) (v_tried : AI) (v_kept : AI) (v_undos : Int32) (v_saved : AI) (v_isSaved : Int32) (v_line : AI) (v_lined : Int32) (v_text : AI) (v_length : Int32) (v_at : Int32) (v_order : Int32) (v_told : AI) (v_error : Int32) (v_reason : Int32) (v_detail : Int32) (v_answer : Int32) (v_thrown : Int32) (v_mixed : AI) (v_conflicts : Int32) (v_firstConflict : Int32) (r : Bool) (z_this_thrown : Int32) (h : f9_isWell v_thrown = some (r, z_this_thrown)) : MW l yX9_isWell cX9_isWell 1 (some .boolean) { frames := 0, cells := 0, slots := 0, locals := 0 } E [.ref (a 0)] ([gX9 E a v_now v_tried v_kept v_undos v_saved v_isSaved v_line v_lined v_text v_length v_at v_order v_told v_error v_reason v_detail v_answer v_thrown v_mixed v_conflicts v_firstConflict] : List va_W).flatten 0 0 (some (.int (b2i r))) ([gX9 E a v_now v_tried v_kept v_undos v_saved v_isSaved v_line v_lined v_text v_length v_at v_order v_told v_error v_reason v_detail v_answer z_this_thrown v_mixed v_conflicts v_firstConflict] : List va_W).flatten := by
  refine px_startW (by decide +kernel) (Nat.le_of_ble_eq_true rfl) ?_
  intro p e s m args below meth c R Q A ls hC hA0 hQ
  obtain ⟨hx, hb, hr, hml, hts, hown, hlocks, hR, hK, hN, hP, hD, hA, hl, hin⟩ := hC
  have hl : lv_has ls 1 [(0, .ref (a 0))] := hl
  suffices key : ∀ (H : Heap) (locs : List Loc), va_P E.1 vwCl ([gX9 E a v_now v_tried v_kept v_undos v_saved v_isSaved v_line v_lined v_text v_length v_at v_order v_told v_error v_reason v_detail v_answer v_thrown v_mixed v_conflicts v_firstConflict] : List va_W).flatten H → va_S A s.heap H locs → W p l e R s m args below meth c H locs 0 0 Q (F0 m 0 ls []) from key s.heap [] hP va_S.rf
  unfold f9_isWell at h
  intro H locs hP hS
  refine lv_aload_n hx hb dX9_isWell_0 rfl (lv_at hl 0 rfl) ?_
  refine lv_iconst (v := (nI 0)) hx hb dX9_isWell_1 (by decide) ?_
  refine va_put (D := E.1) (ci := 9) (v := .int (nI 0)) (ty := .int) (C := RX9) (T := TX9) (N := 21) hx hb hts iX9 tyX9 tyX9_ok nmX9 hown hK hP hD hS 0 rfl rfl 17 (by decide) (hts _ q1215) (fun _ h9 => h9) rfl (tyX9_ok 17 (by decide)) rfl rfl (Nat.le_of_ble_eq_true rfl) dX9_isWell_2 (fun H locs hP hD hS => ?_)
  have hP : va_P E.1 vwCl ([gX9 E a v_now v_tried v_kept v_undos v_saved v_isSaved v_line v_lined v_text v_length v_at v_order v_told v_error v_reason v_detail v_answer (nI 0) v_mixed v_conflicts v_firstConflict] : List va_W).flatten H := hP
  have hD : va_D A ([gX9 E a v_now v_tried v_kept v_undos v_saved v_isSaved v_line v_lined v_text v_length v_at v_order v_told v_error v_reason v_detail v_answer (nI 0) v_mixed v_conflicts v_firstConflict] : List va_W).flatten := hD
  refine lv_iconst (v := (nI 1)) hx hb dX9_isWell_5 (by decide) ?_
  cases h
  refine W.eq (g2 := F0 m 6 ls [.int (b2i true)]) rfl ?_
  exact px_eWz (b2i_n _) hA0 hQ hP hD hS hx hb hr hlocks dX9_isWell_6
def f9_meanTaste_L9 (v_now : AI) : Nat → UInt64 → Int32 → Int32 → Option (UInt64 × Int32)
  | 0, _, _, _ => none
  | n + 1, x1, x3, v_thrown => (if (v_now ((nI 1)).toNatClampNeg) ≤ x3 then (if nn64 (FP.ddiv x1 (FP.i2d (v_now ((nI 1)).toNatClampNeg))) = true then (some ((FP.ddiv x1 (FP.i2d (v_now ((nI 1)).toNatClampNeg))), v_thrown)) else none) else ((f9_top (x3) (v_now)).bind fun r3 => ((f9_tasteOf (r3) (v_now)).bind fun r5 => (if nn64 (FP.f2d r5) = true then (if nn64 (FP.dadd x1 (FP.f2d r5)) = true then (f9_meanTaste_L9 v_now n ((FP.dadd x1 (FP.f2d r5))) ((x3 + nI 1)) (v_thrown)) else none) else none))))
def f9_meanTaste  (v_now : AI) (v_thrown : Int32) : Option (UInt64 × Int32) := (f9_meanTaste_L9 v_now fuel (FP.dconst0) ((nI 0)) ((nI 0)))
set_option maxHeartbeats 4000000 in
set_option maxRecDepth 100000 in
theorem c9_meanTaste (l : Launch) (E : PE) (a : Nat → Nat)   (v_now : AI) (v_tried : AI) (v_kept : AI) (v_undos : Int32) (v_saved : AI) (v_isSaved : Int32) (v_line : AI) (v_lined : Int32) (v_text : AI) (v_length : Int32) (v_at : Int32) (v_order : Int32) (v_told : AI) (v_error : Int32) (v_reason : Int32) (v_detail : Int32) (v_answer : Int32) (v_thrown : Int32) (v_mixed : AI) (v_conflicts : Int32) (v_firstConflict : Int32) (r : UInt64) (z_this_thrown : Int32) (h : f9_meanTaste v_now v_thrown = some (r, z_this_thrown)) : MW l yX9_meanTaste cX9_meanTaste 4 (some .double) { frames := 3, cells := 0, slots := 0, locals := 68 } E [.ref (a 0)] ([gX9 E a v_now v_tried v_kept v_undos v_saved v_isSaved v_line v_lined v_text v_length v_at v_order v_told v_error v_reason v_detail v_answer v_thrown v_mixed v_conflicts v_firstConflict] : List va_W).flatten 0 0 (some (.double r)) ([gX9 E a v_now v_tried v_kept v_undos v_saved v_isSaved v_line v_lined v_text v_length v_at v_order v_told v_error v_reason v_detail v_answer z_this_thrown v_mixed v_conflicts v_firstConflict] : List va_W).flatten := by
  refine px_startW (by decide +kernel) (Nat.le_of_ble_eq_true rfl) ?_
  intro p e s m args below meth c R Q A ls hC hA0 hQ
  obtain ⟨hx, hb, hr, hml, hts, hown, hlocks, hR, hK, hN, hP, hD, hA, hl, hin⟩ := hC
  have hl : lv_has ls 4 [(0, .ref (a 0))] := hl
  suffices key : ∀ (H : Heap) (locs : List Loc), va_P E.1 vwCl ([gX9 E a v_now v_tried v_kept v_undos v_saved v_isSaved v_line v_lined v_text v_length v_at v_order v_told v_error v_reason v_detail v_answer v_thrown v_mixed v_conflicts v_firstConflict] : List va_W).flatten H → va_S A s.heap H locs → W p l e R s m args below meth c H locs 0 0 Q (F0 m 0 ls []) from key s.heap [] hP va_S.rf
  unfold f9_meanTaste at h
  have L9 : ∀ (n : Nat) (x1 : UInt64) (x3 : Int32) (v_thrown : Int32) (H : Heap) (locs : List Loc) (ls : Array Slot), va_P E.1 vwCl ([gX9 E a v_now v_tried v_kept v_undos v_saved v_isSaved v_line v_lined v_text v_length v_at v_order v_told v_error v_reason v_detail v_answer v_thrown v_mixed v_conflicts v_firstConflict] : List va_W).flatten H → va_D A ([gX9 E a v_now v_tried v_kept v_undos v_saved v_isSaved v_line v_lined v_text v_length v_at v_order v_told v_error v_reason v_detail v_answer v_thrown v_mixed v_conflicts v_firstConflict] : List va_W).flatten → va_S A s.heap H locs → lv_has ls 4 [(0, .ref (a 0)), (1, .double x1), (3, .int x3)] → f9_meanTaste_L9 v_now n x1 x3 v_thrown = some (r, z_this_thrown) → W p l e R s m args below meth c H locs 0 0 Q (F0 m 9 ls []) := by
    intro n
    induction n with
    | zero =>
      intro x1 x3 v_thrown H locs ls hP hD hS hl h
      unfold f9_meanTaste_L9 at h; cases h
    | succ n ih =>
      intro x1 x3 v_thrown H locs ls hP hD hS hl h
      unfold f9_meanTaste_L9 at h
      refine lv_iload_n hx hb dX9_meanTaste_9 rfl (lv_at hl 2 rfl) ?_
      refine lv_aload_n hx hb dX9_meanTaste_10 rfl (lv_at hl 0 rfl) ?_
      refine va_get (D := E.1) (ci := 9) (v := .ref (a 1)) (C := RX9) (T := TX9) (N := 21) hx hb hts iX9 hown hK hP 0 rfl rfl 0 (by decide) (hts _ q1198) (fun _ h9 => h9) rfl dX9_meanTaste_11 ?_
      refine lv_iconst (v := (nI 1)) hx hb dX9_meanTaste_14 (by decide) ?_
      refine va_iald (f := v_now) hx hb hK hP 1 0 rfl rfl (inb_in (i := (nI 1)) (n := 228) (by decide)) dX9_meanTaste_15 ?_
      refine lv_icmp_ge (tgt := 38) hx hb dX9_meanTaste_16 (by decide) (fun c1 => ?_) (fun c1 => ?_)
      · rw [if_pos c1] at h
        refine lv_dload_n hx hb dX9_meanTaste_38 rfl (lv_at hl 1 rfl) ?_
        refine lv_aload_n hx hb dX9_meanTaste_39 rfl (lv_at hl 0 rfl) ?_
        refine va_get (D := E.1) (ci := 9) (v := .ref (a 1)) (C := RX9) (T := TX9) (N := 21) hx hb hts iX9 hown hK hP 0 rfl rfl 0 (by decide) (hts _ q1198) (fun _ h9 => h9) rfl dX9_meanTaste_40 ?_
        refine lv_iconst (v := (nI 1)) hx hb dX9_meanTaste_43 (by decide) ?_
        refine va_iald (f := v_now) hx hb hK hP 1 0 rfl rfl (inb_in (i := (nI 1)) (n := 228) (by decide)) dX9_meanTaste_44 ?_
        refine lv_i2d hx hb dX9_meanTaste_45 ?_
        obtain ⟨i2, h⟩ := o_t h
        refine lv_ddiv hx hb dX9_meanTaste_46 (nn64_ok i2) ?_
        cases h
        exact px_eWd hA0 hQ hP hD hS hx hb hr hlocks dX9_meanTaste_47
      · rw [if_neg c1] at h
        refine lv_dload_n hx hb dX9_meanTaste_19 rfl (lv_at hl 1 rfl) ?_
        refine lv_aload_n hx hb dX9_meanTaste_20 rfl (lv_at hl 0 rfl) ?_
        refine lv_aload_n hx hb dX9_meanTaste_21 rfl (lv_at hl 0 rfl) ?_
        refine lv_iload_n hx hb dX9_meanTaste_22 rfl (lv_at hl 2 rfl) ?_
        obtain ⟨r3, hr4, h⟩ := ob h
        refine px_Vp (As := [.int x3]) (rest := [.ref (a 0), .double x1]) (gs := ([gX9 E a v_now v_tried v_kept v_undos v_saved v_isSaved v_line v_lined v_text v_length v_at v_order v_told v_error v_reason v_detail v_answer v_thrown v_mixed v_conflicts v_firstConflict] : List va_W)) (gc := ([gX9 E a v_now v_tried v_kept v_undos v_saved v_isSaved v_line v_lined v_text v_length v_at v_order v_told v_error v_reason v_detail v_answer v_thrown v_mixed v_conflicts v_firstConflict] : List va_W)) ⟨hx, hb, hml, hown, hts⟩ (c9_top l E a  (x3) (v_now) (v_tried) (v_kept) (v_undos) (v_saved) (v_isSaved) (v_line) (v_lined) (v_text) (v_length) (v_at) (v_order) (v_told) (v_error) (v_reason) (v_detail) (v_answer) (v_thrown) (v_mixed) (v_conflicts) (v_firstConflict) r3 hr4) (cwV 1 hts (ws_v q1288 q1290 q20 q68 q1291) rfl rfl rfl hdV_X9_top (by rw [hR]; exact ⟨Nat.le_of_ble_eq_true rfl, Nat.le_of_ble_eq_true rfl⟩)) hK hN hP hD [0] rfl (by decide) 0 9 rfl rfl rfl rfl hl.1 rfl (Nat.le_of_ble_eq_true rfl) dX9_meanTaste_23 (by rw [hR]; exact ⟨Nat.le_of_ble_eq_true rfl, Nat.le_of_ble_eq_true rfl⟩) ?_
        refine W.eq (g2 := F0 m 26 ls [.int r3, .ref (a 0), .double x1]) rfl ?_
        obtain ⟨r5, hr6, h⟩ := ob h
        refine px_Vp (As := [.int r3]) (rest := [.double x1]) (gs := ([gX9 E a v_now v_tried v_kept v_undos v_saved v_isSaved v_line v_lined v_text v_length v_at v_order v_told v_error v_reason v_detail v_answer v_thrown v_mixed v_conflicts v_firstConflict] : List va_W)) (gc := ([gX9 E a v_now v_tried v_kept v_undos v_saved v_isSaved v_line v_lined v_text v_length v_at v_order v_told v_error v_reason v_detail v_answer v_thrown v_mixed v_conflicts v_firstConflict] : List va_W)) ⟨hx, hb, hml, hown, hts⟩ (c9_tasteOf l E a  (r3) (v_now) (v_tried) (v_kept) (v_undos) (v_saved) (v_isSaved) (v_line) (v_lined) (v_text) (v_length) (v_at) (v_order) (v_told) (v_error) (v_reason) (v_detail) (v_answer) (v_thrown) (v_mixed) (v_conflicts) (v_firstConflict) r5 hr6) (cwV 1 hts (ws_v q1472 q1474 q47 q68 q1475) rfl rfl rfl hdV_X9_tasteOf (by rw [hR]; exact ⟨Nat.le_of_ble_eq_true rfl, Nat.le_of_ble_eq_true rfl⟩)) hK hN hP hD [0] rfl (by decide) 0 9 rfl rfl rfl rfl hl.1 rfl (Nat.le_of_ble_eq_true rfl) dX9_meanTaste_26 (by rw [hR]; exact ⟨Nat.le_of_ble_eq_true rfl, Nat.le_of_ble_eq_true rfl⟩) ?_
        refine W.eq (g2 := F0 m 29 ls [.float r5, .double x1]) rfl ?_
        obtain ⟨i7, h⟩ := o_t h
        refine lv_f2d hx hb dX9_meanTaste_29 (nn64_ok i7) ?_
        obtain ⟨i8, h⟩ := o_t h
        refine lv_dadd hx hb dX9_meanTaste_30 (nn64_ok i8) ?_
        refine lv_dstore_n (lv' := [(1, .double (FP.dadd x1 (FP.f2d r5))), (0, .ref (a 0)), (3, .int x3)]) hx hb dX9_meanTaste_31 rfl hl (by decide) rfl (fun ls hl => ?_)
        refine lv_iinc (v := (x3 + nI 1)) (lv' := [(3, .int (x3 + nI 1)), (1, .double (FP.dadd x1 (FP.f2d r5))), (0, .ref (a 0))]) hx hb dX9_meanTaste_32 hl (k := 2) rfl rfl (by decide) rfl (fun ls hl => ?_)
        refine lv_goto (tgt := 9) hx hb dX9_meanTaste_35 (by decide) ?_
        exact ih ((FP.dadd x1 (FP.f2d r5))) ((x3 + nI 1)) (v_thrown) H locs ls hP hD hS (lv_sub hl [2, 1, 0] rfl) h
  intro H locs hP hS
  refine lv_aload_n hx hb dX9_meanTaste_0 rfl (lv_at hl 0 rfl) ?_
  refine lv_iconst (v := (nI 0)) hx hb dX9_meanTaste_1 (by decide) ?_
  refine va_put (D := E.1) (ci := 9) (v := .int (nI 0)) (ty := .int) (C := RX9) (T := TX9) (N := 21) hx hb hts iX9 tyX9 tyX9_ok nmX9 hown hK hP hD hS 0 rfl rfl 17 (by decide) (hts _ q1215) (fun _ h9 => h9) rfl (tyX9_ok 17 (by decide)) rfl rfl (Nat.le_of_ble_eq_true rfl) dX9_meanTaste_2 (fun H locs hP hD hS => ?_)
  have hP : va_P E.1 vwCl ([gX9 E a v_now v_tried v_kept v_undos v_saved v_isSaved v_line v_lined v_text v_length v_at v_order v_told v_error v_reason v_detail v_answer (nI 0) v_mixed v_conflicts v_firstConflict] : List va_W).flatten H := hP
  have hD : va_D A ([gX9 E a v_now v_tried v_kept v_undos v_saved v_isSaved v_line v_lined v_text v_length v_at v_order v_told v_error v_reason v_detail v_answer (nI 0) v_mixed v_conflicts v_firstConflict] : List va_W).flatten := hD
  refine lv_dconst0 hx hb dX9_meanTaste_5 ?_
  refine lv_dstore_n (lv' := [(1, .double FP.dconst0), (0, .ref (a 0))]) hx hb dX9_meanTaste_6 rfl hl (by decide) rfl (fun ls hl => ?_)
  refine lv_iconst (v := (nI 0)) hx hb dX9_meanTaste_7 (by decide) ?_
  refine lv_istore_n (lv' := [(3, .int (nI 0)), (1, .double FP.dconst0), (0, .ref (a 0))]) hx hb dX9_meanTaste_8 rfl hl (by decide) rfl (fun ls hl => ?_)
  exact L9 fuel (FP.dconst0) ((nI 0)) ((nI 0)) H locs ls hP hD hS (lv_sub hl [2, 1, 0] rfl) h
def f9_editShare  (v_now : AI) (v_thrown : Int32) : Option (UInt32 × Int32) := ((f9_those ((nI 0)) (v_now)).bind fun r1 => (if nn32 (FP.fdiv (FP.i2f r1) (FP.i2f (v_now ((nI 0)).toNatClampNeg))) = true then (some ((FP.fdiv (FP.i2f r1) (FP.i2f (v_now ((nI 0)).toNatClampNeg))), (nI 0))) else none))
set_option maxHeartbeats 4000000 in
set_option maxRecDepth 100000 in
theorem c9_editShare (l : Launch) (E : PE) (a : Nat → Nat)   (v_now : AI) (v_tried : AI) (v_kept : AI) (v_undos : Int32) (v_saved : AI) (v_isSaved : Int32) (v_line : AI) (v_lined : Int32) (v_text : AI) (v_length : Int32) (v_at : Int32) (v_order : Int32) (v_told : AI) (v_error : Int32) (v_reason : Int32) (v_detail : Int32) (v_answer : Int32) (v_thrown : Int32) (v_mixed : AI) (v_conflicts : Int32) (v_firstConflict : Int32) (r : UInt32) (z_this_thrown : Int32) (h : f9_editShare v_now v_thrown = some (r, z_this_thrown)) : MW l yX9_editShare cX9_editShare 1 (some .float) { frames := 2, cells := 0, slots := 0, locals := 45 } E [.ref (a 0)] ([gX9 E a v_now v_tried v_kept v_undos v_saved v_isSaved v_line v_lined v_text v_length v_at v_order v_told v_error v_reason v_detail v_answer v_thrown v_mixed v_conflicts v_firstConflict] : List va_W).flatten 0 0 (some (.float r)) ([gX9 E a v_now v_tried v_kept v_undos v_saved v_isSaved v_line v_lined v_text v_length v_at v_order v_told v_error v_reason v_detail v_answer z_this_thrown v_mixed v_conflicts v_firstConflict] : List va_W).flatten := by
  refine px_startW (by decide +kernel) (Nat.le_of_ble_eq_true rfl) ?_
  intro p e s m args below meth c R Q A ls hC hA0 hQ
  obtain ⟨hx, hb, hr, hml, hts, hown, hlocks, hR, hK, hN, hP, hD, hA, hl, hin⟩ := hC
  have hl : lv_has ls 1 [(0, .ref (a 0))] := hl
  suffices key : ∀ (H : Heap) (locs : List Loc), va_P E.1 vwCl ([gX9 E a v_now v_tried v_kept v_undos v_saved v_isSaved v_line v_lined v_text v_length v_at v_order v_told v_error v_reason v_detail v_answer v_thrown v_mixed v_conflicts v_firstConflict] : List va_W).flatten H → va_S A s.heap H locs → W p l e R s m args below meth c H locs 0 0 Q (F0 m 0 ls []) from key s.heap [] hP va_S.rf
  unfold f9_editShare at h
  intro H locs hP hS
  refine lv_aload_n hx hb dX9_editShare_0 rfl (lv_at hl 0 rfl) ?_
  refine lv_iconst (v := (nI 0)) hx hb dX9_editShare_1 (by decide) ?_
  refine va_put (D := E.1) (ci := 9) (v := .int (nI 0)) (ty := .int) (C := RX9) (T := TX9) (N := 21) hx hb hts iX9 tyX9 tyX9_ok nmX9 hown hK hP hD hS 0 rfl rfl 17 (by decide) (hts _ q1215) (fun _ h9 => h9) rfl (tyX9_ok 17 (by decide)) rfl rfl (Nat.le_of_ble_eq_true rfl) dX9_editShare_2 (fun H locs hP hD hS => ?_)
  have hP : va_P E.1 vwCl ([gX9 E a v_now v_tried v_kept v_undos v_saved v_isSaved v_line v_lined v_text v_length v_at v_order v_told v_error v_reason v_detail v_answer (nI 0) v_mixed v_conflicts v_firstConflict] : List va_W).flatten H := hP
  have hD : va_D A ([gX9 E a v_now v_tried v_kept v_undos v_saved v_isSaved v_line v_lined v_text v_length v_at v_order v_told v_error v_reason v_detail v_answer (nI 0) v_mixed v_conflicts v_firstConflict] : List va_W).flatten := hD
  refine lv_aload_n hx hb dX9_editShare_5 rfl (lv_at hl 0 rfl) ?_
  refine lv_iconst (v := (nI 0)) hx hb dX9_editShare_6 (by decide) ?_
  obtain ⟨r1, hr2, h⟩ := ob h
  refine px_Vp (As := [.int (nI 0)]) (rest := []) (gs := ([gX9 E a v_now v_tried v_kept v_undos v_saved v_isSaved v_line v_lined v_text v_length v_at v_order v_told v_error v_reason v_detail v_answer (nI 0) v_mixed v_conflicts v_firstConflict] : List va_W)) (gc := ([gX9 E a v_now v_tried v_kept v_undos v_saved v_isSaved v_line v_lined v_text v_length v_at v_order v_told v_error v_reason v_detail v_answer (nI 0) v_mixed v_conflicts v_firstConflict] : List va_W)) ⟨hx, hb, hml, hown, hts⟩ (c9_those l E a  ((nI 0)) (v_now) (v_tried) (v_kept) (v_undos) (v_saved) (v_isSaved) (v_line) (v_lined) (v_text) (v_length) (v_at) (v_order) (v_told) (v_error) (v_reason) (v_detail) (v_answer) ((nI 0)) (v_mixed) (v_conflicts) (v_firstConflict) r1 hr2) (cwV 1 hts (ws_v q1577 q1579 q57 q68 q1580) rfl rfl rfl hdV_X9_those (by rw [hR]; exact ⟨Nat.le_of_ble_eq_true rfl, Nat.le_of_ble_eq_true rfl⟩)) hK hN hP hD [0] rfl (by decide) 0 9 rfl rfl rfl rfl hl.1 rfl (Nat.le_of_ble_eq_true rfl) dX9_editShare_7 (by rw [hR]; exact ⟨Nat.le_of_ble_eq_true rfl, Nat.le_of_ble_eq_true rfl⟩) ?_
  refine W.eq (g2 := F0 m 10 ls [.int r1]) rfl ?_
  refine lv_i2f hx hb dX9_editShare_10 ?_
  refine lv_aload_n hx hb dX9_editShare_11 rfl (lv_at hl 0 rfl) ?_
  refine va_get (D := E.1) (ci := 9) (v := .ref (a 1)) (C := RX9) (T := TX9) (N := 21) hx hb hts iX9 hown hK hP 0 rfl rfl 0 (by decide) (hts _ q1198) (fun _ h9 => h9) rfl dX9_editShare_12 ?_
  refine lv_iconst (v := (nI 0)) hx hb dX9_editShare_15 (by decide) ?_
  refine va_iald (f := v_now) hx hb hK hP 1 0 rfl rfl (inb_in (i := (nI 0)) (n := 228) (by decide)) dX9_editShare_16 ?_
  refine lv_i2f hx hb dX9_editShare_17 ?_
  obtain ⟨i3, h⟩ := o_t h
  refine lv_fdiv hx hb dX9_editShare_18 (nn32_ok i3) ?_
  cases h
  exact px_eWf hA0 hQ hP hD hS hx hb hr hlocks dX9_editShare_19
def f9_undo_L30 (v_kept : AI) : Nat → Int32 → AI → Int32 → Int32 → Option (Int32 × AI × Int32 × Int32)
  | 0, _, _, _, _ => none
  | n + 1, x1, v_now, v_undos, v_thrown => (if (nI 228) ≤ x1 then (some (v_undos, v_now, v_undos, v_thrown)) else (if inb (((nI 228) * v_undos) + x1) 1824 = true then (if inb x1 228 = true then (lt (upd v_now (x1).toNatClampNeg (v_kept ((((nI 228) * v_undos) + x1)).toNatClampNeg)) fun u10 => (f9_undo_L30 v_kept n ((x1 + nI 1)) (u10) (v_undos) (v_thrown))) else none) else none))
def f9_undo  (v_now : AI) (v_kept : AI) (v_undos : Int32) (v_thrown : Int32) : Option (Int32 × AI × Int32 × Int32) := (if v_undos = 0 then ((f9_raises ((nI 1)) ((nI 0))).bind fun (r4, w5) => (some (r4, v_now, v_undos, w5))) else (lt (v_undos - (nI 1)) fun u2 => (f9_undo_L30 v_kept fuel ((nI 0)) (v_now) (u2) ((nI 0)))))
set_option maxHeartbeats 4000000 in
set_option maxRecDepth 100000 in
theorem c9_undo (l : Launch) (E : PE) (a : Nat → Nat)   (v_now : AI) (v_tried : AI) (v_kept : AI) (v_undos : Int32) (v_saved : AI) (v_isSaved : Int32) (v_line : AI) (v_lined : Int32) (v_text : AI) (v_length : Int32) (v_at : Int32) (v_order : Int32) (v_told : AI) (v_error : Int32) (v_reason : Int32) (v_detail : Int32) (v_answer : Int32) (v_thrown : Int32) (v_mixed : AI) (v_conflicts : Int32) (v_firstConflict : Int32) (r : Int32) (z_this_now : AI) (z_this_undos : Int32) (z_this_thrown : Int32) (h : f9_undo v_now v_kept v_undos v_thrown = some (r, z_this_now, z_this_undos, z_this_thrown)) : MW l yX9_undo cX9_undo 2 (some .int) { frames := 1, cells := 0, slots := 0, locals := 21 } E [.ref (a 0)] ([gX9 E a v_now v_tried v_kept v_undos v_saved v_isSaved v_line v_lined v_text v_length v_at v_order v_told v_error v_reason v_detail v_answer v_thrown v_mixed v_conflicts v_firstConflict] : List va_W).flatten 0 0 (some (.int r)) ([gX9 E a z_this_now v_tried v_kept z_this_undos v_saved v_isSaved v_line v_lined v_text v_length v_at v_order v_told v_error v_reason v_detail v_answer z_this_thrown v_mixed v_conflicts v_firstConflict] : List va_W).flatten := by
  refine px_startW (by decide +kernel) (Nat.le_of_ble_eq_true rfl) ?_
  intro p e s m args below meth c R Q A ls hC hA0 hQ
  obtain ⟨hx, hb, hr, hml, hts, hown, hlocks, hR, hK, hN, hP, hD, hA, hl, hin⟩ := hC
  have hl : lv_has ls 2 [(0, .ref (a 0))] := hl
  suffices key : ∀ (H : Heap) (locs : List Loc), va_P E.1 vwCl ([gX9 E a v_now v_tried v_kept v_undos v_saved v_isSaved v_line v_lined v_text v_length v_at v_order v_told v_error v_reason v_detail v_answer v_thrown v_mixed v_conflicts v_firstConflict] : List va_W).flatten H → va_S A s.heap H locs → W p l e R s m args below meth c H locs 0 0 Q (F0 m 0 ls []) from key s.heap [] hP va_S.rf
  unfold f9_undo at h
  have L30 : ∀ (n : Nat) (x1 : Int32) (v_now : AI) (v_undos : Int32) (v_thrown : Int32) (H : Heap) (locs : List Loc) (ls : Array Slot), va_P E.1 vwCl ([gX9 E a v_now v_tried v_kept v_undos v_saved v_isSaved v_line v_lined v_text v_length v_at v_order v_told v_error v_reason v_detail v_answer v_thrown v_mixed v_conflicts v_firstConflict] : List va_W).flatten H → va_D A ([gX9 E a v_now v_tried v_kept v_undos v_saved v_isSaved v_line v_lined v_text v_length v_at v_order v_told v_error v_reason v_detail v_answer v_thrown v_mixed v_conflicts v_firstConflict] : List va_W).flatten → va_S A s.heap H locs → lv_has ls 2 [(0, .ref (a 0)), (1, .int x1)] → f9_undo_L30 v_kept n x1 v_now v_undos v_thrown = some (r, z_this_now, z_this_undos, z_this_thrown) → W p l e R s m args below meth c H locs 0 0 Q (F0 m 30 ls []) := by
    intro n
    induction n with
    | zero =>
      intro x1 v_now v_undos v_thrown H locs ls hP hD hS hl h
      unfold f9_undo_L30 at h; cases h
    | succ n ih =>
      intro x1 v_now v_undos v_thrown H locs ls hP hD hS hl h
      unfold f9_undo_L30 at h
      refine lv_iload_n hx hb dX9_undo_30 rfl (lv_at hl 1 rfl) ?_
      refine lv_sipush (v := (nI 228)) hx hb dX9_undo_31 (by decide) ?_
      refine lv_icmp_ge (tgt := 64) hx hb dX9_undo_34 (by decide) (fun c7 => ?_) (fun c7 => ?_)
      · rw [if_pos c7] at h
        refine lv_aload_n hx hb dX9_undo_64 rfl (lv_at hl 0 rfl) ?_
        refine va_get (D := E.1) (ci := 9) (v := .int v_undos) (C := RX9) (T := TX9) (N := 21) hx hb hts iX9 hown hK hP 0 rfl rfl 3 (by decide) (hts _ q1201) (fun _ h9 => h9) rfl dX9_undo_65 ?_
        cases h
        exact px_eWi hA0 hQ hP hD hS hx hb hr hlocks dX9_undo_68
      · rw [if_neg c7] at h
        refine lv_aload_n hx hb dX9_undo_37 rfl (lv_at hl 0 rfl) ?_
        refine va_get (D := E.1) (ci := 9) (v := .ref (a 1)) (C := RX9) (T := TX9) (N := 21) hx hb hts iX9 hown hK hP 0 rfl rfl 0 (by decide) (hts _ q1198) (fun _ h9 => h9) rfl dX9_undo_38 ?_
        refine lv_iload_n hx hb dX9_undo_41 rfl (lv_at hl 1 rfl) ?_
        refine lv_aload_n hx hb dX9_undo_42 rfl (lv_at hl 0 rfl) ?_
        refine va_get (D := E.1) (ci := 9) (v := .ref (a 3)) (C := RX9) (T := TX9) (N := 21) hx hb hts iX9 hown hK hP 0 rfl rfl 2 (by decide) (hts _ q1200) (fun _ h9 => h9) rfl dX9_undo_43 ?_
        refine lv_sipush (v := (nI 228)) hx hb dX9_undo_46 (by decide) ?_
        refine lv_aload_n hx hb dX9_undo_49 rfl (lv_at hl 0 rfl) ?_
        refine va_get (D := E.1) (ci := 9) (v := .int v_undos) (C := RX9) (T := TX9) (N := 21) hx hb hts iX9 hown hK hP 0 rfl rfl 3 (by decide) (hts _ q1201) (fun _ h9 => h9) rfl dX9_undo_50 ?_
        refine lv_imul hx hb dX9_undo_53 ?_
        refine lv_iload_n hx hb dX9_undo_54 rfl (lv_at hl 1 rfl) ?_
        refine lv_iadd hx hb dX9_undo_55 ?_
        obtain ⟨i8, h⟩ := o_t h
        refine va_iald (f := v_kept) hx hb hK hP 3 0 rfl rfl (inb_in i8) dX9_undo_56 ?_
        obtain ⟨i9, h⟩ := o_t h
        refine va_iast (f := v_now) hx hb hK hP hD hS 1 0 rfl rfl (inb_in i9) dX9_undo_57 (fun H locs hP hD hS => ?_)
        have hP : va_P E.1 vwCl ([gX9 E a (upd v_now (x1).toNatClampNeg (v_kept ((((nI 228) * v_undos) + x1)).toNatClampNeg)) v_tried v_kept v_undos v_saved v_isSaved v_line v_lined v_text v_length v_at v_order v_told v_error v_reason v_detail v_answer v_thrown v_mixed v_conflicts v_firstConflict] : List va_W).flatten H := hP
        have hD : va_D A ([gX9 E a (upd v_now (x1).toNatClampNeg (v_kept ((((nI 228) * v_undos) + x1)).toNatClampNeg)) v_tried v_kept v_undos v_saved v_isSaved v_line v_lined v_text v_length v_at v_order v_told v_error v_reason v_detail v_answer v_thrown v_mixed v_conflicts v_firstConflict] : List va_W).flatten := hD
        obtain ⟨u10, e11, h⟩ := lt_e h
        rw [← e11] at hP hD
        refine lv_iinc (v := (x1 + nI 1)) (lv' := [(1, .int (x1 + nI 1)), (0, .ref (a 0))]) hx hb dX9_undo_58 hl (k := 1) rfl rfl (by decide) rfl (fun ls hl => ?_)
        refine lv_goto (tgt := 30) hx hb dX9_undo_61 (by decide) ?_
        exact ih ((x1 + nI 1)) (u10) (v_undos) (v_thrown) H locs ls hP hD hS (lv_sub hl [1, 0] rfl) h
  intro H locs hP hS
  refine lv_aload_n hx hb dX9_undo_0 rfl (lv_at hl 0 rfl) ?_
  refine lv_iconst (v := (nI 0)) hx hb dX9_undo_1 (by decide) ?_
  refine va_put (D := E.1) (ci := 9) (v := .int (nI 0)) (ty := .int) (C := RX9) (T := TX9) (N := 21) hx hb hts iX9 tyX9 tyX9_ok nmX9 hown hK hP hD hS 0 rfl rfl 17 (by decide) (hts _ q1215) (fun _ h9 => h9) rfl (tyX9_ok 17 (by decide)) rfl rfl (Nat.le_of_ble_eq_true rfl) dX9_undo_2 (fun H locs hP hD hS => ?_)
  have hP : va_P E.1 vwCl ([gX9 E a v_now v_tried v_kept v_undos v_saved v_isSaved v_line v_lined v_text v_length v_at v_order v_told v_error v_reason v_detail v_answer (nI 0) v_mixed v_conflicts v_firstConflict] : List va_W).flatten H := hP
  have hD : va_D A ([gX9 E a v_now v_tried v_kept v_undos v_saved v_isSaved v_line v_lined v_text v_length v_at v_order v_told v_error v_reason v_detail v_answer (nI 0) v_mixed v_conflicts v_firstConflict] : List va_W).flatten := hD
  refine lv_aload_n hx hb dX9_undo_5 rfl (lv_at hl 0 rfl) ?_
  refine va_get (D := E.1) (ci := 9) (v := .int v_undos) (C := RX9) (T := TX9) (N := 21) hx hb hts iX9 hown hK hP 0 rfl rfl 3 (by decide) (hts _ q1201) (fun _ h9 => h9) rfl dX9_undo_6 ?_
  refine lv_if_ne (tgt := 18) hx hb dX9_undo_9 (by decide) (fun c1 => ?_) (fun c1 => ?_)
  · rw [if_neg c1] at h
    refine lv_aload_n hx hb dX9_undo_18 rfl (lv_at hl 0 rfl) ?_
    refine lv_dup hx hb dX9_undo_19 rfl ?_
    refine va_get (D := E.1) (ci := 9) (v := .int v_undos) (C := RX9) (T := TX9) (N := 21) hx hb hts iX9 hown hK hP 0 rfl rfl 3 (by decide) (hts _ q1201) (fun _ h9 => h9) rfl dX9_undo_20 ?_
    refine lv_iconst (v := (nI 1)) hx hb dX9_undo_23 (by decide) ?_
    refine lv_isub hx hb dX9_undo_24 ?_
    refine va_put (D := E.1) (ci := 9) (v := .int (v_undos - (nI 1))) (ty := .int) (C := RX9) (T := TX9) (N := 21) hx hb hts iX9 tyX9 tyX9_ok nmX9 hown hK hP hD hS 0 rfl rfl 3 (by decide) (hts _ q1201) (fun _ h9 => h9) rfl (tyX9_ok 3 (by decide)) rfl rfl (Nat.le_of_ble_eq_true rfl) dX9_undo_25 (fun H locs hP hD hS => ?_)
    have hP : va_P E.1 vwCl ([gX9 E a v_now v_tried v_kept (v_undos - (nI 1)) v_saved v_isSaved v_line v_lined v_text v_length v_at v_order v_told v_error v_reason v_detail v_answer (nI 0) v_mixed v_conflicts v_firstConflict] : List va_W).flatten H := hP
    have hD : va_D A ([gX9 E a v_now v_tried v_kept (v_undos - (nI 1)) v_saved v_isSaved v_line v_lined v_text v_length v_at v_order v_told v_error v_reason v_detail v_answer (nI 0) v_mixed v_conflicts v_firstConflict] : List va_W).flatten := hD
    obtain ⟨u2, e3, h⟩ := lt_e h
    rw [← e3] at hP hD
    refine lv_iconst (v := (nI 0)) hx hb dX9_undo_28 (by decide) ?_
    refine lv_istore_n (lv' := [(1, .int (nI 0)), (0, .ref (a 0))]) hx hb dX9_undo_29 rfl hl (by decide) rfl (fun ls hl => ?_)
    exact L30 fuel ((nI 0)) (v_now) (u2) ((nI 0)) H locs ls hP hD hS (lv_sub hl [1, 0] rfl) h
  · rw [if_pos c1] at h
    refine lv_aload_n hx hb dX9_undo_12 rfl (lv_at hl 0 rfl) ?_
    refine lv_iconst (v := (nI 1)) hx hb dX9_undo_13 (by decide) ?_
    obtain ⟨⟨r4, w5⟩, hr6, h⟩ := ob h
    dsimp only at h
    refine px_V (As := [.int (nI 1)]) (rest := []) (gs := ([gX9 E a v_now v_tried v_kept v_undos v_saved v_isSaved v_line v_lined v_text v_length v_at v_order v_told v_error v_reason v_detail v_answer (nI 0) v_mixed v_conflicts v_firstConflict] : List va_W)) (gr := ([] : List va_W)) (gc := ([gX9 E a v_now v_tried v_kept v_undos v_saved v_isSaved v_line v_lined v_text v_length v_at v_order v_told v_error v_reason v_detail v_answer (nI 0) v_mixed v_conflicts v_firstConflict] : List va_W)) (g1 := ([gX9 E a v_now v_tried v_kept v_undos v_saved v_isSaved v_line v_lined v_text v_length v_at v_order v_told v_error v_reason v_detail v_answer w5 v_mixed v_conflicts v_firstConflict] : List va_W)) (g2 := ([gX9 E a v_now v_tried v_kept v_undos v_saved v_isSaved v_line v_lined v_text v_length v_at v_order v_told v_error v_reason v_detail v_answer w5 v_mixed v_conflicts v_firstConflict] : List va_W)) ⟨hx, hb, hml, hown, hts⟩ (c9_raises l E a  ((nI 1)) (v_now) (v_tried) (v_kept) (v_undos) (v_saved) (v_isSaved) (v_line) (v_lined) (v_text) (v_length) (v_at) (v_order) (v_told) (v_error) (v_reason) (v_detail) (v_answer) ((nI 0)) (v_mixed) (v_conflicts) (v_firstConflict) r4 w5 hr6) (cwV 1 hts (ws_v q1320 q1322 q28 q68 q1323) rfl rfl rfl hdV_X9_raises (by rw [hR]; exact ⟨Nat.le_of_ble_eq_true rfl, Nat.le_of_ble_eq_true rfl⟩)) hK hN hP hD hS hA [] [0] [0] rfl rfl (by decide) (by decide) rfl (by decide) 0 9 rfl rfl rfl rfl hl.1 rfl (Nat.le_of_ble_eq_true rfl) dX9_undo_14 (by rw [hR]; exact ⟨Nat.le_of_ble_eq_true rfl, Nat.le_of_ble_eq_true rfl⟩) (fun H locs hP hD hS => ?_)
    refine W.eq (g2 := F0 m 17 ls [.int r4]) rfl ?_
    cases h
    exact px_eWi hA0 hQ hP hD hS hx hb hr hlocks dX9_undo_17
def f9_save_L12 (v_now : AI) : Nat → Int32 → AI → Int32 → Int32 → Option (Int32 × AI × Int32 × Int32)
  | 0, _, _, _, _ => none
  | n + 1, x1, v_saved, v_isSaved, v_thrown => (if (nI 228) ≤ x1 then (some ((v_now ((nI 0)).toNatClampNeg), v_saved, v_isSaved, v_thrown)) else (if inb x1 228 = true then (if inb x1 228 = true then (lt (upd v_saved (x1).toNatClampNeg (v_now (x1).toNatClampNeg)) fun u4 => (f9_save_L12 v_now n ((x1 + nI 1)) (u4) (v_isSaved) (v_thrown))) else none) else none))
def f9_save  (v_now : AI) (v_saved : AI) (v_isSaved : Int32) (v_thrown : Int32) : Option (Int32 × AI × Int32 × Int32) := (f9_save_L12 v_now fuel ((nI 0)) (v_saved) ((nI 1)) ((nI 0)))
set_option maxHeartbeats 4000000 in
set_option maxRecDepth 100000 in
theorem c9_save (l : Launch) (E : PE) (a : Nat → Nat)   (v_now : AI) (v_tried : AI) (v_kept : AI) (v_undos : Int32) (v_saved : AI) (v_isSaved : Int32) (v_line : AI) (v_lined : Int32) (v_text : AI) (v_length : Int32) (v_at : Int32) (v_order : Int32) (v_told : AI) (v_error : Int32) (v_reason : Int32) (v_detail : Int32) (v_answer : Int32) (v_thrown : Int32) (v_mixed : AI) (v_conflicts : Int32) (v_firstConflict : Int32) (r : Int32) (z_this_saved : AI) (z_this_isSaved : Int32) (z_this_thrown : Int32) (h : f9_save v_now v_saved v_isSaved v_thrown = some (r, z_this_saved, z_this_isSaved, z_this_thrown)) : MW l yX9_save cX9_save 2 (some .int) { frames := 0, cells := 0, slots := 0, locals := 0 } E [.ref (a 0)] ([gX9 E a v_now v_tried v_kept v_undos v_saved v_isSaved v_line v_lined v_text v_length v_at v_order v_told v_error v_reason v_detail v_answer v_thrown v_mixed v_conflicts v_firstConflict] : List va_W).flatten 0 0 (some (.int r)) ([gX9 E a v_now v_tried v_kept v_undos z_this_saved z_this_isSaved v_line v_lined v_text v_length v_at v_order v_told v_error v_reason v_detail v_answer z_this_thrown v_mixed v_conflicts v_firstConflict] : List va_W).flatten := by
  refine px_startW (by decide +kernel) (Nat.le_of_ble_eq_true rfl) ?_
  intro p e s m args below meth c R Q A ls hC hA0 hQ
  obtain ⟨hx, hb, hr, hml, hts, hown, hlocks, hR, hK, hN, hP, hD, hA, hl, hin⟩ := hC
  have hl : lv_has ls 2 [(0, .ref (a 0))] := hl
  suffices key : ∀ (H : Heap) (locs : List Loc), va_P E.1 vwCl ([gX9 E a v_now v_tried v_kept v_undos v_saved v_isSaved v_line v_lined v_text v_length v_at v_order v_told v_error v_reason v_detail v_answer v_thrown v_mixed v_conflicts v_firstConflict] : List va_W).flatten H → va_S A s.heap H locs → W p l e R s m args below meth c H locs 0 0 Q (F0 m 0 ls []) from key s.heap [] hP va_S.rf
  unfold f9_save at h
  have L12 : ∀ (n : Nat) (x1 : Int32) (v_saved : AI) (v_isSaved : Int32) (v_thrown : Int32) (H : Heap) (locs : List Loc) (ls : Array Slot), va_P E.1 vwCl ([gX9 E a v_now v_tried v_kept v_undos v_saved v_isSaved v_line v_lined v_text v_length v_at v_order v_told v_error v_reason v_detail v_answer v_thrown v_mixed v_conflicts v_firstConflict] : List va_W).flatten H → va_D A ([gX9 E a v_now v_tried v_kept v_undos v_saved v_isSaved v_line v_lined v_text v_length v_at v_order v_told v_error v_reason v_detail v_answer v_thrown v_mixed v_conflicts v_firstConflict] : List va_W).flatten → va_S A s.heap H locs → lv_has ls 2 [(0, .ref (a 0)), (1, .int x1)] → f9_save_L12 v_now n x1 v_saved v_isSaved v_thrown = some (r, z_this_saved, z_this_isSaved, z_this_thrown) → W p l e R s m args below meth c H locs 0 0 Q (F0 m 12 ls []) := by
    intro n
    induction n with
    | zero =>
      intro x1 v_saved v_isSaved v_thrown H locs ls hP hD hS hl h
      unfold f9_save_L12 at h; cases h
    | succ n ih =>
      intro x1 v_saved v_isSaved v_thrown H locs ls hP hD hS hl h
      unfold f9_save_L12 at h
      refine lv_iload_n hx hb dX9_save_12 rfl (lv_at hl 1 rfl) ?_
      refine lv_sipush (v := (nI 228)) hx hb dX9_save_13 (by decide) ?_
      refine lv_icmp_ge (tgt := 37) hx hb dX9_save_16 (by decide) (fun c1 => ?_) (fun c1 => ?_)
      · rw [if_pos c1] at h
        refine lv_aload_n hx hb dX9_save_37 rfl (lv_at hl 0 rfl) ?_
        refine va_get (D := E.1) (ci := 9) (v := .ref (a 1)) (C := RX9) (T := TX9) (N := 21) hx hb hts iX9 hown hK hP 0 rfl rfl 0 (by decide) (hts _ q1198) (fun _ h9 => h9) rfl dX9_save_38 ?_
        refine lv_iconst (v := (nI 0)) hx hb dX9_save_41 (by decide) ?_
        refine va_iald (f := v_now) hx hb hK hP 1 0 rfl rfl (inb_in (i := (nI 0)) (n := 228) (by decide)) dX9_save_42 ?_
        cases h
        exact px_eWi hA0 hQ hP hD hS hx hb hr hlocks dX9_save_43
      · rw [if_neg c1] at h
        refine lv_aload_n hx hb dX9_save_19 rfl (lv_at hl 0 rfl) ?_
        refine va_get (D := E.1) (ci := 9) (v := .ref (a 4)) (C := RX9) (T := TX9) (N := 21) hx hb hts iX9 hown hK hP 0 rfl rfl 4 (by decide) (hts _ q1202) (fun _ h9 => h9) rfl dX9_save_20 ?_
        refine lv_iload_n hx hb dX9_save_23 rfl (lv_at hl 1 rfl) ?_
        refine lv_aload_n hx hb dX9_save_24 rfl (lv_at hl 0 rfl) ?_
        refine va_get (D := E.1) (ci := 9) (v := .ref (a 1)) (C := RX9) (T := TX9) (N := 21) hx hb hts iX9 hown hK hP 0 rfl rfl 0 (by decide) (hts _ q1198) (fun _ h9 => h9) rfl dX9_save_25 ?_
        refine lv_iload_n hx hb dX9_save_28 rfl (lv_at hl 1 rfl) ?_
        obtain ⟨i2, h⟩ := o_t h
        refine va_iald (f := v_now) hx hb hK hP 1 0 rfl rfl (inb_in i2) dX9_save_29 ?_
        obtain ⟨i3, h⟩ := o_t h
        refine va_iast (f := v_saved) hx hb hK hP hD hS 4 0 rfl rfl (inb_in i3) dX9_save_30 (fun H locs hP hD hS => ?_)
        have hP : va_P E.1 vwCl ([gX9 E a v_now v_tried v_kept v_undos (upd v_saved (x1).toNatClampNeg (v_now (x1).toNatClampNeg)) v_isSaved v_line v_lined v_text v_length v_at v_order v_told v_error v_reason v_detail v_answer v_thrown v_mixed v_conflicts v_firstConflict] : List va_W).flatten H := hP
        have hD : va_D A ([gX9 E a v_now v_tried v_kept v_undos (upd v_saved (x1).toNatClampNeg (v_now (x1).toNatClampNeg)) v_isSaved v_line v_lined v_text v_length v_at v_order v_told v_error v_reason v_detail v_answer v_thrown v_mixed v_conflicts v_firstConflict] : List va_W).flatten := hD
        obtain ⟨u4, e5, h⟩ := lt_e h
        rw [← e5] at hP hD
        refine lv_iinc (v := (x1 + nI 1)) (lv' := [(1, .int (x1 + nI 1)), (0, .ref (a 0))]) hx hb dX9_save_31 hl (k := 1) rfl rfl (by decide) rfl (fun ls hl => ?_)
        refine lv_goto (tgt := 12) hx hb dX9_save_34 (by decide) ?_
        exact ih ((x1 + nI 1)) (u4) (v_isSaved) (v_thrown) H locs ls hP hD hS (lv_sub hl [1, 0] rfl) h
  intro H locs hP hS
  refine lv_aload_n hx hb dX9_save_0 rfl (lv_at hl 0 rfl) ?_
  refine lv_iconst (v := (nI 0)) hx hb dX9_save_1 (by decide) ?_
  refine va_put (D := E.1) (ci := 9) (v := .int (nI 0)) (ty := .int) (C := RX9) (T := TX9) (N := 21) hx hb hts iX9 tyX9 tyX9_ok nmX9 hown hK hP hD hS 0 rfl rfl 17 (by decide) (hts _ q1215) (fun _ h9 => h9) rfl (tyX9_ok 17 (by decide)) rfl rfl (Nat.le_of_ble_eq_true rfl) dX9_save_2 (fun H locs hP hD hS => ?_)
  have hP : va_P E.1 vwCl ([gX9 E a v_now v_tried v_kept v_undos v_saved v_isSaved v_line v_lined v_text v_length v_at v_order v_told v_error v_reason v_detail v_answer (nI 0) v_mixed v_conflicts v_firstConflict] : List va_W).flatten H := hP
  have hD : va_D A ([gX9 E a v_now v_tried v_kept v_undos v_saved v_isSaved v_line v_lined v_text v_length v_at v_order v_told v_error v_reason v_detail v_answer (nI 0) v_mixed v_conflicts v_firstConflict] : List va_W).flatten := hD
  refine lv_aload_n hx hb dX9_save_5 rfl (lv_at hl 0 rfl) ?_
  refine lv_iconst (v := (nI 1)) hx hb dX9_save_6 (by decide) ?_
  refine va_put (D := E.1) (ci := 9) (v := .int (nI 1)) (ty := .boolean) (C := RX9) (T := TX9) (N := 21) hx hb hts iX9 tyX9 tyX9_ok nmX9 hown hK hP hD hS 0 rfl rfl 5 (by decide) (hts _ q1203) (fun _ h9 => h9) rfl (tyX9_ok 5 (by decide)) (by decide +kernel) (by decide +kernel) (Nat.le_of_ble_eq_true rfl) dX9_save_7 (fun H locs hP hD hS => ?_)
  have hP : va_P E.1 vwCl ([gX9 E a v_now v_tried v_kept v_undos v_saved (nI 1) v_line v_lined v_text v_length v_at v_order v_told v_error v_reason v_detail v_answer (nI 0) v_mixed v_conflicts v_firstConflict] : List va_W).flatten H := hP
  have hD : va_D A ([gX9 E a v_now v_tried v_kept v_undos v_saved (nI 1) v_line v_lined v_text v_length v_at v_order v_told v_error v_reason v_detail v_answer (nI 0) v_mixed v_conflicts v_firstConflict] : List va_W).flatten := hD
  refine lv_iconst (v := (nI 0)) hx hb dX9_save_10 (by decide) ?_
  refine lv_istore_n (lv' := [(1, .int (nI 0)), (0, .ref (a 0))]) hx hb dX9_save_11 rfl hl (by decide) rfl (fun ls hl => ?_)
  exact L12 fuel ((nI 0)) (v_saved) ((nI 1)) ((nI 0)) H locs ls hP hD hS (lv_sub hl [1, 0] rfl) h
def f9_restore_L20 (v_saved : AI) (v_isSaved : Int32) : Nat → Int32 → AI → Int32 → Int32 → Option (Int32 × AI × Int32 × Int32)
  | 0, _, _, _, _ => none
  | n + 1, x1, v_now, v_undos, v_thrown => (if (nI 228) ≤ x1 then (some ((v_now ((nI 0)).toNatClampNeg), v_now, (nI 0), v_thrown)) else (if inb x1 228 = true then (if inb x1 228 = true then (lt (upd v_now (x1).toNatClampNeg (v_saved (x1).toNatClampNeg)) fun u8 => (f9_restore_L20 v_saved v_isSaved n ((x1 + nI 1)) (u8) (v_undos) (v_thrown))) else none) else none))
def f9_restore  (v_now : AI) (v_undos : Int32) (v_saved : AI) (v_isSaved : Int32) (v_thrown : Int32) : Option (Int32 × AI × Int32 × Int32) := (if v_isSaved = 0 then ((f9_raises ((nI 1)) ((nI 0))).bind fun (r2, w3) => (some (r2, v_now, v_undos, w3))) else (f9_restore_L20 v_saved v_isSaved fuel ((nI 0)) (v_now) (v_undos) ((nI 0))))
set_option maxHeartbeats 4000000 in
set_option maxRecDepth 100000 in
theorem c9_restore (l : Launch) (E : PE) (a : Nat → Nat)   (v_now : AI) (v_tried : AI) (v_kept : AI) (v_undos : Int32) (v_saved : AI) (v_isSaved : Int32) (v_line : AI) (v_lined : Int32) (v_text : AI) (v_length : Int32) (v_at : Int32) (v_order : Int32) (v_told : AI) (v_error : Int32) (v_reason : Int32) (v_detail : Int32) (v_answer : Int32) (v_thrown : Int32) (v_mixed : AI) (v_conflicts : Int32) (v_firstConflict : Int32) (r : Int32) (z_this_now : AI) (z_this_undos : Int32) (z_this_thrown : Int32) (h : f9_restore v_now v_undos v_saved v_isSaved v_thrown = some (r, z_this_now, z_this_undos, z_this_thrown)) : MW l yX9_restore cX9_restore 2 (some .int) { frames := 1, cells := 0, slots := 0, locals := 21 } E [.ref (a 0)] ([gX9 E a v_now v_tried v_kept v_undos v_saved v_isSaved v_line v_lined v_text v_length v_at v_order v_told v_error v_reason v_detail v_answer v_thrown v_mixed v_conflicts v_firstConflict] : List va_W).flatten 0 0 (some (.int r)) ([gX9 E a z_this_now v_tried v_kept z_this_undos v_saved v_isSaved v_line v_lined v_text v_length v_at v_order v_told v_error v_reason v_detail v_answer z_this_thrown v_mixed v_conflicts v_firstConflict] : List va_W).flatten := by
  refine px_startW (by decide +kernel) (Nat.le_of_ble_eq_true rfl) ?_
  intro p e s m args below meth c R Q A ls hC hA0 hQ
  obtain ⟨hx, hb, hr, hml, hts, hown, hlocks, hR, hK, hN, hP, hD, hA, hl, hin⟩ := hC
  have hl : lv_has ls 2 [(0, .ref (a 0))] := hl
  suffices key : ∀ (H : Heap) (locs : List Loc), va_P E.1 vwCl ([gX9 E a v_now v_tried v_kept v_undos v_saved v_isSaved v_line v_lined v_text v_length v_at v_order v_told v_error v_reason v_detail v_answer v_thrown v_mixed v_conflicts v_firstConflict] : List va_W).flatten H → va_S A s.heap H locs → W p l e R s m args below meth c H locs 0 0 Q (F0 m 0 ls []) from key s.heap [] hP va_S.rf
  unfold f9_restore at h
  have L20 : ∀ (n : Nat) (x1 : Int32) (v_now : AI) (v_undos : Int32) (v_thrown : Int32) (H : Heap) (locs : List Loc) (ls : Array Slot), va_P E.1 vwCl ([gX9 E a v_now v_tried v_kept v_undos v_saved v_isSaved v_line v_lined v_text v_length v_at v_order v_told v_error v_reason v_detail v_answer v_thrown v_mixed v_conflicts v_firstConflict] : List va_W).flatten H → va_D A ([gX9 E a v_now v_tried v_kept v_undos v_saved v_isSaved v_line v_lined v_text v_length v_at v_order v_told v_error v_reason v_detail v_answer v_thrown v_mixed v_conflicts v_firstConflict] : List va_W).flatten → va_S A s.heap H locs → lv_has ls 2 [(0, .ref (a 0)), (1, .int x1)] → f9_restore_L20 v_saved v_isSaved n x1 v_now v_undos v_thrown = some (r, z_this_now, z_this_undos, z_this_thrown) → W p l e R s m args below meth c H locs 0 0 Q (F0 m 20 ls []) := by
    intro n
    induction n with
    | zero =>
      intro x1 v_now v_undos v_thrown H locs ls hP hD hS hl h
      unfold f9_restore_L20 at h; cases h
    | succ n ih =>
      intro x1 v_now v_undos v_thrown H locs ls hP hD hS hl h
      unfold f9_restore_L20 at h
      refine lv_iload_n hx hb dX9_restore_20 rfl (lv_at hl 1 rfl) ?_
      refine lv_sipush (v := (nI 228)) hx hb dX9_restore_21 (by decide) ?_
      refine lv_icmp_ge (tgt := 45) hx hb dX9_restore_24 (by decide) (fun c5 => ?_) (fun c5 => ?_)
      · rw [if_pos c5] at h
        refine lv_aload_n hx hb dX9_restore_45 rfl (lv_at hl 0 rfl) ?_
        refine lv_iconst (v := (nI 0)) hx hb dX9_restore_46 (by decide) ?_
        refine va_put (D := E.1) (ci := 9) (v := .int (nI 0)) (ty := .int) (C := RX9) (T := TX9) (N := 21) hx hb hts iX9 tyX9 tyX9_ok nmX9 hown hK hP hD hS 0 rfl rfl 3 (by decide) (hts _ q1201) (fun _ h9 => h9) rfl (tyX9_ok 3 (by decide)) rfl rfl (Nat.le_of_ble_eq_true rfl) dX9_restore_47 (fun H locs hP hD hS => ?_)
        have hP : va_P E.1 vwCl ([gX9 E a v_now v_tried v_kept (nI 0) v_saved v_isSaved v_line v_lined v_text v_length v_at v_order v_told v_error v_reason v_detail v_answer v_thrown v_mixed v_conflicts v_firstConflict] : List va_W).flatten H := hP
        have hD : va_D A ([gX9 E a v_now v_tried v_kept (nI 0) v_saved v_isSaved v_line v_lined v_text v_length v_at v_order v_told v_error v_reason v_detail v_answer v_thrown v_mixed v_conflicts v_firstConflict] : List va_W).flatten := hD
        refine lv_aload_n hx hb dX9_restore_50 rfl (lv_at hl 0 rfl) ?_
        refine va_get (D := E.1) (ci := 9) (v := .ref (a 1)) (C := RX9) (T := TX9) (N := 21) hx hb hts iX9 hown hK hP 0 rfl rfl 0 (by decide) (hts _ q1198) (fun _ h9 => h9) rfl dX9_restore_51 ?_
        refine lv_iconst (v := (nI 0)) hx hb dX9_restore_54 (by decide) ?_
        refine va_iald (f := v_now) hx hb hK hP 1 0 rfl rfl (inb_in (i := (nI 0)) (n := 228) (by decide)) dX9_restore_55 ?_
        cases h
        exact px_eWi hA0 hQ hP hD hS hx hb hr hlocks dX9_restore_56
      · rw [if_neg c5] at h
        refine lv_aload_n hx hb dX9_restore_27 rfl (lv_at hl 0 rfl) ?_
        refine va_get (D := E.1) (ci := 9) (v := .ref (a 1)) (C := RX9) (T := TX9) (N := 21) hx hb hts iX9 hown hK hP 0 rfl rfl 0 (by decide) (hts _ q1198) (fun _ h9 => h9) rfl dX9_restore_28 ?_
        refine lv_iload_n hx hb dX9_restore_31 rfl (lv_at hl 1 rfl) ?_
        refine lv_aload_n hx hb dX9_restore_32 rfl (lv_at hl 0 rfl) ?_
        refine va_get (D := E.1) (ci := 9) (v := .ref (a 4)) (C := RX9) (T := TX9) (N := 21) hx hb hts iX9 hown hK hP 0 rfl rfl 4 (by decide) (hts _ q1202) (fun _ h9 => h9) rfl dX9_restore_33 ?_
        refine lv_iload_n hx hb dX9_restore_36 rfl (lv_at hl 1 rfl) ?_
        obtain ⟨i6, h⟩ := o_t h
        refine va_iald (f := v_saved) hx hb hK hP 4 0 rfl rfl (inb_in i6) dX9_restore_37 ?_
        obtain ⟨i7, h⟩ := o_t h
        refine va_iast (f := v_now) hx hb hK hP hD hS 1 0 rfl rfl (inb_in i7) dX9_restore_38 (fun H locs hP hD hS => ?_)
        have hP : va_P E.1 vwCl ([gX9 E a (upd v_now (x1).toNatClampNeg (v_saved (x1).toNatClampNeg)) v_tried v_kept v_undos v_saved v_isSaved v_line v_lined v_text v_length v_at v_order v_told v_error v_reason v_detail v_answer v_thrown v_mixed v_conflicts v_firstConflict] : List va_W).flatten H := hP
        have hD : va_D A ([gX9 E a (upd v_now (x1).toNatClampNeg (v_saved (x1).toNatClampNeg)) v_tried v_kept v_undos v_saved v_isSaved v_line v_lined v_text v_length v_at v_order v_told v_error v_reason v_detail v_answer v_thrown v_mixed v_conflicts v_firstConflict] : List va_W).flatten := hD
        obtain ⟨u8, e9, h⟩ := lt_e h
        rw [← e9] at hP hD
        refine lv_iinc (v := (x1 + nI 1)) (lv' := [(1, .int (x1 + nI 1)), (0, .ref (a 0))]) hx hb dX9_restore_39 hl (k := 1) rfl rfl (by decide) rfl (fun ls hl => ?_)
        refine lv_goto (tgt := 20) hx hb dX9_restore_42 (by decide) ?_
        exact ih ((x1 + nI 1)) (u8) (v_undos) (v_thrown) H locs ls hP hD hS (lv_sub hl [1, 0] rfl) h
  intro H locs hP hS
  refine lv_aload_n hx hb dX9_restore_0 rfl (lv_at hl 0 rfl) ?_
  refine lv_iconst (v := (nI 0)) hx hb dX9_restore_1 (by decide) ?_
  refine va_put (D := E.1) (ci := 9) (v := .int (nI 0)) (ty := .int) (C := RX9) (T := TX9) (N := 21) hx hb hts iX9 tyX9 tyX9_ok nmX9 hown hK hP hD hS 0 rfl rfl 17 (by decide) (hts _ q1215) (fun _ h9 => h9) rfl (tyX9_ok 17 (by decide)) rfl rfl (Nat.le_of_ble_eq_true rfl) dX9_restore_2 (fun H locs hP hD hS => ?_)
  have hP : va_P E.1 vwCl ([gX9 E a v_now v_tried v_kept v_undos v_saved v_isSaved v_line v_lined v_text v_length v_at v_order v_told v_error v_reason v_detail v_answer (nI 0) v_mixed v_conflicts v_firstConflict] : List va_W).flatten H := hP
  have hD : va_D A ([gX9 E a v_now v_tried v_kept v_undos v_saved v_isSaved v_line v_lined v_text v_length v_at v_order v_told v_error v_reason v_detail v_answer (nI 0) v_mixed v_conflicts v_firstConflict] : List va_W).flatten := hD
  refine lv_aload_n hx hb dX9_restore_5 rfl (lv_at hl 0 rfl) ?_
  refine va_get (D := E.1) (ci := 9) (v := .int v_isSaved) (C := RX9) (T := TX9) (N := 21) hx hb hts iX9 hown hK hP 0 rfl rfl 5 (by decide) (hts _ q1203) (fun _ h9 => h9) rfl dX9_restore_6 ?_
  refine lv_if_ne (tgt := 18) hx hb dX9_restore_9 (by decide) (fun c1 => ?_) (fun c1 => ?_)
  · rw [if_neg c1] at h
    refine lv_iconst (v := (nI 0)) hx hb dX9_restore_18 (by decide) ?_
    refine lv_istore_n (lv' := [(1, .int (nI 0)), (0, .ref (a 0))]) hx hb dX9_restore_19 rfl hl (by decide) rfl (fun ls hl => ?_)
    exact L20 fuel ((nI 0)) (v_now) (v_undos) ((nI 0)) H locs ls hP hD hS (lv_sub hl [1, 0] rfl) h
  · rw [if_pos c1] at h
    refine lv_aload_n hx hb dX9_restore_12 rfl (lv_at hl 0 rfl) ?_
    refine lv_iconst (v := (nI 1)) hx hb dX9_restore_13 (by decide) ?_
    obtain ⟨⟨r2, w3⟩, hr4, h⟩ := ob h
    dsimp only at h
    refine px_V (As := [.int (nI 1)]) (rest := []) (gs := ([gX9 E a v_now v_tried v_kept v_undos v_saved v_isSaved v_line v_lined v_text v_length v_at v_order v_told v_error v_reason v_detail v_answer (nI 0) v_mixed v_conflicts v_firstConflict] : List va_W)) (gr := ([] : List va_W)) (gc := ([gX9 E a v_now v_tried v_kept v_undos v_saved v_isSaved v_line v_lined v_text v_length v_at v_order v_told v_error v_reason v_detail v_answer (nI 0) v_mixed v_conflicts v_firstConflict] : List va_W)) (g1 := ([gX9 E a v_now v_tried v_kept v_undos v_saved v_isSaved v_line v_lined v_text v_length v_at v_order v_told v_error v_reason v_detail v_answer w3 v_mixed v_conflicts v_firstConflict] : List va_W)) (g2 := ([gX9 E a v_now v_tried v_kept v_undos v_saved v_isSaved v_line v_lined v_text v_length v_at v_order v_told v_error v_reason v_detail v_answer w3 v_mixed v_conflicts v_firstConflict] : List va_W)) ⟨hx, hb, hml, hown, hts⟩ (c9_raises l E a  ((nI 1)) (v_now) (v_tried) (v_kept) (v_undos) (v_saved) (v_isSaved) (v_line) (v_lined) (v_text) (v_length) (v_at) (v_order) (v_told) (v_error) (v_reason) (v_detail) (v_answer) ((nI 0)) (v_mixed) (v_conflicts) (v_firstConflict) r2 w3 hr4) (cwV 1 hts (ws_v q1320 q1322 q28 q68 q1323) rfl rfl rfl hdV_X9_raises (by rw [hR]; exact ⟨Nat.le_of_ble_eq_true rfl, Nat.le_of_ble_eq_true rfl⟩)) hK hN hP hD hS hA [] [0] [0] rfl rfl (by decide) (by decide) rfl (by decide) 0 9 rfl rfl rfl rfl hl.1 rfl (Nat.le_of_ble_eq_true rfl) dX9_restore_14 (by rw [hR]; exact ⟨Nat.le_of_ble_eq_true rfl, Nat.le_of_ble_eq_true rfl⟩) (fun H locs hP hD hS => ?_)
    refine W.eq (g2 := F0 m 17 ls [.int r2]) rfl ?_
    cases h
    exact px_eWi hA0 hQ hP hD hS hx hb hr hlocks dX9_restore_17
def f9_writesNumber (x1 : Int32) (v_line : AI) (v_lined : Int32) : Option (AI × Int32) := (if x1 ≤ (nI 9) then (lt (v_lined + (nI 1)) fun u2 => (if inb v_lined 40 = true then (lt (upd v_line (v_lined).toNatClampNeg (ch ((nI 48) + (x1 - x1 / (nI 10) * (nI 10))))) fun u5 => (some (u5, u2))) else none)) else (lt (v_lined + (nI 1)) fun u7 => (if inb v_lined 40 = true then (lt (upd v_line (v_lined).toNatClampNeg (ch ((nI 48) + (x1 / (nI 10))))) fun u10 => (lt (u7 + (nI 1)) fun u12 => (if inb u7 40 = true then (lt (upd u10 (u7).toNatClampNeg (ch ((nI 48) + (x1 - x1 / (nI 10) * (nI 10))))) fun u15 => (some (u15, u12))) else none))) else none)))
set_option maxHeartbeats 4000000 in
set_option maxRecDepth 100000 in
theorem c9_writesNumber (l : Launch) (E : PE) (a : Nat → Nat)  (x1 : Int32) (v_now : AI) (v_tried : AI) (v_kept : AI) (v_undos : Int32) (v_saved : AI) (v_isSaved : Int32) (v_line : AI) (v_lined : Int32) (v_text : AI) (v_length : Int32) (v_at : Int32) (v_order : Int32) (v_told : AI) (v_error : Int32) (v_reason : Int32) (v_detail : Int32) (v_answer : Int32) (v_thrown : Int32) (v_mixed : AI) (v_conflicts : Int32) (v_firstConflict : Int32) (z_this_line : AI) (z_this_lined : Int32) (h : f9_writesNumber x1 v_line v_lined = some (z_this_line, z_this_lined)) : MW l yX9_writesNumber cX9_writesNumber 2 none { frames := 0, cells := 0, slots := 0, locals := 0 } E [.ref (a 0), .int x1] ([gX9 E a v_now v_tried v_kept v_undos v_saved v_isSaved v_line v_lined v_text v_length v_at v_order v_told v_error v_reason v_detail v_answer v_thrown v_mixed v_conflicts v_firstConflict] : List va_W).flatten 0 0 none ([gX9 E a v_now v_tried v_kept v_undos v_saved v_isSaved z_this_line z_this_lined v_text v_length v_at v_order v_told v_error v_reason v_detail v_answer v_thrown v_mixed v_conflicts v_firstConflict] : List va_W).flatten := by
  refine px_startW (by decide +kernel) (Nat.le_of_ble_eq_true rfl) ?_
  intro p e s m args below meth c R Q A ls hC hA0 hQ
  obtain ⟨hx, hb, hr, hml, hts, hown, hlocks, hR, hK, hN, hP, hD, hA, hl, hin⟩ := hC
  have hl : lv_has ls 2 [(0, .ref (a 0)), (1, .int x1)] := hl
  suffices key : ∀ (H : Heap) (locs : List Loc), va_P E.1 vwCl ([gX9 E a v_now v_tried v_kept v_undos v_saved v_isSaved v_line v_lined v_text v_length v_at v_order v_told v_error v_reason v_detail v_answer v_thrown v_mixed v_conflicts v_firstConflict] : List va_W).flatten H → va_S A s.heap H locs → W p l e R s m args below meth c H locs 0 0 Q (F0 m 0 ls []) from key s.heap [] hP va_S.rf
  unfold f9_writesNumber at h
  intro H locs hP hS
  refine lv_iload_n hx hb dX9_writesNumber_0 rfl (lv_at hl 1 rfl) ?_
  refine lv_bipush (v := (nI 9)) hx hb dX9_writesNumber_1 (by decide) ?_
  refine lv_icmp_le (tgt := 30) hx hb dX9_writesNumber_3 (by decide) (fun c1 => ?_) (fun c1 => ?_)
  · rw [if_pos c1] at h
    refine lv_aload_n hx hb dX9_writesNumber_30 rfl (lv_at hl 0 rfl) ?_
    refine va_get (D := E.1) (ci := 9) (v := .ref (a 5)) (C := RX9) (T := TX9) (N := 21) hx hb hts iX9 hown hK hP 0 rfl rfl 6 (by decide) (hts _ q1204) (fun _ h9 => h9) rfl dX9_writesNumber_31 ?_
    refine lv_aload_n hx hb dX9_writesNumber_34 rfl (lv_at hl 0 rfl) ?_
    refine lv_dup hx hb dX9_writesNumber_35 rfl ?_
    refine va_get (D := E.1) (ci := 9) (v := .int v_lined) (C := RX9) (T := TX9) (N := 21) hx hb hts iX9 hown hK hP 0 rfl rfl 7 (by decide) (hts _ q1205) (fun _ h9 => h9) rfl dX9_writesNumber_36 ?_
    refine lv_dup_x1 hx hb dX9_writesNumber_39 rfl rfl ?_
    refine lv_iconst (v := (nI 1)) hx hb dX9_writesNumber_40 (by decide) ?_
    refine lv_iadd hx hb dX9_writesNumber_41 ?_
    refine va_put (D := E.1) (ci := 9) (v := .int (v_lined + (nI 1))) (ty := .int) (C := RX9) (T := TX9) (N := 21) hx hb hts iX9 tyX9 tyX9_ok nmX9 hown hK hP hD hS 0 rfl rfl 7 (by decide) (hts _ q1205) (fun _ h9 => h9) rfl (tyX9_ok 7 (by decide)) rfl rfl (Nat.le_of_ble_eq_true rfl) dX9_writesNumber_42 (fun H locs hP hD hS => ?_)
    have hP : va_P E.1 vwCl ([gX9 E a v_now v_tried v_kept v_undos v_saved v_isSaved v_line (v_lined + (nI 1)) v_text v_length v_at v_order v_told v_error v_reason v_detail v_answer v_thrown v_mixed v_conflicts v_firstConflict] : List va_W).flatten H := hP
    have hD : va_D A ([gX9 E a v_now v_tried v_kept v_undos v_saved v_isSaved v_line (v_lined + (nI 1)) v_text v_length v_at v_order v_told v_error v_reason v_detail v_answer v_thrown v_mixed v_conflicts v_firstConflict] : List va_W).flatten := hD
    obtain ⟨u2, e3, h⟩ := lt_e h
    rw [← e3] at hP hD
    refine lv_bipush (v := (nI 48)) hx hb dX9_writesNumber_45 (by decide) ?_
    refine lv_iload_n hx hb dX9_writesNumber_47 rfl (lv_at hl 1 rfl) ?_
    refine lv_bipush (v := (nI 10)) hx hb dX9_writesNumber_48 (by decide) ?_
    refine lv_irem hx hb dX9_writesNumber_50 (by decide) ?_
    refine lv_iadd hx hb dX9_writesNumber_51 ?_
    refine lv_i2c (v := (ch ((nI 48) + (x1 - x1 / (nI 10) * (nI 10))))) hx hb dX9_writesNumber_52 rfl ?_
    obtain ⟨i4, h⟩ := o_t h
    refine va_cast (f := fun j => ch (v_line j)) hx hb hK hP hD hS 5 1 rfl rfl (inb_in i4) dX9_writesNumber_53 (fun H locs hP hD hS => ?_)
    rw [ch_u] at hP hD
    have hP : va_P E.1 vwCl ([gX9 E a v_now v_tried v_kept v_undos v_saved v_isSaved (upd v_line (v_lined).toNatClampNeg (ch ((nI 48) + (x1 - x1 / (nI 10) * (nI 10))))) u2 v_text v_length v_at v_order v_told v_error v_reason v_detail v_answer v_thrown v_mixed v_conflicts v_firstConflict] : List va_W).flatten H := hP
    have hD : va_D A ([gX9 E a v_now v_tried v_kept v_undos v_saved v_isSaved (upd v_line (v_lined).toNatClampNeg (ch ((nI 48) + (x1 - x1 / (nI 10) * (nI 10))))) u2 v_text v_length v_at v_order v_told v_error v_reason v_detail v_answer v_thrown v_mixed v_conflicts v_firstConflict] : List va_W).flatten := hD
    obtain ⟨u5, e6, h⟩ := lt_e h
    rw [← e6] at hP hD
    cases h
    exact px_eWv hA0 hQ hP hD hS hx hb hr hlocks dX9_writesNumber_54
  · rw [if_neg c1] at h
    refine lv_aload_n hx hb dX9_writesNumber_6 rfl (lv_at hl 0 rfl) ?_
    refine va_get (D := E.1) (ci := 9) (v := .ref (a 5)) (C := RX9) (T := TX9) (N := 21) hx hb hts iX9 hown hK hP 0 rfl rfl 6 (by decide) (hts _ q1204) (fun _ h9 => h9) rfl dX9_writesNumber_7 ?_
    refine lv_aload_n hx hb dX9_writesNumber_10 rfl (lv_at hl 0 rfl) ?_
    refine lv_dup hx hb dX9_writesNumber_11 rfl ?_
    refine va_get (D := E.1) (ci := 9) (v := .int v_lined) (C := RX9) (T := TX9) (N := 21) hx hb hts iX9 hown hK hP 0 rfl rfl 7 (by decide) (hts _ q1205) (fun _ h9 => h9) rfl dX9_writesNumber_12 ?_
    refine lv_dup_x1 hx hb dX9_writesNumber_15 rfl rfl ?_
    refine lv_iconst (v := (nI 1)) hx hb dX9_writesNumber_16 (by decide) ?_
    refine lv_iadd hx hb dX9_writesNumber_17 ?_
    refine va_put (D := E.1) (ci := 9) (v := .int (v_lined + (nI 1))) (ty := .int) (C := RX9) (T := TX9) (N := 21) hx hb hts iX9 tyX9 tyX9_ok nmX9 hown hK hP hD hS 0 rfl rfl 7 (by decide) (hts _ q1205) (fun _ h9 => h9) rfl (tyX9_ok 7 (by decide)) rfl rfl (Nat.le_of_ble_eq_true rfl) dX9_writesNumber_18 (fun H locs hP hD hS => ?_)
    have hP : va_P E.1 vwCl ([gX9 E a v_now v_tried v_kept v_undos v_saved v_isSaved v_line (v_lined + (nI 1)) v_text v_length v_at v_order v_told v_error v_reason v_detail v_answer v_thrown v_mixed v_conflicts v_firstConflict] : List va_W).flatten H := hP
    have hD : va_D A ([gX9 E a v_now v_tried v_kept v_undos v_saved v_isSaved v_line (v_lined + (nI 1)) v_text v_length v_at v_order v_told v_error v_reason v_detail v_answer v_thrown v_mixed v_conflicts v_firstConflict] : List va_W).flatten := hD
    obtain ⟨u7, e8, h⟩ := lt_e h
    rw [← e8] at hP hD
    refine lv_bipush (v := (nI 48)) hx hb dX9_writesNumber_21 (by decide) ?_
    refine lv_iload_n hx hb dX9_writesNumber_23 rfl (lv_at hl 1 rfl) ?_
    refine lv_bipush (v := (nI 10)) hx hb dX9_writesNumber_24 (by decide) ?_
    refine lv_idiv hx hb dX9_writesNumber_26 (by decide) ?_
    refine lv_iadd hx hb dX9_writesNumber_27 ?_
    refine lv_i2c (v := (ch ((nI 48) + (x1 / (nI 10))))) hx hb dX9_writesNumber_28 rfl ?_
    obtain ⟨i9, h⟩ := o_t h
    refine va_cast (f := fun j => ch (v_line j)) hx hb hK hP hD hS 5 1 rfl rfl (inb_in i9) dX9_writesNumber_29 (fun H locs hP hD hS => ?_)
    rw [ch_u] at hP hD
    have hP : va_P E.1 vwCl ([gX9 E a v_now v_tried v_kept v_undos v_saved v_isSaved (upd v_line (v_lined).toNatClampNeg (ch ((nI 48) + (x1 / (nI 10))))) u7 v_text v_length v_at v_order v_told v_error v_reason v_detail v_answer v_thrown v_mixed v_conflicts v_firstConflict] : List va_W).flatten H := hP
    have hD : va_D A ([gX9 E a v_now v_tried v_kept v_undos v_saved v_isSaved (upd v_line (v_lined).toNatClampNeg (ch ((nI 48) + (x1 / (nI 10))))) u7 v_text v_length v_at v_order v_told v_error v_reason v_detail v_answer v_thrown v_mixed v_conflicts v_firstConflict] : List va_W).flatten := hD
    obtain ⟨u10, e11, h⟩ := lt_e h
    rw [← e11] at hP hD
    refine lv_aload_n hx hb dX9_writesNumber_30 rfl (lv_at hl 0 rfl) ?_
    refine va_get (D := E.1) (ci := 9) (v := .ref (a 5)) (C := RX9) (T := TX9) (N := 21) hx hb hts iX9 hown hK hP 0 rfl rfl 6 (by decide) (hts _ q1204) (fun _ h9 => h9) rfl dX9_writesNumber_31 ?_
    refine lv_aload_n hx hb dX9_writesNumber_34 rfl (lv_at hl 0 rfl) ?_
    refine lv_dup hx hb dX9_writesNumber_35 rfl ?_
    refine va_get (D := E.1) (ci := 9) (v := .int u7) (C := RX9) (T := TX9) (N := 21) hx hb hts iX9 hown hK hP 0 rfl rfl 7 (by decide) (hts _ q1205) (fun _ h9 => h9) rfl dX9_writesNumber_36 ?_
    refine lv_dup_x1 hx hb dX9_writesNumber_39 rfl rfl ?_
    refine lv_iconst (v := (nI 1)) hx hb dX9_writesNumber_40 (by decide) ?_
    refine lv_iadd hx hb dX9_writesNumber_41 ?_
    refine va_put (D := E.1) (ci := 9) (v := .int (u7 + (nI 1))) (ty := .int) (C := RX9) (T := TX9) (N := 21) hx hb hts iX9 tyX9 tyX9_ok nmX9 hown hK hP hD hS 0 rfl rfl 7 (by decide) (hts _ q1205) (fun _ h9 => h9) rfl (tyX9_ok 7 (by decide)) rfl rfl (Nat.le_of_ble_eq_true rfl) dX9_writesNumber_42 (fun H locs hP hD hS => ?_)
    have hP : va_P E.1 vwCl ([gX9 E a v_now v_tried v_kept v_undos v_saved v_isSaved u10 (u7 + (nI 1)) v_text v_length v_at v_order v_told v_error v_reason v_detail v_answer v_thrown v_mixed v_conflicts v_firstConflict] : List va_W).flatten H := hP
    have hD : va_D A ([gX9 E a v_now v_tried v_kept v_undos v_saved v_isSaved u10 (u7 + (nI 1)) v_text v_length v_at v_order v_told v_error v_reason v_detail v_answer v_thrown v_mixed v_conflicts v_firstConflict] : List va_W).flatten := hD
    obtain ⟨u12, e13, h⟩ := lt_e h
    rw [← e13] at hP hD
    refine lv_bipush (v := (nI 48)) hx hb dX9_writesNumber_45 (by decide) ?_
    refine lv_iload_n hx hb dX9_writesNumber_47 rfl (lv_at hl 1 rfl) ?_
    refine lv_bipush (v := (nI 10)) hx hb dX9_writesNumber_48 (by decide) ?_
    refine lv_irem hx hb dX9_writesNumber_50 (by decide) ?_
    refine lv_iadd hx hb dX9_writesNumber_51 ?_
    refine lv_i2c (v := (ch ((nI 48) + (x1 - x1 / (nI 10) * (nI 10))))) hx hb dX9_writesNumber_52 rfl ?_
    obtain ⟨i14, h⟩ := o_t h
    refine va_cast (f := fun j => ch (u10 j)) hx hb hK hP hD hS 5 1 rfl rfl (inb_in i14) dX9_writesNumber_53 (fun H locs hP hD hS => ?_)
    rw [ch_u] at hP hD
    have hP : va_P E.1 vwCl ([gX9 E a v_now v_tried v_kept v_undos v_saved v_isSaved (upd u10 (u7).toNatClampNeg (ch ((nI 48) + (x1 - x1 / (nI 10) * (nI 10))))) u12 v_text v_length v_at v_order v_told v_error v_reason v_detail v_answer v_thrown v_mixed v_conflicts v_firstConflict] : List va_W).flatten H := hP
    have hD : va_D A ([gX9 E a v_now v_tried v_kept v_undos v_saved v_isSaved (upd u10 (u7).toNatClampNeg (ch ((nI 48) + (x1 - x1 / (nI 10) * (nI 10))))) u12 v_text v_length v_at v_order v_told v_error v_reason v_detail v_answer v_thrown v_mixed v_conflicts v_firstConflict] : List va_W).flatten := hD
    obtain ⟨u15, e16, h⟩ := lt_e h
    rw [← e16] at hP hD
    cases h
    exact px_eWv hA0 hQ hP hD hS hx hb hr hlocks dX9_writesNumber_54
