def f9_thrown  (v_thrown : Int32) : Option (Int32) := (some v_thrown)
set_option maxHeartbeats 4000000 in
set_option maxRecDepth 100000 in
theorem c9_thrown (l : Launch) (E : PE) (a : Nat → Nat)   (v_now : AI) (v_tried : AI) (v_kept : AI) (v_undos : Int32) (v_saved : AI) (v_isSaved : Int32) (v_line : AI) (v_lined : Int32) (v_text : AI) (v_length : Int32) (v_at : Int32) (v_order : Int32) (v_told : AI) (v_error : Int32) (v_reason : Int32) (v_detail : Int32) (v_answer : Int32) (v_thrown : Int32) (v_mixed : AI) (v_conflicts : Int32) (v_firstConflict : Int32) (r : Int32) (h : f9_thrown v_thrown = some r) : MP l yX9_thrown cX9_thrown 1 (some .int) { frames := 0, cells := 0, slots := 0, locals := 0 } E [.ref (a 0)] ([gX9 E a v_now v_tried v_kept v_undos v_saved v_isSaved v_line v_lined v_text v_length v_at v_order v_told v_error v_reason v_detail v_answer v_thrown v_mixed v_conflicts v_firstConflict] : List va_W).flatten (some (.int r)) := by
  refine px_startP (by decide +kernel) (Nat.le_of_ble_eq_true rfl) ?_
  intro p e s m args below meth c R Q A ls hC hQ
  obtain ⟨hx, hb, hr, hml, hts, hown, hlocks, hR, hK, hN, hP, hD, hA, hl, hin⟩ := hC
  have hl : lv_has ls 1 [(0, .ref (a 0))] := hl
  unfold f9_thrown at h
  refine lv_aload_n hx hb dX9_thrown_0 rfl (lv_at hl 0 rfl) ?_
  refine va_get (D := E.1) (ci := 9) (v := .int v_thrown) (C := RX9) (T := TX9) (N := 21) hx hb hts iX9 hown hK hP 0 rfl rfl 17 (by decide) (hts _ q1215) (fun _ h9 => h9) rfl dX9_thrown_1 ?_
  cases h
  exact px_ePi hQ hx hb hr hlocks dX9_thrown_4
def f9_raises (x1 : Int32) (v_thrown : Int32) : Option (Int32 × Int32) := (some ((nI 0), x1))
set_option maxHeartbeats 4000000 in
set_option maxRecDepth 100000 in
theorem c9_raises (l : Launch) (E : PE) (a : Nat → Nat)  (x1 : Int32) (v_now : AI) (v_tried : AI) (v_kept : AI) (v_undos : Int32) (v_saved : AI) (v_isSaved : Int32) (v_line : AI) (v_lined : Int32) (v_text : AI) (v_length : Int32) (v_at : Int32) (v_order : Int32) (v_told : AI) (v_error : Int32) (v_reason : Int32) (v_detail : Int32) (v_answer : Int32) (v_thrown : Int32) (v_mixed : AI) (v_conflicts : Int32) (v_firstConflict : Int32) (r : Int32) (z_this_thrown : Int32) (h : f9_raises x1 v_thrown = some (r, z_this_thrown)) : MW l yX9_raises cX9_raises 2 (some .int) { frames := 0, cells := 0, slots := 0, locals := 0 } E [.ref (a 0), .int x1] ([gX9 E a v_now v_tried v_kept v_undos v_saved v_isSaved v_line v_lined v_text v_length v_at v_order v_told v_error v_reason v_detail v_answer v_thrown v_mixed v_conflicts v_firstConflict] : List va_W).flatten 0 0 (some (.int r)) ([gX9 E a v_now v_tried v_kept v_undos v_saved v_isSaved v_line v_lined v_text v_length v_at v_order v_told v_error v_reason v_detail v_answer z_this_thrown v_mixed v_conflicts v_firstConflict] : List va_W).flatten := by
  refine px_startW (by decide +kernel) (Nat.le_of_ble_eq_true rfl) ?_
  intro p e s m args below meth c R Q A ls hC hA0 hQ
  obtain ⟨hx, hb, hr, hml, hts, hown, hlocks, hR, hK, hN, hP, hD, hA, hl, hin⟩ := hC
  have hl : lv_has ls 2 [(0, .ref (a 0)), (1, .int x1)] := hl
  suffices key : ∀ (H : Heap) (locs : List Loc), va_P E.1 vwCl ([gX9 E a v_now v_tried v_kept v_undos v_saved v_isSaved v_line v_lined v_text v_length v_at v_order v_told v_error v_reason v_detail v_answer v_thrown v_mixed v_conflicts v_firstConflict] : List va_W).flatten H → va_S A s.heap H locs → W p l e R s m args below meth c H locs 0 0 Q (F0 m 0 ls []) from key s.heap [] hP va_S.rf
  unfold f9_raises at h
  intro H locs hP hS
  refine lv_aload_n hx hb dX9_raises_0 rfl (lv_at hl 0 rfl) ?_
  refine lv_iload_n hx hb dX9_raises_1 rfl (lv_at hl 1 rfl) ?_
  refine va_put (D := E.1) (ci := 9) (v := .int x1) (ty := .int) (C := RX9) (T := TX9) (N := 21) hx hb hts iX9 tyX9 tyX9_ok nmX9 hown hK hP hD hS 0 rfl rfl 17 (by decide) (hts _ q1215) (fun _ h9 => h9) rfl (tyX9_ok 17 (by decide)) rfl rfl (Nat.le_of_ble_eq_true rfl) dX9_raises_2 (fun H locs hP hD hS => ?_)
  have hP : va_P E.1 vwCl ([gX9 E a v_now v_tried v_kept v_undos v_saved v_isSaved v_line v_lined v_text v_length v_at v_order v_told v_error v_reason v_detail v_answer x1 v_mixed v_conflicts v_firstConflict] : List va_W).flatten H := hP
  have hD : va_D A ([gX9 E a v_now v_tried v_kept v_undos v_saved v_isSaved v_line v_lined v_text v_length v_at v_order v_told v_error v_reason v_detail v_answer x1 v_mixed v_conflicts v_firstConflict] : List va_W).flatten := hD
  refine lv_iconst (v := (nI 0)) hx hb dX9_raises_5 (by decide) ?_
  cases h
  exact px_eWi hA0 hQ hP hD hS hx hb hr hlocks dX9_raises_6
def f9_in (x0 : Int32) (x1 : Int32) (x2 : Int32)  : Option (Bool) := (if x0 < x1 then (some false) else (if x2 < x0 then (some false) else (some true)))
set_option maxHeartbeats 4000000 in
set_option maxRecDepth 100000 in
theorem c9_in (l : Launch) (E : PE)   (x0 : Int32) (x1 : Int32) (x2 : Int32)  (r : Bool) (h : f9_in x0 x1 x2 = some r) : MP l yX9_in cX9_in 3 (some .boolean) { frames := 0, cells := 0, slots := 0, locals := 0 } E [.int x0, .int x1, .int x2] ([] : List va_W).flatten (some (.int (b2i r))) := by
  refine px_startP (by decide +kernel) (Nat.le_of_ble_eq_true rfl) ?_
  intro p e s m args below meth c R Q A ls hC hQ
  obtain ⟨hx, hb, hr, hml, hts, hown, hlocks, hR, hK, hN, hP, hD, hA, hl, hin⟩ := hC
  have hl : lv_has ls 3 [(0, .int x0), (1, .int x1), (2, .int x2)] := hl
  unfold f9_in at h
  refine lv_iload_n hx hb dX9_in_0 rfl (lv_at hl 0 rfl) ?_
  refine lv_iload_n hx hb dX9_in_1 rfl (lv_at hl 1 rfl) ?_
  refine lv_icmp_lt (tgt := 14) hx hb dX9_in_2 (by decide) (fun c1 => ?_) (fun c1 => ?_)
  · rw [if_pos c1] at h
    refine lv_iconst (v := (nI 0)) hx hb dX9_in_14 (by decide) ?_
    cases h
    refine W.eq (g2 := F0 m 15 ls [.int (b2i false)]) rfl ?_
    exact px_ePz (b2i_n _) hQ hx hb hr hlocks dX9_in_15
  · rw [if_neg c1] at h
    refine lv_iload_n hx hb dX9_in_5 rfl (lv_at hl 0 rfl) ?_
    refine lv_iload_n hx hb dX9_in_6 rfl (lv_at hl 2 rfl) ?_
    refine lv_icmp_gt (tgt := 14) hx hb dX9_in_7 (by decide) (fun c2 => ?_) (fun c2 => ?_)
    · rw [if_pos c2] at h
      refine lv_iconst (v := (nI 0)) hx hb dX9_in_14 (by decide) ?_
      cases h
      refine W.eq (g2 := F0 m 15 ls [.int (b2i false)]) rfl ?_
      exact px_ePz (b2i_n _) hQ hx hb hr hlocks dX9_in_15
    · rw [if_neg c2] at h
      refine lv_iconst (v := (nI 1)) hx hb dX9_in_10 (by decide) ?_
      refine lv_goto (tgt := 15) hx hb dX9_in_11 (by decide) ?_
      cases h
      refine W.eq (g2 := F0 m 15 ls [.int (b2i true)]) rfl ?_
      exact px_ePz (b2i_n _) hQ hx hb hr hlocks dX9_in_15
def f9_tries_L7 (v_now : AI) : Nat → Int32 → AI → Int32 → Option (AI × Int32)
  | 0, _, _, _ => none
  | n + 1, x1, v_tried, v_thrown => (if (nI 228) ≤ x1 then (some (v_tried, v_thrown)) else (if inb x1 228 = true then (if inb x1 228 = true then (lt (upd v_tried (x1).toNatClampNeg (v_now (x1).toNatClampNeg)) fun u4 => (f9_tries_L7 v_now n ((x1 + nI 1)) (u4) (v_thrown))) else none) else none))
def f9_tries  (v_now : AI) (v_tried : AI) (v_thrown : Int32) : Option (AI × Int32) := (f9_tries_L7 v_now fuel ((nI 0)) (v_tried) ((nI 0)))
set_option maxHeartbeats 4000000 in
set_option maxRecDepth 100000 in
theorem c9_tries (l : Launch) (E : PE) (a : Nat → Nat)   (v_now : AI) (v_tried : AI) (v_kept : AI) (v_undos : Int32) (v_saved : AI) (v_isSaved : Int32) (v_line : AI) (v_lined : Int32) (v_text : AI) (v_length : Int32) (v_at : Int32) (v_order : Int32) (v_told : AI) (v_error : Int32) (v_reason : Int32) (v_detail : Int32) (v_answer : Int32) (v_thrown : Int32) (v_mixed : AI) (v_conflicts : Int32) (v_firstConflict : Int32) (z_this_tried : AI) (z_this_thrown : Int32) (h : f9_tries v_now v_tried v_thrown = some (z_this_tried, z_this_thrown)) : MW l yX9_tries cX9_tries 2 none { frames := 0, cells := 0, slots := 0, locals := 0 } E [.ref (a 0)] ([gX9 E a v_now v_tried v_kept v_undos v_saved v_isSaved v_line v_lined v_text v_length v_at v_order v_told v_error v_reason v_detail v_answer v_thrown v_mixed v_conflicts v_firstConflict] : List va_W).flatten 0 0 none ([gX9 E a v_now z_this_tried v_kept v_undos v_saved v_isSaved v_line v_lined v_text v_length v_at v_order v_told v_error v_reason v_detail v_answer z_this_thrown v_mixed v_conflicts v_firstConflict] : List va_W).flatten := by
  refine px_startW (by decide +kernel) (Nat.le_of_ble_eq_true rfl) ?_
  intro p e s m args below meth c R Q A ls hC hA0 hQ
  obtain ⟨hx, hb, hr, hml, hts, hown, hlocks, hR, hK, hN, hP, hD, hA, hl, hin⟩ := hC
  have hl : lv_has ls 2 [(0, .ref (a 0))] := hl
  suffices key : ∀ (H : Heap) (locs : List Loc), va_P E.1 vwCl ([gX9 E a v_now v_tried v_kept v_undos v_saved v_isSaved v_line v_lined v_text v_length v_at v_order v_told v_error v_reason v_detail v_answer v_thrown v_mixed v_conflicts v_firstConflict] : List va_W).flatten H → va_S A s.heap H locs → W p l e R s m args below meth c H locs 0 0 Q (F0 m 0 ls []) from key s.heap [] hP va_S.rf
  unfold f9_tries at h
  have L7 : ∀ (n : Nat) (x1 : Int32) (v_tried : AI) (v_thrown : Int32) (H : Heap) (locs : List Loc) (ls : Array Slot), va_P E.1 vwCl ([gX9 E a v_now v_tried v_kept v_undos v_saved v_isSaved v_line v_lined v_text v_length v_at v_order v_told v_error v_reason v_detail v_answer v_thrown v_mixed v_conflicts v_firstConflict] : List va_W).flatten H → va_D A ([gX9 E a v_now v_tried v_kept v_undos v_saved v_isSaved v_line v_lined v_text v_length v_at v_order v_told v_error v_reason v_detail v_answer v_thrown v_mixed v_conflicts v_firstConflict] : List va_W).flatten → va_S A s.heap H locs → lv_has ls 2 [(0, .ref (a 0)), (1, .int x1)] → f9_tries_L7 v_now n x1 v_tried v_thrown = some (z_this_tried, z_this_thrown) → W p l e R s m args below meth c H locs 0 0 Q (F0 m 7 ls []) := by
    intro n
    induction n with
    | zero =>
      intro x1 v_tried v_thrown H locs ls hP hD hS hl h
      unfold f9_tries_L7 at h; cases h
    | succ n ih =>
      intro x1 v_tried v_thrown H locs ls hP hD hS hl h
      unfold f9_tries_L7 at h
      refine lv_iload_n hx hb dX9_tries_7 rfl (lv_at hl 1 rfl) ?_
      refine lv_sipush (v := (nI 228)) hx hb dX9_tries_8 (by decide) ?_
      refine lv_icmp_ge (tgt := 32) hx hb dX9_tries_11 (by decide) (fun c1 => ?_) (fun c1 => ?_)
      · rw [if_pos c1] at h
        cases h
        exact px_eWv hA0 hQ hP hD hS hx hb hr hlocks dX9_tries_32
      · rw [if_neg c1] at h
        refine lv_aload_n hx hb dX9_tries_14 rfl (lv_at hl 0 rfl) ?_
        refine va_get (D := E.1) (ci := 9) (v := .ref (a 2)) (C := RX9) (T := TX9) (N := 21) hx hb hts iX9 hown hK hP 0 rfl rfl 1 (by decide) (hts _ q1199) (fun _ h9 => h9) rfl dX9_tries_15 ?_
        refine lv_iload_n hx hb dX9_tries_18 rfl (lv_at hl 1 rfl) ?_
        refine lv_aload_n hx hb dX9_tries_19 rfl (lv_at hl 0 rfl) ?_
        refine va_get (D := E.1) (ci := 9) (v := .ref (a 1)) (C := RX9) (T := TX9) (N := 21) hx hb hts iX9 hown hK hP 0 rfl rfl 0 (by decide) (hts _ q1198) (fun _ h9 => h9) rfl dX9_tries_20 ?_
        refine lv_iload_n hx hb dX9_tries_23 rfl (lv_at hl 1 rfl) ?_
        obtain ⟨i2, h⟩ := o_t h
        refine va_iald (f := v_now) hx hb hK hP 1 0 rfl rfl (inb_in i2) dX9_tries_24 ?_
        obtain ⟨i3, h⟩ := o_t h
        refine va_iast (f := v_tried) hx hb hK hP hD hS 2 0 rfl rfl (inb_in i3) dX9_tries_25 (fun H locs hP hD hS => ?_)
        have hP : va_P E.1 vwCl ([gX9 E a v_now (upd v_tried (x1).toNatClampNeg (v_now (x1).toNatClampNeg)) v_kept v_undos v_saved v_isSaved v_line v_lined v_text v_length v_at v_order v_told v_error v_reason v_detail v_answer v_thrown v_mixed v_conflicts v_firstConflict] : List va_W).flatten H := hP
        have hD : va_D A ([gX9 E a v_now (upd v_tried (x1).toNatClampNeg (v_now (x1).toNatClampNeg)) v_kept v_undos v_saved v_isSaved v_line v_lined v_text v_length v_at v_order v_told v_error v_reason v_detail v_answer v_thrown v_mixed v_conflicts v_firstConflict] : List va_W).flatten := hD
        obtain ⟨u4, e5, h⟩ := lt_e h
        rw [← e5] at hP hD
        refine lv_iinc (v := (x1 + nI 1)) (lv' := [(1, .int (x1 + nI 1)), (0, .ref (a 0))]) hx hb dX9_tries_26 hl (k := 1) rfl rfl (by decide) rfl (fun ls hl => ?_)
        refine lv_goto (tgt := 7) hx hb dX9_tries_29 (by decide) ?_
        exact ih ((x1 + nI 1)) (u4) (v_thrown) H locs ls hP hD hS (lv_sub hl [1, 0] rfl) h
  intro H locs hP hS
  refine lv_aload_n hx hb dX9_tries_0 rfl (lv_at hl 0 rfl) ?_
  refine lv_iconst (v := (nI 0)) hx hb dX9_tries_1 (by decide) ?_
  refine va_put (D := E.1) (ci := 9) (v := .int (nI 0)) (ty := .int) (C := RX9) (T := TX9) (N := 21) hx hb hts iX9 tyX9 tyX9_ok nmX9 hown hK hP hD hS 0 rfl rfl 17 (by decide) (hts _ q1215) (fun _ h9 => h9) rfl (tyX9_ok 17 (by decide)) rfl rfl (Nat.le_of_ble_eq_true rfl) dX9_tries_2 (fun H locs hP hD hS => ?_)
  have hP : va_P E.1 vwCl ([gX9 E a v_now v_tried v_kept v_undos v_saved v_isSaved v_line v_lined v_text v_length v_at v_order v_told v_error v_reason v_detail v_answer (nI 0) v_mixed v_conflicts v_firstConflict] : List va_W).flatten H := hP
  have hD : va_D A ([gX9 E a v_now v_tried v_kept v_undos v_saved v_isSaved v_line v_lined v_text v_length v_at v_order v_told v_error v_reason v_detail v_answer (nI 0) v_mixed v_conflicts v_firstConflict] : List va_W).flatten := hD
  refine lv_iconst (v := (nI 0)) hx hb dX9_tries_5 (by decide) ?_
  refine lv_istore_n (lv' := [(1, .int (nI 0)), (0, .ref (a 0))]) hx hb dX9_tries_6 rfl hl (by decide) rfl (fun ls hl => ?_)
  exact L7 fuel ((nI 0)) (v_tried) ((nI 0)) H locs ls hP hD hS (lv_sub hl [1, 0] rfl) h
def f9_comesBack_L2 (v_tried : AI) : Nat → Int32 → AI → Option (AI)
  | 0, _, _ => none
  | n + 1, x1, v_now => (if (nI 228) ≤ x1 then (some v_now) else (if inb x1 228 = true then (if inb x1 228 = true then (lt (upd v_now (x1).toNatClampNeg (v_tried (x1).toNatClampNeg)) fun u4 => (f9_comesBack_L2 v_tried n ((x1 + nI 1)) (u4))) else none) else none))
def f9_comesBack  (v_now : AI) (v_tried : AI) : Option (AI) := (f9_comesBack_L2 v_tried fuel ((nI 0)) (v_now))
set_option maxHeartbeats 4000000 in
set_option maxRecDepth 100000 in
theorem c9_comesBack (l : Launch) (E : PE) (a : Nat → Nat)   (v_now : AI) (v_tried : AI) (v_kept : AI) (v_undos : Int32) (v_saved : AI) (v_isSaved : Int32) (v_line : AI) (v_lined : Int32) (v_text : AI) (v_length : Int32) (v_at : Int32) (v_order : Int32) (v_told : AI) (v_error : Int32) (v_reason : Int32) (v_detail : Int32) (v_answer : Int32) (v_thrown : Int32) (v_mixed : AI) (v_conflicts : Int32) (v_firstConflict : Int32) (z_this_now : AI) (h : f9_comesBack v_now v_tried = some z_this_now) : MW l yX9_comesBack cX9_comesBack 2 none { frames := 0, cells := 0, slots := 0, locals := 0 } E [.ref (a 0)] ([gX9 E a v_now v_tried v_kept v_undos v_saved v_isSaved v_line v_lined v_text v_length v_at v_order v_told v_error v_reason v_detail v_answer v_thrown v_mixed v_conflicts v_firstConflict] : List va_W).flatten 0 0 none ([gX9 E a z_this_now v_tried v_kept v_undos v_saved v_isSaved v_line v_lined v_text v_length v_at v_order v_told v_error v_reason v_detail v_answer v_thrown v_mixed v_conflicts v_firstConflict] : List va_W).flatten := by
  refine px_startW (by decide +kernel) (Nat.le_of_ble_eq_true rfl) ?_
  intro p e s m args below meth c R Q A ls hC hA0 hQ
  obtain ⟨hx, hb, hr, hml, hts, hown, hlocks, hR, hK, hN, hP, hD, hA, hl, hin⟩ := hC
  have hl : lv_has ls 2 [(0, .ref (a 0))] := hl
  suffices key : ∀ (H : Heap) (locs : List Loc), va_P E.1 vwCl ([gX9 E a v_now v_tried v_kept v_undos v_saved v_isSaved v_line v_lined v_text v_length v_at v_order v_told v_error v_reason v_detail v_answer v_thrown v_mixed v_conflicts v_firstConflict] : List va_W).flatten H → va_S A s.heap H locs → W p l e R s m args below meth c H locs 0 0 Q (F0 m 0 ls []) from key s.heap [] hP va_S.rf
  unfold f9_comesBack at h
  have L2 : ∀ (n : Nat) (x1 : Int32) (v_now : AI) (H : Heap) (locs : List Loc) (ls : Array Slot), va_P E.1 vwCl ([gX9 E a v_now v_tried v_kept v_undos v_saved v_isSaved v_line v_lined v_text v_length v_at v_order v_told v_error v_reason v_detail v_answer v_thrown v_mixed v_conflicts v_firstConflict] : List va_W).flatten H → va_D A ([gX9 E a v_now v_tried v_kept v_undos v_saved v_isSaved v_line v_lined v_text v_length v_at v_order v_told v_error v_reason v_detail v_answer v_thrown v_mixed v_conflicts v_firstConflict] : List va_W).flatten → va_S A s.heap H locs → lv_has ls 2 [(0, .ref (a 0)), (1, .int x1)] → f9_comesBack_L2 v_tried n x1 v_now = some z_this_now → W p l e R s m args below meth c H locs 0 0 Q (F0 m 2 ls []) := by
    intro n
    induction n with
    | zero =>
      intro x1 v_now H locs ls hP hD hS hl h
      unfold f9_comesBack_L2 at h; cases h
    | succ n ih =>
      intro x1 v_now H locs ls hP hD hS hl h
      unfold f9_comesBack_L2 at h
      refine lv_iload_n hx hb dX9_comesBack_2 rfl (lv_at hl 1 rfl) ?_
      refine lv_sipush (v := (nI 228)) hx hb dX9_comesBack_3 (by decide) ?_
      refine lv_icmp_ge (tgt := 27) hx hb dX9_comesBack_6 (by decide) (fun c1 => ?_) (fun c1 => ?_)
      · rw [if_pos c1] at h
        cases h
        exact px_eWv hA0 hQ hP hD hS hx hb hr hlocks dX9_comesBack_27
      · rw [if_neg c1] at h
        refine lv_aload_n hx hb dX9_comesBack_9 rfl (lv_at hl 0 rfl) ?_
        refine va_get (D := E.1) (ci := 9) (v := .ref (a 1)) (C := RX9) (T := TX9) (N := 21) hx hb hts iX9 hown hK hP 0 rfl rfl 0 (by decide) (hts _ q1198) (fun _ h9 => h9) rfl dX9_comesBack_10 ?_
        refine lv_iload_n hx hb dX9_comesBack_13 rfl (lv_at hl 1 rfl) ?_
        refine lv_aload_n hx hb dX9_comesBack_14 rfl (lv_at hl 0 rfl) ?_
        refine va_get (D := E.1) (ci := 9) (v := .ref (a 2)) (C := RX9) (T := TX9) (N := 21) hx hb hts iX9 hown hK hP 0 rfl rfl 1 (by decide) (hts _ q1199) (fun _ h9 => h9) rfl dX9_comesBack_15 ?_
        refine lv_iload_n hx hb dX9_comesBack_18 rfl (lv_at hl 1 rfl) ?_
        obtain ⟨i2, h⟩ := o_t h
        refine va_iald (f := v_tried) hx hb hK hP 2 0 rfl rfl (inb_in i2) dX9_comesBack_19 ?_
        obtain ⟨i3, h⟩ := o_t h
        refine va_iast (f := v_now) hx hb hK hP hD hS 1 0 rfl rfl (inb_in i3) dX9_comesBack_20 (fun H locs hP hD hS => ?_)
        have hP : va_P E.1 vwCl ([gX9 E a (upd v_now (x1).toNatClampNeg (v_tried (x1).toNatClampNeg)) v_tried v_kept v_undos v_saved v_isSaved v_line v_lined v_text v_length v_at v_order v_told v_error v_reason v_detail v_answer v_thrown v_mixed v_conflicts v_firstConflict] : List va_W).flatten H := hP
        have hD : va_D A ([gX9 E a (upd v_now (x1).toNatClampNeg (v_tried (x1).toNatClampNeg)) v_tried v_kept v_undos v_saved v_isSaved v_line v_lined v_text v_length v_at v_order v_told v_error v_reason v_detail v_answer v_thrown v_mixed v_conflicts v_firstConflict] : List va_W).flatten := hD
        obtain ⟨u4, e5, h⟩ := lt_e h
        rw [← e5] at hP hD
        refine lv_iinc (v := (x1 + nI 1)) (lv' := [(1, .int (x1 + nI 1)), (0, .ref (a 0))]) hx hb dX9_comesBack_21 hl (k := 1) rfl rfl (by decide) rfl (fun ls hl => ?_)
        refine lv_goto (tgt := 2) hx hb dX9_comesBack_24 (by decide) ?_
        exact ih ((x1 + nI 1)) (u4) H locs ls hP hD hS (lv_sub hl [1, 0] rfl) h
  intro H locs hP hS
  refine lv_iconst (v := (nI 0)) hx hb dX9_comesBack_0 (by decide) ?_
  refine lv_istore_n (lv' := [(1, .int (nI 0)), (0, .ref (a 0))]) hx hb dX9_comesBack_1 rfl hl (by decide) rfl (fun ls hl => ?_)
  exact L2 fuel ((nI 0)) (v_now) H locs ls hP hD hS (lv_sub hl [1, 0] rfl) h
def f9_keeps_L52 (x1 : Int32) (v_tried : AI) : Nat → Int32 → AI → Int32 → Option (Int32 × AI × Int32)
  | 0, _, _, _ => none
  | n + 1, x2, v_kept, v_undos => (if (nI 228) ≤ x2 then (lt (v_undos + (nI 1)) fun u3 => (some (x1, v_kept, u3))) else (if inb x2 228 = true then (if inb (((nI 228) * v_undos) + x2) 1824 = true then (lt (upd v_kept ((((nI 228) * v_undos) + x2)).toNatClampNeg (v_tried (x2).toNatClampNeg)) fun u7 => (f9_keeps_L52 x1 v_tried n ((x2 + nI 1)) (u7) (v_undos))) else none) else none))
def f9_keeps_L11 (x1 : Int32) (v_tried : AI) : Nat → Int32 → AI → Int32 → Option (Int32 × AI × Int32)
  | 0, _, _, _ => none
  | n + 1, x2, v_kept, v_undos => (if (nI 1596) ≤ x2 then (lt (v_undos - (nI 1)) fun u10 => (f9_keeps_L52 x1 v_tried fuel ((nI 0)) (v_kept) (u10))) else (if inb ((nI 228) + x2) 1824 = true then (if inb x2 1824 = true then (lt (upd v_kept (x2).toNatClampNeg (v_kept (((nI 228) + x2)).toNatClampNeg)) fun u14 => (f9_keeps_L11 x1 v_tried n ((x2 + nI 1)) (u14) (v_undos))) else none) else none))
def f9_keeps (x1 : Int32) (v_tried : AI) (v_kept : AI) (v_undos : Int32) : Option (Int32 × AI × Int32) := (if v_undos = (nI 8) then (f9_keeps_L11 x1 v_tried fuel ((nI 0)) (v_kept) (v_undos)) else (f9_keeps_L52 x1 v_tried fuel ((nI 0)) (v_kept) (v_undos)))
set_option maxHeartbeats 4000000 in
set_option maxRecDepth 100000 in
theorem c9_keeps (l : Launch) (E : PE) (a : Nat → Nat)  (x1 : Int32) (v_now : AI) (v_tried : AI) (v_kept : AI) (v_undos : Int32) (v_saved : AI) (v_isSaved : Int32) (v_line : AI) (v_lined : Int32) (v_text : AI) (v_length : Int32) (v_at : Int32) (v_order : Int32) (v_told : AI) (v_error : Int32) (v_reason : Int32) (v_detail : Int32) (v_answer : Int32) (v_thrown : Int32) (v_mixed : AI) (v_conflicts : Int32) (v_firstConflict : Int32) (r : Int32) (z_this_kept : AI) (z_this_undos : Int32) (h : f9_keeps x1 v_tried v_kept v_undos = some (r, z_this_kept, z_this_undos)) : MW l yX9_keeps cX9_keeps 3 (some .int) { frames := 0, cells := 0, slots := 0, locals := 0 } E [.ref (a 0), .int x1] ([gX9 E a v_now v_tried v_kept v_undos v_saved v_isSaved v_line v_lined v_text v_length v_at v_order v_told v_error v_reason v_detail v_answer v_thrown v_mixed v_conflicts v_firstConflict] : List va_W).flatten 0 0 (some (.int r)) ([gX9 E a v_now v_tried z_this_kept z_this_undos v_saved v_isSaved v_line v_lined v_text v_length v_at v_order v_told v_error v_reason v_detail v_answer v_thrown v_mixed v_conflicts v_firstConflict] : List va_W).flatten := by
  refine px_startW (by decide +kernel) (Nat.le_of_ble_eq_true rfl) ?_
  intro p e s m args below meth c R Q A ls hC hA0 hQ
  obtain ⟨hx, hb, hr, hml, hts, hown, hlocks, hR, hK, hN, hP, hD, hA, hl, hin⟩ := hC
  have hl : lv_has ls 3 [(0, .ref (a 0)), (1, .int x1)] := hl
  suffices key : ∀ (H : Heap) (locs : List Loc), va_P E.1 vwCl ([gX9 E a v_now v_tried v_kept v_undos v_saved v_isSaved v_line v_lined v_text v_length v_at v_order v_told v_error v_reason v_detail v_answer v_thrown v_mixed v_conflicts v_firstConflict] : List va_W).flatten H → va_S A s.heap H locs → W p l e R s m args below meth c H locs 0 0 Q (F0 m 0 ls []) from key s.heap [] hP va_S.rf
  unfold f9_keeps at h
  have L52 : ∀ (n : Nat) (x2 : Int32) (v_kept : AI) (v_undos : Int32) (H : Heap) (locs : List Loc) (ls : Array Slot), va_P E.1 vwCl ([gX9 E a v_now v_tried v_kept v_undos v_saved v_isSaved v_line v_lined v_text v_length v_at v_order v_told v_error v_reason v_detail v_answer v_thrown v_mixed v_conflicts v_firstConflict] : List va_W).flatten H → va_D A ([gX9 E a v_now v_tried v_kept v_undos v_saved v_isSaved v_line v_lined v_text v_length v_at v_order v_told v_error v_reason v_detail v_answer v_thrown v_mixed v_conflicts v_firstConflict] : List va_W).flatten → va_S A s.heap H locs → lv_has ls 3 [(0, .ref (a 0)), (1, .int x1), (2, .int x2)] → f9_keeps_L52 x1 v_tried n x2 v_kept v_undos = some (r, z_this_kept, z_this_undos) → W p l e R s m args below meth c H locs 0 0 Q (F0 m 52 ls []) := by
    intro n
    induction n with
    | zero =>
      intro x2 v_kept v_undos H locs ls hP hD hS hl h
      unfold f9_keeps_L52 at h; cases h
    | succ n ih =>
      intro x2 v_kept v_undos H locs ls hP hD hS hl h
      unfold f9_keeps_L52 at h
      refine lv_iload_n hx hb dX9_keeps_52 rfl (lv_at hl 2 rfl) ?_
      refine lv_sipush (v := (nI 228)) hx hb dX9_keeps_53 (by decide) ?_
      refine lv_icmp_ge (tgt := 86) hx hb dX9_keeps_56 (by decide) (fun c2 => ?_) (fun c2 => ?_)
      · rw [if_pos c2] at h
        refine lv_aload_n hx hb dX9_keeps_86 rfl (lv_at hl 0 rfl) ?_
        refine lv_dup hx hb dX9_keeps_87 rfl ?_
        refine va_get (D := E.1) (ci := 9) (v := .int v_undos) (C := RX9) (T := TX9) (N := 21) hx hb hts iX9 hown hK hP 0 rfl rfl 3 (by decide) (hts _ q1201) (fun _ h9 => h9) rfl dX9_keeps_88 ?_
        refine lv_iconst (v := (nI 1)) hx hb dX9_keeps_91 (by decide) ?_
        refine lv_iadd hx hb dX9_keeps_92 ?_
        refine va_put (D := E.1) (ci := 9) (v := .int (v_undos + (nI 1))) (ty := .int) (C := RX9) (T := TX9) (N := 21) hx hb hts iX9 tyX9 tyX9_ok nmX9 hown hK hP hD hS 0 rfl rfl 3 (by decide) (hts _ q1201) (fun _ h9 => h9) rfl (tyX9_ok 3 (by decide)) rfl rfl (Nat.le_of_ble_eq_true rfl) dX9_keeps_93 (fun H locs hP hD hS => ?_)
        have hP : va_P E.1 vwCl ([gX9 E a v_now v_tried v_kept (v_undos + (nI 1)) v_saved v_isSaved v_line v_lined v_text v_length v_at v_order v_told v_error v_reason v_detail v_answer v_thrown v_mixed v_conflicts v_firstConflict] : List va_W).flatten H := hP
        have hD : va_D A ([gX9 E a v_now v_tried v_kept (v_undos + (nI 1)) v_saved v_isSaved v_line v_lined v_text v_length v_at v_order v_told v_error v_reason v_detail v_answer v_thrown v_mixed v_conflicts v_firstConflict] : List va_W).flatten := hD
        obtain ⟨u3, e4, h⟩ := lt_e h
        rw [← e4] at hP hD
        refine lv_iload_n hx hb dX9_keeps_96 rfl (lv_at hl 1 rfl) ?_
        cases h
        exact px_eWi hA0 hQ hP hD hS hx hb hr hlocks dX9_keeps_97
      · rw [if_neg c2] at h
        refine lv_aload_n hx hb dX9_keeps_59 rfl (lv_at hl 0 rfl) ?_
        refine va_get (D := E.1) (ci := 9) (v := .ref (a 3)) (C := RX9) (T := TX9) (N := 21) hx hb hts iX9 hown hK hP 0 rfl rfl 2 (by decide) (hts _ q1200) (fun _ h9 => h9) rfl dX9_keeps_60 ?_
        refine lv_sipush (v := (nI 228)) hx hb dX9_keeps_63 (by decide) ?_
        refine lv_aload_n hx hb dX9_keeps_66 rfl (lv_at hl 0 rfl) ?_
        refine va_get (D := E.1) (ci := 9) (v := .int v_undos) (C := RX9) (T := TX9) (N := 21) hx hb hts iX9 hown hK hP 0 rfl rfl 3 (by decide) (hts _ q1201) (fun _ h9 => h9) rfl dX9_keeps_67 ?_
        refine lv_imul hx hb dX9_keeps_70 ?_
        refine lv_iload_n hx hb dX9_keeps_71 rfl (lv_at hl 2 rfl) ?_
        refine lv_iadd hx hb dX9_keeps_72 ?_
        refine lv_aload_n hx hb dX9_keeps_73 rfl (lv_at hl 0 rfl) ?_
        refine va_get (D := E.1) (ci := 9) (v := .ref (a 2)) (C := RX9) (T := TX9) (N := 21) hx hb hts iX9 hown hK hP 0 rfl rfl 1 (by decide) (hts _ q1199) (fun _ h9 => h9) rfl dX9_keeps_74 ?_
        refine lv_iload_n hx hb dX9_keeps_77 rfl (lv_at hl 2 rfl) ?_
        obtain ⟨i5, h⟩ := o_t h
        refine va_iald (f := v_tried) hx hb hK hP 2 0 rfl rfl (inb_in i5) dX9_keeps_78 ?_
        obtain ⟨i6, h⟩ := o_t h
        refine va_iast (f := v_kept) hx hb hK hP hD hS 3 0 rfl rfl (inb_in i6) dX9_keeps_79 (fun H locs hP hD hS => ?_)
        have hP : va_P E.1 vwCl ([gX9 E a v_now v_tried (upd v_kept ((((nI 228) * v_undos) + x2)).toNatClampNeg (v_tried (x2).toNatClampNeg)) v_undos v_saved v_isSaved v_line v_lined v_text v_length v_at v_order v_told v_error v_reason v_detail v_answer v_thrown v_mixed v_conflicts v_firstConflict] : List va_W).flatten H := hP
        have hD : va_D A ([gX9 E a v_now v_tried (upd v_kept ((((nI 228) * v_undos) + x2)).toNatClampNeg (v_tried (x2).toNatClampNeg)) v_undos v_saved v_isSaved v_line v_lined v_text v_length v_at v_order v_told v_error v_reason v_detail v_answer v_thrown v_mixed v_conflicts v_firstConflict] : List va_W).flatten := hD
        obtain ⟨u7, e8, h⟩ := lt_e h
        rw [← e8] at hP hD
        refine lv_iinc (v := (x2 + nI 1)) (lv' := [(2, .int (x2 + nI 1)), (0, .ref (a 0)), (1, .int x1)]) hx hb dX9_keeps_80 hl (k := 2) rfl rfl (by decide) rfl (fun ls hl => ?_)
        refine lv_goto (tgt := 52) hx hb dX9_keeps_83 (by decide) ?_
        exact ih ((x2 + nI 1)) (u7) (v_undos) H locs ls hP hD hS (lv_sub hl [1, 2, 0] rfl) h
  have L11 : ∀ (n : Nat) (x2 : Int32) (v_kept : AI) (v_undos : Int32) (H : Heap) (locs : List Loc) (ls : Array Slot), va_P E.1 vwCl ([gX9 E a v_now v_tried v_kept v_undos v_saved v_isSaved v_line v_lined v_text v_length v_at v_order v_told v_error v_reason v_detail v_answer v_thrown v_mixed v_conflicts v_firstConflict] : List va_W).flatten H → va_D A ([gX9 E a v_now v_tried v_kept v_undos v_saved v_isSaved v_line v_lined v_text v_length v_at v_order v_told v_error v_reason v_detail v_answer v_thrown v_mixed v_conflicts v_firstConflict] : List va_W).flatten → va_S A s.heap H locs → lv_has ls 3 [(0, .ref (a 0)), (1, .int x1), (2, .int x2)] → f9_keeps_L11 x1 v_tried n x2 v_kept v_undos = some (r, z_this_kept, z_this_undos) → W p l e R s m args below meth c H locs 0 0 Q (F0 m 11 ls []) := by
    intro n
    induction n with
    | zero =>
      intro x2 v_kept v_undos H locs ls hP hD hS hl h
      unfold f9_keeps_L11 at h; cases h
    | succ n ih =>
      intro x2 v_kept v_undos H locs ls hP hD hS hl h
      unfold f9_keeps_L11 at h
      refine lv_iload_n hx hb dX9_keeps_11 rfl (lv_at hl 2 rfl) ?_
      refine lv_sipush (v := (nI 1596)) hx hb dX9_keeps_12 (by decide) ?_
      refine lv_icmp_ge (tgt := 40) hx hb dX9_keeps_15 (by decide) (fun c9 => ?_) (fun c9 => ?_)
      · rw [if_pos c9] at h
        refine lv_aload_n hx hb dX9_keeps_40 rfl (lv_at hl 0 rfl) ?_
        refine lv_dup hx hb dX9_keeps_41 rfl ?_
        refine va_get (D := E.1) (ci := 9) (v := .int v_undos) (C := RX9) (T := TX9) (N := 21) hx hb hts iX9 hown hK hP 0 rfl rfl 3 (by decide) (hts _ q1201) (fun _ h9 => h9) rfl dX9_keeps_42 ?_
        refine lv_iconst (v := (nI 1)) hx hb dX9_keeps_45 (by decide) ?_
        refine lv_isub hx hb dX9_keeps_46 ?_
        refine va_put (D := E.1) (ci := 9) (v := .int (v_undos - (nI 1))) (ty := .int) (C := RX9) (T := TX9) (N := 21) hx hb hts iX9 tyX9 tyX9_ok nmX9 hown hK hP hD hS 0 rfl rfl 3 (by decide) (hts _ q1201) (fun _ h9 => h9) rfl (tyX9_ok 3 (by decide)) rfl rfl (Nat.le_of_ble_eq_true rfl) dX9_keeps_47 (fun H locs hP hD hS => ?_)
        have hP : va_P E.1 vwCl ([gX9 E a v_now v_tried v_kept (v_undos - (nI 1)) v_saved v_isSaved v_line v_lined v_text v_length v_at v_order v_told v_error v_reason v_detail v_answer v_thrown v_mixed v_conflicts v_firstConflict] : List va_W).flatten H := hP
        have hD : va_D A ([gX9 E a v_now v_tried v_kept (v_undos - (nI 1)) v_saved v_isSaved v_line v_lined v_text v_length v_at v_order v_told v_error v_reason v_detail v_answer v_thrown v_mixed v_conflicts v_firstConflict] : List va_W).flatten := hD
        obtain ⟨u10, e11, h⟩ := lt_e h
        rw [← e11] at hP hD
        refine lv_iconst (v := (nI 0)) hx hb dX9_keeps_50 (by decide) ?_
        refine lv_istore_n (lv' := [(2, .int (nI 0)), (0, .ref (a 0)), (1, .int x1)]) hx hb dX9_keeps_51 rfl hl (by decide) rfl (fun ls hl => ?_)
        exact L52 fuel ((nI 0)) (v_kept) (u10) H locs ls hP hD hS (lv_sub hl [1, 2, 0] rfl) h
      · rw [if_neg c9] at h
        refine lv_aload_n hx hb dX9_keeps_18 rfl (lv_at hl 0 rfl) ?_
        refine va_get (D := E.1) (ci := 9) (v := .ref (a 3)) (C := RX9) (T := TX9) (N := 21) hx hb hts iX9 hown hK hP 0 rfl rfl 2 (by decide) (hts _ q1200) (fun _ h9 => h9) rfl dX9_keeps_19 ?_
        refine lv_iload_n hx hb dX9_keeps_22 rfl (lv_at hl 2 rfl) ?_
        refine lv_aload_n hx hb dX9_keeps_23 rfl (lv_at hl 0 rfl) ?_
        refine va_get (D := E.1) (ci := 9) (v := .ref (a 3)) (C := RX9) (T := TX9) (N := 21) hx hb hts iX9 hown hK hP 0 rfl rfl 2 (by decide) (hts _ q1200) (fun _ h9 => h9) rfl dX9_keeps_24 ?_
        refine lv_sipush (v := (nI 228)) hx hb dX9_keeps_27 (by decide) ?_
        refine lv_iload_n hx hb dX9_keeps_30 rfl (lv_at hl 2 rfl) ?_
        refine lv_iadd hx hb dX9_keeps_31 ?_
        obtain ⟨i12, h⟩ := o_t h
        refine va_iald (f := v_kept) hx hb hK hP 3 0 rfl rfl (inb_in i12) dX9_keeps_32 ?_
        obtain ⟨i13, h⟩ := o_t h
        refine va_iast (f := v_kept) hx hb hK hP hD hS 3 0 rfl rfl (inb_in i13) dX9_keeps_33 (fun H locs hP hD hS => ?_)
        have hP : va_P E.1 vwCl ([gX9 E a v_now v_tried (upd v_kept (x2).toNatClampNeg (v_kept (((nI 228) + x2)).toNatClampNeg)) v_undos v_saved v_isSaved v_line v_lined v_text v_length v_at v_order v_told v_error v_reason v_detail v_answer v_thrown v_mixed v_conflicts v_firstConflict] : List va_W).flatten H := hP
        have hD : va_D A ([gX9 E a v_now v_tried (upd v_kept (x2).toNatClampNeg (v_kept (((nI 228) + x2)).toNatClampNeg)) v_undos v_saved v_isSaved v_line v_lined v_text v_length v_at v_order v_told v_error v_reason v_detail v_answer v_thrown v_mixed v_conflicts v_firstConflict] : List va_W).flatten := hD
        obtain ⟨u14, e15, h⟩ := lt_e h
        rw [← e15] at hP hD
        refine lv_iinc (v := (x2 + nI 1)) (lv' := [(2, .int (x2 + nI 1)), (0, .ref (a 0)), (1, .int x1)]) hx hb dX9_keeps_34 hl (k := 2) rfl rfl (by decide) rfl (fun ls hl => ?_)
        refine lv_goto (tgt := 11) hx hb dX9_keeps_37 (by decide) ?_
        exact ih ((x2 + nI 1)) (u14) (v_undos) H locs ls hP hD hS (lv_sub hl [1, 2, 0] rfl) h
  intro H locs hP hS
  refine lv_aload_n hx hb dX9_keeps_0 rfl (lv_at hl 0 rfl) ?_
  refine va_get (D := E.1) (ci := 9) (v := .int v_undos) (C := RX9) (T := TX9) (N := 21) hx hb hts iX9 hown hK hP 0 rfl rfl 3 (by decide) (hts _ q1201) (fun _ h9 => h9) rfl dX9_keeps_1 ?_
  refine lv_bipush (v := (nI 8)) hx hb dX9_keeps_4 (by decide) ?_
  refine lv_icmp_ne (tgt := 50) hx hb dX9_keeps_6 (by decide) (fun c1 => ?_) (fun c1 => ?_)
  · rw [if_neg c1] at h
    refine lv_iconst (v := (nI 0)) hx hb dX9_keeps_50 (by decide) ?_
    refine lv_istore_n (lv' := [(2, .int (nI 0)), (0, .ref (a 0)), (1, .int x1)]) hx hb dX9_keeps_51 rfl hl (by decide) rfl (fun ls hl => ?_)
    exact L52 fuel ((nI 0)) (v_kept) (v_undos) H locs ls hP hD hS (lv_sub hl [1, 2, 0] rfl) h
  · rw [if_pos c1] at h
    refine lv_iconst (v := (nI 0)) hx hb dX9_keeps_9 (by decide) ?_
    refine lv_istore_n (lv' := [(2, .int (nI 0)), (0, .ref (a 0)), (1, .int x1)]) hx hb dX9_keeps_10 rfl hl (by decide) rfl (fun ls hl => ?_)
    exact L11 fuel ((nI 0)) (v_kept) (v_undos) H locs ls hP hD hS (lv_sub hl [1, 2, 0] rfl) h
def f9_does (x1 : Int32) (v_answer : Int32) : Option (Int32 × Int32) := (some ((nI 0), x1))
set_option maxHeartbeats 4000000 in
set_option maxRecDepth 100000 in
theorem c9_does (l : Launch) (E : PE) (a : Nat → Nat)  (x1 : Int32) (v_now : AI) (v_tried : AI) (v_kept : AI) (v_undos : Int32) (v_saved : AI) (v_isSaved : Int32) (v_line : AI) (v_lined : Int32) (v_text : AI) (v_length : Int32) (v_at : Int32) (v_order : Int32) (v_told : AI) (v_error : Int32) (v_reason : Int32) (v_detail : Int32) (v_answer : Int32) (v_thrown : Int32) (v_mixed : AI) (v_conflicts : Int32) (v_firstConflict : Int32) (r : Int32) (z_this_answer : Int32) (h : f9_does x1 v_answer = some (r, z_this_answer)) : MW l yX9_does cX9_does 2 (some .int) { frames := 0, cells := 0, slots := 0, locals := 0 } E [.ref (a 0), .int x1] ([gX9 E a v_now v_tried v_kept v_undos v_saved v_isSaved v_line v_lined v_text v_length v_at v_order v_told v_error v_reason v_detail v_answer v_thrown v_mixed v_conflicts v_firstConflict] : List va_W).flatten 0 0 (some (.int r)) ([gX9 E a v_now v_tried v_kept v_undos v_saved v_isSaved v_line v_lined v_text v_length v_at v_order v_told v_error v_reason v_detail z_this_answer v_thrown v_mixed v_conflicts v_firstConflict] : List va_W).flatten := by
  refine px_startW (by decide +kernel) (Nat.le_of_ble_eq_true rfl) ?_
  intro p e s m args below meth c R Q A ls hC hA0 hQ
  obtain ⟨hx, hb, hr, hml, hts, hown, hlocks, hR, hK, hN, hP, hD, hA, hl, hin⟩ := hC
  have hl : lv_has ls 2 [(0, .ref (a 0)), (1, .int x1)] := hl
  suffices key : ∀ (H : Heap) (locs : List Loc), va_P E.1 vwCl ([gX9 E a v_now v_tried v_kept v_undos v_saved v_isSaved v_line v_lined v_text v_length v_at v_order v_told v_error v_reason v_detail v_answer v_thrown v_mixed v_conflicts v_firstConflict] : List va_W).flatten H → va_S A s.heap H locs → W p l e R s m args below meth c H locs 0 0 Q (F0 m 0 ls []) from key s.heap [] hP va_S.rf
  unfold f9_does at h
  intro H locs hP hS
  refine lv_aload_n hx hb dX9_does_0 rfl (lv_at hl 0 rfl) ?_
  refine lv_iload_n hx hb dX9_does_1 rfl (lv_at hl 1 rfl) ?_
  refine va_put (D := E.1) (ci := 9) (v := .int x1) (ty := .int) (C := RX9) (T := TX9) (N := 21) hx hb hts iX9 tyX9 tyX9_ok nmX9 hown hK hP hD hS 0 rfl rfl 16 (by decide) (hts _ q1214) (fun _ h9 => h9) rfl (tyX9_ok 16 (by decide)) rfl rfl (Nat.le_of_ble_eq_true rfl) dX9_does_2 (fun H locs hP hD hS => ?_)
  have hP : va_P E.1 vwCl ([gX9 E a v_now v_tried v_kept v_undos v_saved v_isSaved v_line v_lined v_text v_length v_at v_order v_told v_error v_reason v_detail x1 v_thrown v_mixed v_conflicts v_firstConflict] : List va_W).flatten H := hP
  have hD : va_D A ([gX9 E a v_now v_tried v_kept v_undos v_saved v_isSaved v_line v_lined v_text v_length v_at v_order v_told v_error v_reason v_detail x1 v_thrown v_mixed v_conflicts v_firstConflict] : List va_W).flatten := hD
  refine lv_iconst (v := (nI 0)) hx hb dX9_does_5 (by decide) ?_
  cases h
  exact px_eWi hA0 hQ hP hD hS hx hb hr hlocks dX9_does_6
def f9_refuses (x1 : Int32) (x2 : Int32) (v_reason : Int32) (v_detail : Int32) : Option (Int32 × Int32 × Int32) := (some ((nI 3), x1, x2))
set_option maxHeartbeats 4000000 in
set_option maxRecDepth 100000 in
theorem c9_refuses (l : Launch) (E : PE) (a : Nat → Nat)  (x1 : Int32) (x2 : Int32) (v_now : AI) (v_tried : AI) (v_kept : AI) (v_undos : Int32) (v_saved : AI) (v_isSaved : Int32) (v_line : AI) (v_lined : Int32) (v_text : AI) (v_length : Int32) (v_at : Int32) (v_order : Int32) (v_told : AI) (v_error : Int32) (v_reason : Int32) (v_detail : Int32) (v_answer : Int32) (v_thrown : Int32) (v_mixed : AI) (v_conflicts : Int32) (v_firstConflict : Int32) (r : Int32) (z_this_reason : Int32) (z_this_detail : Int32) (h : f9_refuses x1 x2 v_reason v_detail = some (r, z_this_reason, z_this_detail)) : MW l yX9_refuses cX9_refuses 3 (some .int) { frames := 0, cells := 0, slots := 0, locals := 0 } E [.ref (a 0), .int x1, .int x2] ([gX9 E a v_now v_tried v_kept v_undos v_saved v_isSaved v_line v_lined v_text v_length v_at v_order v_told v_error v_reason v_detail v_answer v_thrown v_mixed v_conflicts v_firstConflict] : List va_W).flatten 0 0 (some (.int r)) ([gX9 E a v_now v_tried v_kept v_undos v_saved v_isSaved v_line v_lined v_text v_length v_at v_order v_told v_error z_this_reason z_this_detail v_answer v_thrown v_mixed v_conflicts v_firstConflict] : List va_W).flatten := by
  refine px_startW (by decide +kernel) (Nat.le_of_ble_eq_true rfl) ?_
  intro p e s m args below meth c R Q A ls hC hA0 hQ
  obtain ⟨hx, hb, hr, hml, hts, hown, hlocks, hR, hK, hN, hP, hD, hA, hl, hin⟩ := hC
  have hl : lv_has ls 3 [(0, .ref (a 0)), (1, .int x1), (2, .int x2)] := hl
  suffices key : ∀ (H : Heap) (locs : List Loc), va_P E.1 vwCl ([gX9 E a v_now v_tried v_kept v_undos v_saved v_isSaved v_line v_lined v_text v_length v_at v_order v_told v_error v_reason v_detail v_answer v_thrown v_mixed v_conflicts v_firstConflict] : List va_W).flatten H → va_S A s.heap H locs → W p l e R s m args below meth c H locs 0 0 Q (F0 m 0 ls []) from key s.heap [] hP va_S.rf
  unfold f9_refuses at h
  intro H locs hP hS
  refine lv_aload_n hx hb dX9_refuses_0 rfl (lv_at hl 0 rfl) ?_
  refine lv_iload_n hx hb dX9_refuses_1 rfl (lv_at hl 1 rfl) ?_
  refine va_put (D := E.1) (ci := 9) (v := .int x1) (ty := .int) (C := RX9) (T := TX9) (N := 21) hx hb hts iX9 tyX9 tyX9_ok nmX9 hown hK hP hD hS 0 rfl rfl 14 (by decide) (hts _ q1212) (fun _ h9 => h9) rfl (tyX9_ok 14 (by decide)) rfl rfl (Nat.le_of_ble_eq_true rfl) dX9_refuses_2 (fun H locs hP hD hS => ?_)
  have hP : va_P E.1 vwCl ([gX9 E a v_now v_tried v_kept v_undos v_saved v_isSaved v_line v_lined v_text v_length v_at v_order v_told v_error x1 v_detail v_answer v_thrown v_mixed v_conflicts v_firstConflict] : List va_W).flatten H := hP
  have hD : va_D A ([gX9 E a v_now v_tried v_kept v_undos v_saved v_isSaved v_line v_lined v_text v_length v_at v_order v_told v_error x1 v_detail v_answer v_thrown v_mixed v_conflicts v_firstConflict] : List va_W).flatten := hD
  refine lv_aload_n hx hb dX9_refuses_5 rfl (lv_at hl 0 rfl) ?_
  refine lv_iload_n hx hb dX9_refuses_6 rfl (lv_at hl 2 rfl) ?_
  refine va_put (D := E.1) (ci := 9) (v := .int x2) (ty := .int) (C := RX9) (T := TX9) (N := 21) hx hb hts iX9 tyX9 tyX9_ok nmX9 hown hK hP hD hS 0 rfl rfl 15 (by decide) (hts _ q1213) (fun _ h9 => h9) rfl (tyX9_ok 15 (by decide)) rfl rfl (Nat.le_of_ble_eq_true rfl) dX9_refuses_7 (fun H locs hP hD hS => ?_)
  have hP : va_P E.1 vwCl ([gX9 E a v_now v_tried v_kept v_undos v_saved v_isSaved v_line v_lined v_text v_length v_at v_order v_told v_error x1 x2 v_answer v_thrown v_mixed v_conflicts v_firstConflict] : List va_W).flatten H := hP
  have hD : va_D A ([gX9 E a v_now v_tried v_kept v_undos v_saved v_isSaved v_line v_lined v_text v_length v_at v_order v_told v_error x1 x2 v_answer v_thrown v_mixed v_conflicts v_firstConflict] : List va_W).flatten := hD
  refine lv_iconst (v := (nI 3)) hx hb dX9_refuses_10 (by decide) ?_
  cases h
  exact px_eWi hA0 hQ hP hD hS hx hb hr hlocks dX9_refuses_11
def f9_ends (x1 : Int32) (v_tried : AI) (v_kept : AI) (v_undos : Int32) (v_answer : Int32) (v_thrown : Int32) : Option (Int32 × AI × Int32 × Int32) := (if x1 = 0 then ((f9_keeps (v_answer) (v_tried) (v_kept) (v_undos)).bind fun (r5, w6, w7) => (some (r5, w6, w7, v_thrown))) else ((f9_raises (x1) (v_thrown)).bind fun (r2, w3) => (some (r2, v_kept, v_undos, w3))))
set_option maxHeartbeats 4000000 in
set_option maxRecDepth 100000 in
theorem c9_ends (l : Launch) (E : PE) (a : Nat → Nat)  (x1 : Int32) (v_now : AI) (v_tried : AI) (v_kept : AI) (v_undos : Int32) (v_saved : AI) (v_isSaved : Int32) (v_line : AI) (v_lined : Int32) (v_text : AI) (v_length : Int32) (v_at : Int32) (v_order : Int32) (v_told : AI) (v_error : Int32) (v_reason : Int32) (v_detail : Int32) (v_answer : Int32) (v_thrown : Int32) (v_mixed : AI) (v_conflicts : Int32) (v_firstConflict : Int32) (r : Int32) (z_this_kept : AI) (z_this_undos : Int32) (z_this_thrown : Int32) (h : f9_ends x1 v_tried v_kept v_undos v_answer v_thrown = some (r, z_this_kept, z_this_undos, z_this_thrown)) : MW l yX9_ends cX9_ends 2 (some .int) { frames := 1, cells := 0, slots := 0, locals := 22 } E [.ref (a 0), .int x1] ([gX9 E a v_now v_tried v_kept v_undos v_saved v_isSaved v_line v_lined v_text v_length v_at v_order v_told v_error v_reason v_detail v_answer v_thrown v_mixed v_conflicts v_firstConflict] : List va_W).flatten 0 0 (some (.int r)) ([gX9 E a v_now v_tried z_this_kept z_this_undos v_saved v_isSaved v_line v_lined v_text v_length v_at v_order v_told v_error v_reason v_detail v_answer z_this_thrown v_mixed v_conflicts v_firstConflict] : List va_W).flatten := by
  refine px_startW (by decide +kernel) (Nat.le_of_ble_eq_true rfl) ?_
  intro p e s m args below meth c R Q A ls hC hA0 hQ
  obtain ⟨hx, hb, hr, hml, hts, hown, hlocks, hR, hK, hN, hP, hD, hA, hl, hin⟩ := hC
  have hl : lv_has ls 2 [(0, .ref (a 0)), (1, .int x1)] := hl
  suffices key : ∀ (H : Heap) (locs : List Loc), va_P E.1 vwCl ([gX9 E a v_now v_tried v_kept v_undos v_saved v_isSaved v_line v_lined v_text v_length v_at v_order v_told v_error v_reason v_detail v_answer v_thrown v_mixed v_conflicts v_firstConflict] : List va_W).flatten H → va_S A s.heap H locs → W p l e R s m args below meth c H locs 0 0 Q (F0 m 0 ls []) from key s.heap [] hP va_S.rf
  unfold f9_ends at h
  intro H locs hP hS
  refine lv_iload_n hx hb dX9_ends_0 rfl (lv_at hl 1 rfl) ?_
  refine lv_if_ne (tgt := 15) hx hb dX9_ends_1 (by decide) (fun c1 => ?_) (fun c1 => ?_)
  · rw [if_neg c1] at h
    refine lv_aload_n hx hb dX9_ends_15 rfl (lv_at hl 0 rfl) ?_
    refine lv_iload_n hx hb dX9_ends_16 rfl (lv_at hl 1 rfl) ?_
    obtain ⟨⟨r2, w3⟩, hr4, h⟩ := ob h
    dsimp only at h
    refine px_V (As := [.int x1]) (rest := []) (gs := ([gX9 E a v_now v_tried v_kept v_undos v_saved v_isSaved v_line v_lined v_text v_length v_at v_order v_told v_error v_reason v_detail v_answer v_thrown v_mixed v_conflicts v_firstConflict] : List va_W)) (gr := ([] : List va_W)) (gc := ([gX9 E a v_now v_tried v_kept v_undos v_saved v_isSaved v_line v_lined v_text v_length v_at v_order v_told v_error v_reason v_detail v_answer v_thrown v_mixed v_conflicts v_firstConflict] : List va_W)) (g1 := ([gX9 E a v_now v_tried v_kept v_undos v_saved v_isSaved v_line v_lined v_text v_length v_at v_order v_told v_error v_reason v_detail v_answer w3 v_mixed v_conflicts v_firstConflict] : List va_W)) (g2 := ([gX9 E a v_now v_tried v_kept v_undos v_saved v_isSaved v_line v_lined v_text v_length v_at v_order v_told v_error v_reason v_detail v_answer w3 v_mixed v_conflicts v_firstConflict] : List va_W)) ⟨hx, hb, hml, hown, hts⟩ (c9_raises l E a  (x1) (v_now) (v_tried) (v_kept) (v_undos) (v_saved) (v_isSaved) (v_line) (v_lined) (v_text) (v_length) (v_at) (v_order) (v_told) (v_error) (v_reason) (v_detail) (v_answer) (v_thrown) (v_mixed) (v_conflicts) (v_firstConflict) r2 w3 hr4) (cwV 1 hts (ws_v q1320 q1322 q28 q68 q1323) rfl rfl rfl hdV_X9_raises (by rw [hR]; exact ⟨Nat.le_of_ble_eq_true rfl, Nat.le_of_ble_eq_true rfl⟩)) hK hN hP hD hS hA [] [0] [0] rfl rfl (by decide) (by decide) rfl (by decide) 0 9 rfl rfl rfl rfl hl.1 rfl (Nat.le_of_ble_eq_true rfl) dX9_ends_17 (by rw [hR]; exact ⟨Nat.le_of_ble_eq_true rfl, Nat.le_of_ble_eq_true rfl⟩) (fun H locs hP hD hS => ?_)
    refine W.eq (g2 := F0 m 20 ls [.int r2]) rfl ?_
    cases h
    exact px_eWi hA0 hQ hP hD hS hx hb hr hlocks dX9_ends_20
  · rw [if_pos c1] at h
    refine lv_aload_n hx hb dX9_ends_4 rfl (lv_at hl 0 rfl) ?_
    refine lv_aload_n hx hb dX9_ends_5 rfl (lv_at hl 0 rfl) ?_
    refine va_get (D := E.1) (ci := 9) (v := .int v_answer) (C := RX9) (T := TX9) (N := 21) hx hb hts iX9 hown hK hP 0 rfl rfl 16 (by decide) (hts _ q1214) (fun _ h9 => h9) rfl dX9_ends_6 ?_
    obtain ⟨⟨r5, w6, w7⟩, hr8, h⟩ := ob h
    dsimp only at h
    refine px_V (As := [.int v_answer]) (rest := []) (gs := ([gX9 E a v_now v_tried v_kept v_undos v_saved v_isSaved v_line v_lined v_text v_length v_at v_order v_told v_error v_reason v_detail v_answer v_thrown v_mixed v_conflicts v_firstConflict] : List va_W)) (gr := ([] : List va_W)) (gc := ([gX9 E a v_now v_tried v_kept v_undos v_saved v_isSaved v_line v_lined v_text v_length v_at v_order v_told v_error v_reason v_detail v_answer v_thrown v_mixed v_conflicts v_firstConflict] : List va_W)) (g1 := ([gX9 E a v_now v_tried w6 w7 v_saved v_isSaved v_line v_lined v_text v_length v_at v_order v_told v_error v_reason v_detail v_answer v_thrown v_mixed v_conflicts v_firstConflict] : List va_W)) (g2 := ([gX9 E a v_now v_tried w6 w7 v_saved v_isSaved v_line v_lined v_text v_length v_at v_order v_told v_error v_reason v_detail v_answer v_thrown v_mixed v_conflicts v_firstConflict] : List va_W)) ⟨hx, hb, hml, hown, hts⟩ (c9_keeps l E a  (v_answer) (v_now) (v_tried) (v_kept) (v_undos) (v_saved) (v_isSaved) (v_line) (v_lined) (v_text) (v_length) (v_at) (v_order) (v_told) (v_error) (v_reason) (v_detail) (v_answer) (v_thrown) (v_mixed) (v_conflicts) (v_firstConflict) r5 w6 w7 hr8) (cwV 1 hts (ws_v q1316 q1318 q27 q68 q1319) rfl rfl rfl hdV_X9_keeps (by rw [hR]; exact ⟨Nat.le_of_ble_eq_true rfl, Nat.le_of_ble_eq_true rfl⟩)) hK hN hP hD hS hA [] [0] [0] rfl rfl (by decide) (by decide) rfl (by decide) 0 9 rfl rfl rfl rfl hl.1 rfl (Nat.le_of_ble_eq_true rfl) dX9_ends_9 (by rw [hR]; exact ⟨Nat.le_of_ble_eq_true rfl, Nat.le_of_ble_eq_true rfl⟩) (fun H locs hP hD hS => ?_)
    refine W.eq (g2 := F0 m 12 ls [.int r5]) rfl ?_
    refine lv_goto (tgt := 20) hx hb dX9_ends_12 (by decide) ?_
    cases h
    exact px_eWi hA0 hQ hP hD hS hx hb hr hlocks dX9_ends_20
def f9_isBranch (x1 : Int32) (v_now : AI) : Option (Bool) := ((f9_in (x1) ((nI 0)) (((v_now ((nI 1)).toNatClampNeg) - (nI 1)))).bind fun r1 => (some r1))
set_option maxHeartbeats 4000000 in
set_option maxRecDepth 100000 in
theorem c9_isBranch (l : Launch) (E : PE) (a : Nat → Nat)  (x1 : Int32) (v_now : AI) (v_tried : AI) (v_kept : AI) (v_undos : Int32) (v_saved : AI) (v_isSaved : Int32) (v_line : AI) (v_lined : Int32) (v_text : AI) (v_length : Int32) (v_at : Int32) (v_order : Int32) (v_told : AI) (v_error : Int32) (v_reason : Int32) (v_detail : Int32) (v_answer : Int32) (v_thrown : Int32) (v_mixed : AI) (v_conflicts : Int32) (v_firstConflict : Int32) (r : Bool) (h : f9_isBranch x1 v_now = some r) : MP l yX9_isBranch cX9_isBranch 2 (some .boolean) { frames := 1, cells := 0, slots := 0, locals := 22 } E [.ref (a 0), .int x1] ([gX9 E a v_now v_tried v_kept v_undos v_saved v_isSaved v_line v_lined v_text v_length v_at v_order v_told v_error v_reason v_detail v_answer v_thrown v_mixed v_conflicts v_firstConflict] : List va_W).flatten (some (.int (b2i r))) := by
  refine px_startP (by decide +kernel) (Nat.le_of_ble_eq_true rfl) ?_
  intro p e s m args below meth c R Q A ls hC hQ
  obtain ⟨hx, hb, hr, hml, hts, hown, hlocks, hR, hK, hN, hP, hD, hA, hl, hin⟩ := hC
  have hl : lv_has ls 2 [(0, .ref (a 0)), (1, .int x1)] := hl
  unfold f9_isBranch at h
  refine lv_iload_n hx hb dX9_isBranch_0 rfl (lv_at hl 1 rfl) ?_
  refine lv_iconst (v := (nI 0)) hx hb dX9_isBranch_1 (by decide) ?_
  refine lv_aload_n hx hb dX9_isBranch_2 rfl (lv_at hl 0 rfl) ?_
  refine va_get (D := E.1) (ci := 9) (v := .ref (a 1)) (C := RX9) (T := TX9) (N := 21) hx hb hts iX9 hown hK hP 0 rfl rfl 0 (by decide) (hts _ q1198) (fun _ h9 => h9) rfl dX9_isBranch_3 ?_
  refine lv_iconst (v := (nI 1)) hx hb dX9_isBranch_6 (by decide) ?_
  refine va_iald (f := v_now) hx hb hK hP 1 0 rfl rfl (inb_in (i := (nI 1)) (n := 228) (by decide)) dX9_isBranch_7 ?_
  refine lv_iconst (v := (nI 1)) hx hb dX9_isBranch_8 (by decide) ?_
  refine lv_isub hx hb dX9_isBranch_9 ?_
  obtain ⟨r1, hr2, h⟩ := ob h
  refine px_Sp (As := [.int x1, .int (nI 0), .int ((v_now ((nI 1)).toNatClampNeg) - (nI 1))]) (rest := []) (gs := ([gX9 E a v_now v_tried v_kept v_undos v_saved v_isSaved v_line v_lined v_text v_length v_at v_order v_told v_error v_reason v_detail v_answer v_thrown v_mixed v_conflicts v_firstConflict] : List va_W)) (gc := ([] : List va_W)) ⟨hx, hb, hml, hown, hts⟩ (c9_in l E   (x1) ((nI 0)) (((v_now ((nI 1)).toNatClampNeg) - (nI 1)))  r1 hr2) (va_cwS 3 hts (ws_s q1282 q1283 q68 q1284) rfl rfl rfl hdS_X9_in (by rw [hR]; exact ⟨Nat.le_of_ble_eq_true rfl, Nat.le_of_ble_eq_true rfl⟩)) hK hN hP hD [] rfl (by decide) rfl hl.1 rfl (Nat.le_of_ble_eq_true rfl) dX9_isBranch_10 (by rw [hR]; exact ⟨Nat.le_of_ble_eq_true rfl, Nat.le_of_ble_eq_true rfl⟩) ?_
  refine W.eq (g2 := F0 m 13 ls [.int (b2i r1)]) rfl ?_
  cases h
  exact px_ePz (b2i_n _) hQ hx hb hr hlocks dX9_isBranch_13
def f9_isCommit (x1 : Int32) (v_now : AI) : Option (Bool) := ((f9_in (x1) ((nI 0)) (((v_now ((nI 0)).toNatClampNeg) - (nI 1)))).bind fun r1 => (some r1))
set_option maxHeartbeats 4000000 in
set_option maxRecDepth 100000 in
theorem c9_isCommit (l : Launch) (E : PE) (a : Nat → Nat)  (x1 : Int32) (v_now : AI) (v_tried : AI) (v_kept : AI) (v_undos : Int32) (v_saved : AI) (v_isSaved : Int32) (v_line : AI) (v_lined : Int32) (v_text : AI) (v_length : Int32) (v_at : Int32) (v_order : Int32) (v_told : AI) (v_error : Int32) (v_reason : Int32) (v_detail : Int32) (v_answer : Int32) (v_thrown : Int32) (v_mixed : AI) (v_conflicts : Int32) (v_firstConflict : Int32) (r : Bool) (h : f9_isCommit x1 v_now = some r) : MP l yX9_isCommit cX9_isCommit 2 (some .boolean) { frames := 1, cells := 0, slots := 0, locals := 22 } E [.ref (a 0), .int x1] ([gX9 E a v_now v_tried v_kept v_undos v_saved v_isSaved v_line v_lined v_text v_length v_at v_order v_told v_error v_reason v_detail v_answer v_thrown v_mixed v_conflicts v_firstConflict] : List va_W).flatten (some (.int (b2i r))) := by
  refine px_startP (by decide +kernel) (Nat.le_of_ble_eq_true rfl) ?_
  intro p e s m args below meth c R Q A ls hC hQ
  obtain ⟨hx, hb, hr, hml, hts, hown, hlocks, hR, hK, hN, hP, hD, hA, hl, hin⟩ := hC
  have hl : lv_has ls 2 [(0, .ref (a 0)), (1, .int x1)] := hl
  unfold f9_isCommit at h
  refine lv_iload_n hx hb dX9_isCommit_0 rfl (lv_at hl 1 rfl) ?_
  refine lv_iconst (v := (nI 0)) hx hb dX9_isCommit_1 (by decide) ?_
  refine lv_aload_n hx hb dX9_isCommit_2 rfl (lv_at hl 0 rfl) ?_
  refine va_get (D := E.1) (ci := 9) (v := .ref (a 1)) (C := RX9) (T := TX9) (N := 21) hx hb hts iX9 hown hK hP 0 rfl rfl 0 (by decide) (hts _ q1198) (fun _ h9 => h9) rfl dX9_isCommit_3 ?_
  refine lv_iconst (v := (nI 0)) hx hb dX9_isCommit_6 (by decide) ?_
  refine va_iald (f := v_now) hx hb hK hP 1 0 rfl rfl (inb_in (i := (nI 0)) (n := 228) (by decide)) dX9_isCommit_7 ?_
  refine lv_iconst (v := (nI 1)) hx hb dX9_isCommit_8 (by decide) ?_
  refine lv_isub hx hb dX9_isCommit_9 ?_
  obtain ⟨r1, hr2, h⟩ := ob h
  refine px_Sp (As := [.int x1, .int (nI 0), .int ((v_now ((nI 0)).toNatClampNeg) - (nI 1))]) (rest := []) (gs := ([gX9 E a v_now v_tried v_kept v_undos v_saved v_isSaved v_line v_lined v_text v_length v_at v_order v_told v_error v_reason v_detail v_answer v_thrown v_mixed v_conflicts v_firstConflict] : List va_W)) (gc := ([] : List va_W)) ⟨hx, hb, hml, hown, hts⟩ (c9_in l E   (x1) ((nI 0)) (((v_now ((nI 0)).toNatClampNeg) - (nI 1)))  r1 hr2) (va_cwS 3 hts (ws_s q1282 q1283 q68 q1284) rfl rfl rfl hdS_X9_in (by rw [hR]; exact ⟨Nat.le_of_ble_eq_true rfl, Nat.le_of_ble_eq_true rfl⟩)) hK hN hP hD [] rfl (by decide) rfl hl.1 rfl (Nat.le_of_ble_eq_true rfl) dX9_isCommit_10 (by rw [hR]; exact ⟨Nat.le_of_ble_eq_true rfl, Nat.le_of_ble_eq_true rfl⟩) ?_
  refine W.eq (g2 := F0 m 13 ls [.int (b2i r1)]) rfl ?_
  cases h
  exact px_ePz (b2i_n _) hQ hx hb hr hlocks dX9_isCommit_13
def f9_isKind (x0 : Int32)  : Option (Bool) := ((f9_in (x0) ((nI 0)) ((nI 5))).bind fun r1 => (some r1))
set_option maxHeartbeats 4000000 in
set_option maxRecDepth 100000 in
theorem c9_isKind (l : Launch) (E : PE)   (x0 : Int32)  (r : Bool) (h : f9_isKind x0 = some r) : MP l yX9_isKind cX9_isKind 1 (some .boolean) { frames := 1, cells := 0, slots := 0, locals := 22 } E [.int x0] ([] : List va_W).flatten (some (.int (b2i r))) := by
  refine px_startP (by decide +kernel) (Nat.le_of_ble_eq_true rfl) ?_
  intro p e s m args below meth c R Q A ls hC hQ
  obtain ⟨hx, hb, hr, hml, hts, hown, hlocks, hR, hK, hN, hP, hD, hA, hl, hin⟩ := hC
  have hl : lv_has ls 1 [(0, .int x0)] := hl
  unfold f9_isKind at h
  refine lv_iload_n hx hb dX9_isKind_0 rfl (lv_at hl 0 rfl) ?_
  refine lv_iconst (v := (nI 0)) hx hb dX9_isKind_1 (by decide) ?_
  refine lv_iconst (v := (nI 5)) hx hb dX9_isKind_2 (by decide) ?_
  obtain ⟨r1, hr2, h⟩ := ob h
  refine px_Sp (As := [.int x0, .int (nI 0), .int (nI 5)]) (rest := []) (gs := ([] : List va_W)) (gc := ([] : List va_W)) ⟨hx, hb, hml, hown, hts⟩ (c9_in l E   (x0) ((nI 0)) ((nI 5))  r1 hr2) (va_cwS 3 hts (ws_s q1282 q1283 q68 q1284) rfl rfl rfl hdS_X9_in (by rw [hR]; exact ⟨Nat.le_of_ble_eq_true rfl, Nat.le_of_ble_eq_true rfl⟩)) hK hN hP hD [] rfl (by decide) rfl hl.1 rfl (Nat.le_of_ble_eq_true rfl) dX9_isKind_3 (by rw [hR]; exact ⟨Nat.le_of_ble_eq_true rfl, Nat.le_of_ble_eq_true rfl⟩) ?_
  refine W.eq (g2 := F0 m 6 ls [.int (b2i r1)]) rfl ?_
  cases h
  exact px_ePz (b2i_n _) hQ hx hb hr hlocks dX9_isKind_6
def f9_of (x1 : Int32) (x2 : Int32) (v_now : AI) : Option (Int32) := (if inb (((nI 12) + ((nI 9) * x1)) + x2) 228 = true then (some (v_now ((((nI 12) + ((nI 9) * x1)) + x2)).toNatClampNeg)) else none)
set_option maxHeartbeats 4000000 in
set_option maxRecDepth 100000 in
theorem c9_of (l : Launch) (E : PE) (a : Nat → Nat)  (x1 : Int32) (x2 : Int32) (v_now : AI) (v_tried : AI) (v_kept : AI) (v_undos : Int32) (v_saved : AI) (v_isSaved : Int32) (v_line : AI) (v_lined : Int32) (v_text : AI) (v_length : Int32) (v_at : Int32) (v_order : Int32) (v_told : AI) (v_error : Int32) (v_reason : Int32) (v_detail : Int32) (v_answer : Int32) (v_thrown : Int32) (v_mixed : AI) (v_conflicts : Int32) (v_firstConflict : Int32) (r : Int32) (h : f9_of x1 x2 v_now = some r) : MP l yX9_of cX9_of 3 (some .int) { frames := 0, cells := 0, slots := 0, locals := 0 } E [.ref (a 0), .int x1, .int x2] ([gX9 E a v_now v_tried v_kept v_undos v_saved v_isSaved v_line v_lined v_text v_length v_at v_order v_told v_error v_reason v_detail v_answer v_thrown v_mixed v_conflicts v_firstConflict] : List va_W).flatten (some (.int r)) := by
  refine px_startP (by decide +kernel) (Nat.le_of_ble_eq_true rfl) ?_
  intro p e s m args below meth c R Q A ls hC hQ
  obtain ⟨hx, hb, hr, hml, hts, hown, hlocks, hR, hK, hN, hP, hD, hA, hl, hin⟩ := hC
  have hl : lv_has ls 3 [(0, .ref (a 0)), (1, .int x1), (2, .int x2)] := hl
  unfold f9_of at h
  refine lv_aload_n hx hb dX9_of_0 rfl (lv_at hl 0 rfl) ?_
  refine va_get (D := E.1) (ci := 9) (v := .ref (a 1)) (C := RX9) (T := TX9) (N := 21) hx hb hts iX9 hown hK hP 0 rfl rfl 0 (by decide) (hts _ q1198) (fun _ h9 => h9) rfl dX9_of_1 ?_
  refine lv_bipush (v := (nI 12)) hx hb dX9_of_4 (by decide) ?_
  refine lv_bipush (v := (nI 9)) hx hb dX9_of_6 (by decide) ?_
  refine lv_iload_n hx hb dX9_of_8 rfl (lv_at hl 1 rfl) ?_
  refine lv_imul hx hb dX9_of_9 ?_
  refine lv_iadd hx hb dX9_of_10 ?_
  refine lv_iload_n hx hb dX9_of_11 rfl (lv_at hl 2 rfl) ?_
  refine lv_iadd hx hb dX9_of_12 ?_
  obtain ⟨i1, h⟩ := o_t h
  refine va_iald (f := v_now) hx hb hK hP 1 0 rfl rfl (inb_in i1) dX9_of_13 ?_
  cases h
  exact px_ePi hQ hx hb hr hlocks dX9_of_14
def f9_has (x1 : Int32) (x2 : Int32) (v_now : AI) : Option (Int32) := ((f9_of (x1) (((nI 3) + x2)) (v_now)).bind fun r1 => (some r1))
set_option maxHeartbeats 4000000 in
set_option maxRecDepth 100000 in
theorem c9_has (l : Launch) (E : PE) (a : Nat → Nat)  (x1 : Int32) (x2 : Int32) (v_now : AI) (v_tried : AI) (v_kept : AI) (v_undos : Int32) (v_saved : AI) (v_isSaved : Int32) (v_line : AI) (v_lined : Int32) (v_text : AI) (v_length : Int32) (v_at : Int32) (v_order : Int32) (v_told : AI) (v_error : Int32) (v_reason : Int32) (v_detail : Int32) (v_answer : Int32) (v_thrown : Int32) (v_mixed : AI) (v_conflicts : Int32) (v_firstConflict : Int32) (r : Int32) (h : f9_has x1 x2 v_now = some r) : MP l yX9_has cX9_has 3 (some .int) { frames := 1, cells := 0, slots := 0, locals := 22 } E [.ref (a 0), .int x1, .int x2] ([gX9 E a v_now v_tried v_kept v_undos v_saved v_isSaved v_line v_lined v_text v_length v_at v_order v_told v_error v_reason v_detail v_answer v_thrown v_mixed v_conflicts v_firstConflict] : List va_W).flatten (some (.int r)) := by
  refine px_startP (by decide +kernel) (Nat.le_of_ble_eq_true rfl) ?_
  intro p e s m args below meth c R Q A ls hC hQ
  obtain ⟨hx, hb, hr, hml, hts, hown, hlocks, hR, hK, hN, hP, hD, hA, hl, hin⟩ := hC
  have hl : lv_has ls 3 [(0, .ref (a 0)), (1, .int x1), (2, .int x2)] := hl
  unfold f9_has at h
  refine lv_aload_n hx hb dX9_has_0 rfl (lv_at hl 0 rfl) ?_
  refine lv_iload_n hx hb dX9_has_1 rfl (lv_at hl 1 rfl) ?_
  refine lv_iconst (v := (nI 3)) hx hb dX9_has_2 (by decide) ?_
  refine lv_iload_n hx hb dX9_has_3 rfl (lv_at hl 2 rfl) ?_
  refine lv_iadd hx hb dX9_has_4 ?_
  obtain ⟨r1, hr2, h⟩ := ob h
  refine px_Vp (As := [.int x1, .int ((nI 3) + x2)]) (rest := []) (gs := ([gX9 E a v_now v_tried v_kept v_undos v_saved v_isSaved v_line v_lined v_text v_length v_at v_order v_told v_error v_reason v_detail v_answer v_thrown v_mixed v_conflicts v_firstConflict] : List va_W)) (gc := ([gX9 E a v_now v_tried v_kept v_undos v_saved v_isSaved v_line v_lined v_text v_length v_at v_order v_told v_error v_reason v_detail v_answer v_thrown v_mixed v_conflicts v_firstConflict] : List va_W)) ⟨hx, hb, hml, hown, hts⟩ (c9_of l E a  (x1) (((nI 3) + x2)) (v_now) (v_tried) (v_kept) (v_undos) (v_saved) (v_isSaved) (v_line) (v_lined) (v_text) (v_length) (v_at) (v_order) (v_told) (v_error) (v_reason) (v_detail) (v_answer) (v_thrown) (v_mixed) (v_conflicts) (v_firstConflict) r1 hr2) (cwV 2 hts (ws_v q1296 q1298 q22 q68 q1299) rfl rfl rfl hdV_X9_of (by rw [hR]; exact ⟨Nat.le_of_ble_eq_true rfl, Nat.le_of_ble_eq_true rfl⟩)) hK hN hP hD [0] rfl (by decide) 0 9 rfl rfl rfl rfl hl.1 rfl (Nat.le_of_ble_eq_true rfl) dX9_has_5 (by rw [hR]; exact ⟨Nat.le_of_ble_eq_true rfl, Nat.le_of_ble_eq_true rfl⟩) ?_
  refine W.eq (g2 := F0 m 8 ls [.int r1]) rfl ?_
  cases h
  exact px_ePi hQ hx hb hr hlocks dX9_has_8
def f9_top (x1 : Int32) (v_now : AI) : Option (Int32) := (if inb ((nI 7) + x1) 228 = true then (some (v_now (((nI 7) + x1)).toNatClampNeg)) else none)
set_option maxHeartbeats 4000000 in
set_option maxRecDepth 100000 in
theorem c9_top (l : Launch) (E : PE) (a : Nat → Nat)  (x1 : Int32) (v_now : AI) (v_tried : AI) (v_kept : AI) (v_undos : Int32) (v_saved : AI) (v_isSaved : Int32) (v_line : AI) (v_lined : Int32) (v_text : AI) (v_length : Int32) (v_at : Int32) (v_order : Int32) (v_told : AI) (v_error : Int32) (v_reason : Int32) (v_detail : Int32) (v_answer : Int32) (v_thrown : Int32) (v_mixed : AI) (v_conflicts : Int32) (v_firstConflict : Int32) (r : Int32) (h : f9_top x1 v_now = some r) : MP l yX9_top cX9_top 2 (some .int) { frames := 0, cells := 0, slots := 0, locals := 0 } E [.ref (a 0), .int x1] ([gX9 E a v_now v_tried v_kept v_undos v_saved v_isSaved v_line v_lined v_text v_length v_at v_order v_told v_error v_reason v_detail v_answer v_thrown v_mixed v_conflicts v_firstConflict] : List va_W).flatten (some (.int r)) := by
  refine px_startP (by decide +kernel) (Nat.le_of_ble_eq_true rfl) ?_
  intro p e s m args below meth c R Q A ls hC hQ
  obtain ⟨hx, hb, hr, hml, hts, hown, hlocks, hR, hK, hN, hP, hD, hA, hl, hin⟩ := hC
  have hl : lv_has ls 2 [(0, .ref (a 0)), (1, .int x1)] := hl
  unfold f9_top at h
  refine lv_aload_n hx hb dX9_top_0 rfl (lv_at hl 0 rfl) ?_
  refine va_get (D := E.1) (ci := 9) (v := .ref (a 1)) (C := RX9) (T := TX9) (N := 21) hx hb hts iX9 hown hK hP 0 rfl rfl 0 (by decide) (hts _ q1198) (fun _ h9 => h9) rfl dX9_top_1 ?_
  refine lv_bipush (v := (nI 7)) hx hb dX9_top_4 (by decide) ?_
  refine lv_iload_n hx hb dX9_top_6 rfl (lv_at hl 1 rfl) ?_
  refine lv_iadd hx hb dX9_top_7 ?_
  obtain ⟨i1, h⟩ := o_t h
  refine va_iald (f := v_now) hx hb hK hP 1 0 rfl rfl (inb_in i1) dX9_top_8 ?_
  cases h
  exact px_ePi hQ hx hb hr hlocks dX9_top_9
def f9_comes_L66 (x1 : Int32) (x2 : Int32) (x3 : Int32) : Nat → Int32 → Int32 → AI → Option (Int32 × AI)
  | 0, _, _, _ => none
  | n + 1, x4, x5, v_now => (if (nI 6) ≤ x5 then (if inb ((nI 7) + x1) 228 = true then (lt (upd v_now (((nI 7) + x1)).toNatClampNeg x4) fun u16 => (some (x4, u16))) else none) else ((f9_top (x1) (v_now)).bind fun r18 => ((f9_has (r18) (x5) (v_now)).bind fun r20 => (if inb ((((nI 12) + ((nI 9) * x4)) + (nI 3)) + x5) 228 = true then (lt (upd v_now (((((nI 12) + ((nI 9) * x4)) + (nI 3)) + x5)).toNatClampNeg r20) fun u23 => (f9_comes_L66 x1 x2 x3 n (x4) ((x5 + nI 1)) (u23))) else none))))
def f9_comes (x1 : Int32) (x2 : Int32) (x3 : Int32) (v_now : AI) : Option (Int32 × AI) := (lt (upd v_now ((nI 0)).toNatClampNeg ((v_now ((nI 0)).toNatClampNeg) + (nI 1))) fun u1 => (if inb ((nI 12) + ((nI 9) * (v_now ((nI 0)).toNatClampNeg))) 228 = true then (lt (upd u1 (((nI 12) + ((nI 9) * (v_now ((nI 0)).toNatClampNeg)))).toNatClampNeg x2) fun u4 => ((f9_top (x1) (u4)).bind fun r6 => (if inb (((nI 12) + ((nI 9) * (v_now ((nI 0)).toNatClampNeg))) + (nI 1)) 228 = true then (lt (upd u4 ((((nI 12) + ((nI 9) * (v_now ((nI 0)).toNatClampNeg))) + (nI 1))).toNatClampNeg r6) fun u9 => (if inb (((nI 12) + ((nI 9) * (v_now ((nI 0)).toNatClampNeg))) + (nI 2)) 228 = true then (lt (upd u9 ((((nI 12) + ((nI 9) * (v_now ((nI 0)).toNatClampNeg))) + (nI 2))).toNatClampNeg x3) fun u12 => (f9_comes_L66 x1 x2 x3 fuel ((v_now ((nI 0)).toNatClampNeg)) ((nI 0)) (u12))) else none)) else none))) else none))
set_option maxHeartbeats 4000000 in
set_option maxRecDepth 100000 in
theorem c9_comes (l : Launch) (E : PE) (a : Nat → Nat)  (x1 : Int32) (x2 : Int32) (x3 : Int32) (v_now : AI) (v_tried : AI) (v_kept : AI) (v_undos : Int32) (v_saved : AI) (v_isSaved : Int32) (v_line : AI) (v_lined : Int32) (v_text : AI) (v_length : Int32) (v_at : Int32) (v_order : Int32) (v_told : AI) (v_error : Int32) (v_reason : Int32) (v_detail : Int32) (v_answer : Int32) (v_thrown : Int32) (v_mixed : AI) (v_conflicts : Int32) (v_firstConflict : Int32) (r : Int32) (z_this_now : AI) (h : f9_comes x1 x2 x3 v_now = some (r, z_this_now)) : MW l yX9_comes cX9_comes 6 (some .int) { frames := 2, cells := 0, slots := 0, locals := 44 } E [.ref (a 0), .int x1, .int x2, .int x3] ([gX9 E a v_now v_tried v_kept v_undos v_saved v_isSaved v_line v_lined v_text v_length v_at v_order v_told v_error v_reason v_detail v_answer v_thrown v_mixed v_conflicts v_firstConflict] : List va_W).flatten 0 0 (some (.int r)) ([gX9 E a z_this_now v_tried v_kept v_undos v_saved v_isSaved v_line v_lined v_text v_length v_at v_order v_told v_error v_reason v_detail v_answer v_thrown v_mixed v_conflicts v_firstConflict] : List va_W).flatten := by
  refine px_startW (by decide +kernel) (Nat.le_of_ble_eq_true rfl) ?_
  intro p e s m args below meth c R Q A ls hC hA0 hQ
  obtain ⟨hx, hb, hr, hml, hts, hown, hlocks, hR, hK, hN, hP, hD, hA, hl, hin⟩ := hC
  have hl : lv_has ls 6 [(0, .ref (a 0)), (1, .int x1), (2, .int x2), (3, .int x3)] := hl
  suffices key : ∀ (H : Heap) (locs : List Loc), va_P E.1 vwCl ([gX9 E a v_now v_tried v_kept v_undos v_saved v_isSaved v_line v_lined v_text v_length v_at v_order v_told v_error v_reason v_detail v_answer v_thrown v_mixed v_conflicts v_firstConflict] : List va_W).flatten H → va_S A s.heap H locs → W p l e R s m args below meth c H locs 0 0 Q (F0 m 0 ls []) from key s.heap [] hP va_S.rf
  unfold f9_comes at h
  have L66 : ∀ (n : Nat) (x4 : Int32) (x5 : Int32) (v_now : AI) (H : Heap) (locs : List Loc) (ls : Array Slot), va_P E.1 vwCl ([gX9 E a v_now v_tried v_kept v_undos v_saved v_isSaved v_line v_lined v_text v_length v_at v_order v_told v_error v_reason v_detail v_answer v_thrown v_mixed v_conflicts v_firstConflict] : List va_W).flatten H → va_D A ([gX9 E a v_now v_tried v_kept v_undos v_saved v_isSaved v_line v_lined v_text v_length v_at v_order v_told v_error v_reason v_detail v_answer v_thrown v_mixed v_conflicts v_firstConflict] : List va_W).flatten → va_S A s.heap H locs → lv_has ls 6 [(0, .ref (a 0)), (1, .int x1), (4, .int x4), (5, .int x5)] → f9_comes_L66 x1 x2 x3 n x4 x5 v_now = some (r, z_this_now) → W p l e R s m args below meth c H locs 0 0 Q (F0 m 66 ls []) := by
    intro n
    induction n with
    | zero =>
      intro x4 x5 v_now H locs ls hP hD hS hl h
      unfold f9_comes_L66 at h; cases h
    | succ n ih =>
      intro x4 x5 v_now H locs ls hP hD hS hl h
      unfold f9_comes_L66 at h
      refine lv_iload hx hb dX9_comes_66 (lv_at hl 3 rfl) ?_
      refine lv_bipush (v := (nI 6)) hx hb dX9_comes_68 (by decide) ?_
      refine lv_icmp_ge (tgt := 108) hx hb dX9_comes_70 (by decide) (fun c14 => ?_) (fun c14 => ?_)
      · rw [if_pos c14] at h
        refine lv_aload_n hx hb dX9_comes_108 rfl (lv_at hl 0 rfl) ?_
        refine va_get (D := E.1) (ci := 9) (v := .ref (a 1)) (C := RX9) (T := TX9) (N := 21) hx hb hts iX9 hown hK hP 0 rfl rfl 0 (by decide) (hts _ q1198) (fun _ h9 => h9) rfl dX9_comes_109 ?_
        refine lv_bipush (v := (nI 7)) hx hb dX9_comes_112 (by decide) ?_
        refine lv_iload_n hx hb dX9_comes_114 rfl (lv_at hl 1 rfl) ?_
        refine lv_iadd hx hb dX9_comes_115 ?_
        refine lv_iload hx hb dX9_comes_116 (lv_at hl 2 rfl) ?_
        obtain ⟨i15, h⟩ := o_t h
        refine va_iast (f := v_now) hx hb hK hP hD hS 1 0 rfl rfl (inb_in i15) dX9_comes_118 (fun H locs hP hD hS => ?_)
        have hP : va_P E.1 vwCl ([gX9 E a (upd v_now (((nI 7) + x1)).toNatClampNeg x4) v_tried v_kept v_undos v_saved v_isSaved v_line v_lined v_text v_length v_at v_order v_told v_error v_reason v_detail v_answer v_thrown v_mixed v_conflicts v_firstConflict] : List va_W).flatten H := hP
        have hD : va_D A ([gX9 E a (upd v_now (((nI 7) + x1)).toNatClampNeg x4) v_tried v_kept v_undos v_saved v_isSaved v_line v_lined v_text v_length v_at v_order v_told v_error v_reason v_detail v_answer v_thrown v_mixed v_conflicts v_firstConflict] : List va_W).flatten := hD
        obtain ⟨u16, e17, h⟩ := lt_e h
        rw [← e17] at hP hD
        refine lv_iload hx hb dX9_comes_119 (lv_at hl 2 rfl) ?_
        cases h
        exact px_eWi hA0 hQ hP hD hS hx hb hr hlocks dX9_comes_121
      · rw [if_neg c14] at h
        refine lv_aload_n hx hb dX9_comes_73 rfl (lv_at hl 0 rfl) ?_
        refine va_get (D := E.1) (ci := 9) (v := .ref (a 1)) (C := RX9) (T := TX9) (N := 21) hx hb hts iX9 hown hK hP 0 rfl rfl 0 (by decide) (hts _ q1198) (fun _ h9 => h9) rfl dX9_comes_74 ?_
        refine lv_bipush (v := (nI 12)) hx hb dX9_comes_77 (by decide) ?_
        refine lv_bipush (v := (nI 9)) hx hb dX9_comes_79 (by decide) ?_
        refine lv_iload hx hb dX9_comes_81 (lv_at hl 2 rfl) ?_
        refine lv_imul hx hb dX9_comes_83 ?_
        refine lv_iadd hx hb dX9_comes_84 ?_
        refine lv_iconst (v := (nI 3)) hx hb dX9_comes_85 (by decide) ?_
        refine lv_iadd hx hb dX9_comes_86 ?_
        refine lv_iload hx hb dX9_comes_87 (lv_at hl 3 rfl) ?_
        refine lv_iadd hx hb dX9_comes_89 ?_
        refine lv_aload_n hx hb dX9_comes_90 rfl (lv_at hl 0 rfl) ?_
        refine lv_aload_n hx hb dX9_comes_91 rfl (lv_at hl 0 rfl) ?_
        refine lv_iload_n hx hb dX9_comes_92 rfl (lv_at hl 1 rfl) ?_
        obtain ⟨r18, hr19, h⟩ := ob h
        refine px_Vp (As := [.int x1]) (rest := [.ref (a 0), .int ((((nI 12) + ((nI 9) * x4)) + (nI 3)) + x5), .ref (a 1)]) (gs := ([gX9 E a v_now v_tried v_kept v_undos v_saved v_isSaved v_line v_lined v_text v_length v_at v_order v_told v_error v_reason v_detail v_answer v_thrown v_mixed v_conflicts v_firstConflict] : List va_W)) (gc := ([gX9 E a v_now v_tried v_kept v_undos v_saved v_isSaved v_line v_lined v_text v_length v_at v_order v_told v_error v_reason v_detail v_answer v_thrown v_mixed v_conflicts v_firstConflict] : List va_W)) ⟨hx, hb, hml, hown, hts⟩ (c9_top l E a  (x1) (v_now) (v_tried) (v_kept) (v_undos) (v_saved) (v_isSaved) (v_line) (v_lined) (v_text) (v_length) (v_at) (v_order) (v_told) (v_error) (v_reason) (v_detail) (v_answer) (v_thrown) (v_mixed) (v_conflicts) (v_firstConflict) r18 hr19) (cwV 1 hts (ws_v q1288 q1290 q20 q68 q1291) rfl rfl rfl hdV_X9_top (by rw [hR]; exact ⟨Nat.le_of_ble_eq_true rfl, Nat.le_of_ble_eq_true rfl⟩)) hK hN hP hD [0] rfl (by decide) 0 9 rfl rfl rfl rfl hl.1 rfl (Nat.le_of_ble_eq_true rfl) dX9_comes_93 (by rw [hR]; exact ⟨Nat.le_of_ble_eq_true rfl, Nat.le_of_ble_eq_true rfl⟩) ?_
        refine W.eq (g2 := F0 m 96 ls [.int r18, .ref (a 0), .int ((((nI 12) + ((nI 9) * x4)) + (nI 3)) + x5), .ref (a 1)]) rfl ?_
        refine lv_iload hx hb dX9_comes_96 (lv_at hl 3 rfl) ?_
        obtain ⟨r20, hr21, h⟩ := ob h
        refine px_Vp (As := [.int r18, .int x5]) (rest := [.int ((((nI 12) + ((nI 9) * x4)) + (nI 3)) + x5), .ref (a 1)]) (gs := ([gX9 E a v_now v_tried v_kept v_undos v_saved v_isSaved v_line v_lined v_text v_length v_at v_order v_told v_error v_reason v_detail v_answer v_thrown v_mixed v_conflicts v_firstConflict] : List va_W)) (gc := ([gX9 E a v_now v_tried v_kept v_undos v_saved v_isSaved v_line v_lined v_text v_length v_at v_order v_told v_error v_reason v_detail v_answer v_thrown v_mixed v_conflicts v_firstConflict] : List va_W)) ⟨hx, hb, hml, hown, hts⟩ (c9_has l E a  (r18) (x5) (v_now) (v_tried) (v_kept) (v_undos) (v_saved) (v_isSaved) (v_line) (v_lined) (v_text) (v_length) (v_at) (v_order) (v_told) (v_error) (v_reason) (v_detail) (v_answer) (v_thrown) (v_mixed) (v_conflicts) (v_firstConflict) r20 hr21) (cwV 2 hts (ws_v q1292 q1294 q21 q68 q1295) rfl rfl rfl hdV_X9_has (by rw [hR]; exact ⟨Nat.le_of_ble_eq_true rfl, Nat.le_of_ble_eq_true rfl⟩)) hK hN hP hD [0] rfl (by decide) 0 9 rfl rfl rfl rfl hl.1 rfl (Nat.le_of_ble_eq_true rfl) dX9_comes_98 (by rw [hR]; exact ⟨Nat.le_of_ble_eq_true rfl, Nat.le_of_ble_eq_true rfl⟩) ?_
        refine W.eq (g2 := F0 m 101 ls [.int r20, .int ((((nI 12) + ((nI 9) * x4)) + (nI 3)) + x5), .ref (a 1)]) rfl ?_
        obtain ⟨i22, h⟩ := o_t h
        refine va_iast (f := v_now) hx hb hK hP hD hS 1 0 rfl rfl (inb_in i22) dX9_comes_101 (fun H locs hP hD hS => ?_)
        have hP : va_P E.1 vwCl ([gX9 E a (upd v_now (((((nI 12) + ((nI 9) * x4)) + (nI 3)) + x5)).toNatClampNeg r20) v_tried v_kept v_undos v_saved v_isSaved v_line v_lined v_text v_length v_at v_order v_told v_error v_reason v_detail v_answer v_thrown v_mixed v_conflicts v_firstConflict] : List va_W).flatten H := hP
        have hD : va_D A ([gX9 E a (upd v_now (((((nI 12) + ((nI 9) * x4)) + (nI 3)) + x5)).toNatClampNeg r20) v_tried v_kept v_undos v_saved v_isSaved v_line v_lined v_text v_length v_at v_order v_told v_error v_reason v_detail v_answer v_thrown v_mixed v_conflicts v_firstConflict] : List va_W).flatten := hD
        obtain ⟨u23, e24, h⟩ := lt_e h
        rw [← e24] at hP hD
        refine lv_iinc (v := (x5 + nI 1)) (lv' := [(5, .int (x5 + nI 1)), (0, .ref (a 0)), (1, .int x1), (4, .int x4)]) hx hb dX9_comes_102 hl (k := 3) rfl rfl (by decide) rfl (fun ls hl => ?_)
        refine lv_goto (tgt := 66) hx hb dX9_comes_105 (by decide) ?_
        exact ih (x4) ((x5 + nI 1)) (u23) H locs ls hP hD hS (lv_sub hl [1, 2, 3, 0] rfl) h
  intro H locs hP hS
  refine lv_aload_n hx hb dX9_comes_0 rfl (lv_at hl 0 rfl) ?_
  refine va_get (D := E.1) (ci := 9) (v := .ref (a 1)) (C := RX9) (T := TX9) (N := 21) hx hb hts iX9 hown hK hP 0 rfl rfl 0 (by decide) (hts _ q1198) (fun _ h9 => h9) rfl dX9_comes_1 ?_
  refine lv_iconst (v := (nI 0)) hx hb dX9_comes_4 (by decide) ?_
  refine lv_dup2_11 hx hb dX9_comes_5 rfl rfl ?_
  refine va_iald (f := v_now) hx hb hK hP 1 0 rfl rfl (inb_in (i := (nI 0)) (n := 228) (by decide)) dX9_comes_6 ?_
  refine lv_dup_x2 hx hb dX9_comes_7 rfl rfl rfl ?_
  refine lv_iconst (v := (nI 1)) hx hb dX9_comes_8 (by decide) ?_
  refine lv_iadd hx hb dX9_comes_9 ?_
  refine va_iast (f := v_now) hx hb hK hP hD hS 1 0 rfl rfl (inb_in (i := (nI 0)) (n := 228) (by decide)) dX9_comes_10 (fun H locs hP hD hS => ?_)
  have hP : va_P E.1 vwCl ([gX9 E a (upd v_now ((nI 0)).toNatClampNeg ((v_now ((nI 0)).toNatClampNeg) + (nI 1))) v_tried v_kept v_undos v_saved v_isSaved v_line v_lined v_text v_length v_at v_order v_told v_error v_reason v_detail v_answer v_thrown v_mixed v_conflicts v_firstConflict] : List va_W).flatten H := hP
  have hD : va_D A ([gX9 E a (upd v_now ((nI 0)).toNatClampNeg ((v_now ((nI 0)).toNatClampNeg) + (nI 1))) v_tried v_kept v_undos v_saved v_isSaved v_line v_lined v_text v_length v_at v_order v_told v_error v_reason v_detail v_answer v_thrown v_mixed v_conflicts v_firstConflict] : List va_W).flatten := hD
  obtain ⟨u1, e2, h⟩ := lt_e h
  rw [← e2] at hP hD
  refine lv_istore (lv' := [(4, .int (v_now ((nI 0)).toNatClampNeg)), (0, .ref (a 0)), (1, .int x1), (2, .int x2), (3, .int x3)]) hx hb dX9_comes_11 hl (by decide) rfl (fun ls hl => ?_)
  refine lv_aload_n hx hb dX9_comes_13 rfl (lv_at hl 1 rfl) ?_
  refine va_get (D := E.1) (ci := 9) (v := .ref (a 1)) (C := RX9) (T := TX9) (N := 21) hx hb hts iX9 hown hK hP 0 rfl rfl 0 (by decide) (hts _ q1198) (fun _ h9 => h9) rfl dX9_comes_14 ?_
  refine lv_bipush (v := (nI 12)) hx hb dX9_comes_17 (by decide) ?_
  refine lv_bipush (v := (nI 9)) hx hb dX9_comes_19 (by decide) ?_
  refine lv_iload hx hb dX9_comes_21 (lv_at hl 0 rfl) ?_
  refine lv_imul hx hb dX9_comes_23 ?_
  refine lv_iadd hx hb dX9_comes_24 ?_
  refine lv_iload_n hx hb dX9_comes_25 rfl (lv_at hl 3 rfl) ?_
  obtain ⟨i3, h⟩ := o_t h
  refine va_iast (f := u1) hx hb hK hP hD hS 1 0 rfl rfl (inb_in i3) dX9_comes_26 (fun H locs hP hD hS => ?_)
  have hP : va_P E.1 vwCl ([gX9 E a (upd u1 (((nI 12) + ((nI 9) * (v_now ((nI 0)).toNatClampNeg)))).toNatClampNeg x2) v_tried v_kept v_undos v_saved v_isSaved v_line v_lined v_text v_length v_at v_order v_told v_error v_reason v_detail v_answer v_thrown v_mixed v_conflicts v_firstConflict] : List va_W).flatten H := hP
  have hD : va_D A ([gX9 E a (upd u1 (((nI 12) + ((nI 9) * (v_now ((nI 0)).toNatClampNeg)))).toNatClampNeg x2) v_tried v_kept v_undos v_saved v_isSaved v_line v_lined v_text v_length v_at v_order v_told v_error v_reason v_detail v_answer v_thrown v_mixed v_conflicts v_firstConflict] : List va_W).flatten := hD
  obtain ⟨u4, e5, h⟩ := lt_e h
  rw [← e5] at hP hD
  refine lv_aload_n hx hb dX9_comes_27 rfl (lv_at hl 1 rfl) ?_
  refine va_get (D := E.1) (ci := 9) (v := .ref (a 1)) (C := RX9) (T := TX9) (N := 21) hx hb hts iX9 hown hK hP 0 rfl rfl 0 (by decide) (hts _ q1198) (fun _ h9 => h9) rfl dX9_comes_28 ?_
  refine lv_bipush (v := (nI 12)) hx hb dX9_comes_31 (by decide) ?_
  refine lv_bipush (v := (nI 9)) hx hb dX9_comes_33 (by decide) ?_
  refine lv_iload hx hb dX9_comes_35 (lv_at hl 0 rfl) ?_
  refine lv_imul hx hb dX9_comes_37 ?_
  refine lv_iadd hx hb dX9_comes_38 ?_
  refine lv_iconst (v := (nI 1)) hx hb dX9_comes_39 (by decide) ?_
  refine lv_iadd hx hb dX9_comes_40 ?_
  refine lv_aload_n hx hb dX9_comes_41 rfl (lv_at hl 1 rfl) ?_
  refine lv_iload_n hx hb dX9_comes_42 rfl (lv_at hl 2 rfl) ?_
  obtain ⟨r6, hr7, h⟩ := ob h
  refine px_Vp (As := [.int x1]) (rest := [.int (((nI 12) + ((nI 9) * (v_now ((nI 0)).toNatClampNeg))) + (nI 1)), .ref (a 1)]) (gs := ([gX9 E a u4 v_tried v_kept v_undos v_saved v_isSaved v_line v_lined v_text v_length v_at v_order v_told v_error v_reason v_detail v_answer v_thrown v_mixed v_conflicts v_firstConflict] : List va_W)) (gc := ([gX9 E a u4 v_tried v_kept v_undos v_saved v_isSaved v_line v_lined v_text v_length v_at v_order v_told v_error v_reason v_detail v_answer v_thrown v_mixed v_conflicts v_firstConflict] : List va_W)) ⟨hx, hb, hml, hown, hts⟩ (c9_top l E a  (x1) (u4) (v_tried) (v_kept) (v_undos) (v_saved) (v_isSaved) (v_line) (v_lined) (v_text) (v_length) (v_at) (v_order) (v_told) (v_error) (v_reason) (v_detail) (v_answer) (v_thrown) (v_mixed) (v_conflicts) (v_firstConflict) r6 hr7) (cwV 1 hts (ws_v q1288 q1290 q20 q68 q1291) rfl rfl rfl hdV_X9_top (by rw [hR]; exact ⟨Nat.le_of_ble_eq_true rfl, Nat.le_of_ble_eq_true rfl⟩)) hK hN hP hD [0] rfl (by decide) 0 9 rfl rfl rfl rfl hl.1 rfl (Nat.le_of_ble_eq_true rfl) dX9_comes_43 (by rw [hR]; exact ⟨Nat.le_of_ble_eq_true rfl, Nat.le_of_ble_eq_true rfl⟩) ?_
  refine W.eq (g2 := F0 m 46 ls [.int r6, .int (((nI 12) + ((nI 9) * (v_now ((nI 0)).toNatClampNeg))) + (nI 1)), .ref (a 1)]) rfl ?_
  obtain ⟨i8, h⟩ := o_t h
  refine va_iast (f := u4) hx hb hK hP hD hS 1 0 rfl rfl (inb_in i8) dX9_comes_46 (fun H locs hP hD hS => ?_)
  have hP : va_P E.1 vwCl ([gX9 E a (upd u4 ((((nI 12) + ((nI 9) * (v_now ((nI 0)).toNatClampNeg))) + (nI 1))).toNatClampNeg r6) v_tried v_kept v_undos v_saved v_isSaved v_line v_lined v_text v_length v_at v_order v_told v_error v_reason v_detail v_answer v_thrown v_mixed v_conflicts v_firstConflict] : List va_W).flatten H := hP
  have hD : va_D A ([gX9 E a (upd u4 ((((nI 12) + ((nI 9) * (v_now ((nI 0)).toNatClampNeg))) + (nI 1))).toNatClampNeg r6) v_tried v_kept v_undos v_saved v_isSaved v_line v_lined v_text v_length v_at v_order v_told v_error v_reason v_detail v_answer v_thrown v_mixed v_conflicts v_firstConflict] : List va_W).flatten := hD
  obtain ⟨u9, e10, h⟩ := lt_e h
  rw [← e10] at hP hD
  refine lv_aload_n hx hb dX9_comes_47 rfl (lv_at hl 1 rfl) ?_
  refine va_get (D := E.1) (ci := 9) (v := .ref (a 1)) (C := RX9) (T := TX9) (N := 21) hx hb hts iX9 hown hK hP 0 rfl rfl 0 (by decide) (hts _ q1198) (fun _ h9 => h9) rfl dX9_comes_48 ?_
  refine lv_bipush (v := (nI 12)) hx hb dX9_comes_51 (by decide) ?_
  refine lv_bipush (v := (nI 9)) hx hb dX9_comes_53 (by decide) ?_
  refine lv_iload hx hb dX9_comes_55 (lv_at hl 0 rfl) ?_
  refine lv_imul hx hb dX9_comes_57 ?_
  refine lv_iadd hx hb dX9_comes_58 ?_
  refine lv_iconst (v := (nI 2)) hx hb dX9_comes_59 (by decide) ?_
  refine lv_iadd hx hb dX9_comes_60 ?_
  refine lv_iload_n hx hb dX9_comes_61 rfl (lv_at hl 4 rfl) ?_
  obtain ⟨i11, h⟩ := o_t h
  refine va_iast (f := u9) hx hb hK hP hD hS 1 0 rfl rfl (inb_in i11) dX9_comes_62 (fun H locs hP hD hS => ?_)
  have hP : va_P E.1 vwCl ([gX9 E a (upd u9 ((((nI 12) + ((nI 9) * (v_now ((nI 0)).toNatClampNeg))) + (nI 2))).toNatClampNeg x3) v_tried v_kept v_undos v_saved v_isSaved v_line v_lined v_text v_length v_at v_order v_told v_error v_reason v_detail v_answer v_thrown v_mixed v_conflicts v_firstConflict] : List va_W).flatten H := hP
  have hD : va_D A ([gX9 E a (upd u9 ((((nI 12) + ((nI 9) * (v_now ((nI 0)).toNatClampNeg))) + (nI 2))).toNatClampNeg x3) v_tried v_kept v_undos v_saved v_isSaved v_line v_lined v_text v_length v_at v_order v_told v_error v_reason v_detail v_answer v_thrown v_mixed v_conflicts v_firstConflict] : List va_W).flatten := hD
  obtain ⟨u12, e13, h⟩ := lt_e h
  rw [← e13] at hP hD
  refine lv_iconst (v := (nI 0)) hx hb dX9_comes_63 (by decide) ?_
  refine lv_istore (lv' := [(5, .int (nI 0)), (4, .int (v_now ((nI 0)).toNatClampNeg)), (0, .ref (a 0)), (1, .int x1), (2, .int x2), (3, .int x3)]) hx hb dX9_comes_64 hl (by decide) rfl (fun ls hl => ?_)
  exact L66 fuel ((v_now ((nI 0)).toNatClampNeg)) ((nI 0)) (u12) H locs ls hP hD hS (lv_sub hl [2, 3, 1, 0] rfl) h
def f9_family_L6 (x1 : Int32) (v_now : AI) : Nat → Int32 → Int32 → Option (Int32)
  | 0, _, _ => none
  | n + 1, x2, x3 => (if x3 ≤ 0 then (some x2) else (if ((x2 >>> (x3 &&& 31)) &&& (nI 1)) = 0 then (f9_family_L6 x1 v_now n (x2) ((x3 + (-1)))) else ((f9_of (x3) ((nI 1)) (v_now)).bind fun r3 => ((f9_of (x3) ((nI 2)) (v_now)).bind fun r5 => (if r5 < 0 then (f9_family_L6 x1 v_now n ((x2 ||| ((nI 1) <<< (r3 &&& 31)))) ((x3 + (-1)))) else ((f9_of (x3) ((nI 2)) (v_now)).bind fun r8 => (f9_family_L6 x1 v_now n (((x2 ||| ((nI 1) <<< (r3 &&& 31))) ||| ((nI 1) <<< (r8 &&& 31)))) ((x3 + (-1))))))))))
def f9_family (x1 : Int32) (v_now : AI) : Option (Int32) := (f9_family_L6 x1 v_now fuel (((nI 1) <<< (x1 &&& 31))) (x1))
set_option maxHeartbeats 4000000 in
set_option maxRecDepth 100000 in
theorem c9_family (l : Launch) (E : PE) (a : Nat → Nat)  (x1 : Int32) (v_now : AI) (v_tried : AI) (v_kept : AI) (v_undos : Int32) (v_saved : AI) (v_isSaved : Int32) (v_line : AI) (v_lined : Int32) (v_text : AI) (v_length : Int32) (v_at : Int32) (v_order : Int32) (v_told : AI) (v_error : Int32) (v_reason : Int32) (v_detail : Int32) (v_answer : Int32) (v_thrown : Int32) (v_mixed : AI) (v_conflicts : Int32) (v_firstConflict : Int32) (r : Int32) (h : f9_family x1 v_now = some r) : MP l yX9_family cX9_family 4 (some .int) { frames := 1, cells := 0, slots := 0, locals := 22 } E [.ref (a 0), .int x1] ([gX9 E a v_now v_tried v_kept v_undos v_saved v_isSaved v_line v_lined v_text v_length v_at v_order v_told v_error v_reason v_detail v_answer v_thrown v_mixed v_conflicts v_firstConflict] : List va_W).flatten (some (.int r)) := by
  refine px_startP (by decide +kernel) (Nat.le_of_ble_eq_true rfl) ?_
  intro p e s m args below meth c R Q A ls hC hQ
  obtain ⟨hx, hb, hr, hml, hts, hown, hlocks, hR, hK, hN, hP, hD, hA, hl, hin⟩ := hC
  have hl : lv_has ls 4 [(0, .ref (a 0)), (1, .int x1)] := hl
  unfold f9_family at h
  have L6 : ∀ (n : Nat) (x2 : Int32) (x3 : Int32) (ls : Array Slot), lv_has ls 4 [(0, .ref (a 0)), (2, .int x2), (3, .int x3)] → f9_family_L6 x1 v_now n x2 x3 = some r → W p l e R s m args below meth c s.heap [] 0 0 Q (F0 m 6 ls []) := by
    intro n
    induction n with
    | zero =>
      intro x2 x3 ls hl h
      unfold f9_family_L6 at h; cases h
    | succ n ih =>
      intro x2 x3 ls hl h
      unfold f9_family_L6 at h
      refine lv_iload_n hx hb dX9_family_6 rfl (lv_at hl 2 rfl) ?_
      refine lv_if_le (tgt := 58) hx hb dX9_family_7 (by decide) (fun c1 => ?_) (fun c1 => ?_)
      · rw [if_pos c1] at h
        refine lv_iload_n hx hb dX9_family_58 rfl (lv_at hl 1 rfl) ?_
        cases h
        exact px_ePi hQ hx hb hr hlocks dX9_family_59
      · rw [if_neg c1] at h
        refine lv_iload_n hx hb dX9_family_10 rfl (lv_at hl 1 rfl) ?_
        refine lv_iload_n hx hb dX9_family_11 rfl (lv_at hl 2 rfl) ?_
        refine lv_ishr hx hb dX9_family_12 ?_
        refine lv_iconst (v := (nI 1)) hx hb dX9_family_13 (by decide) ?_
        refine lv_iand hx hb dX9_family_14 ?_
        refine lv_if_ne (tgt := 21) hx hb dX9_family_15 (by decide) (fun c2 => ?_) (fun c2 => ?_)
        · rw [if_neg c2] at h
          refine lv_iload_n hx hb dX9_family_21 rfl (lv_at hl 1 rfl) ?_
          refine lv_iconst (v := (nI 1)) hx hb dX9_family_22 (by decide) ?_
          refine lv_aload_n hx hb dX9_family_23 rfl (lv_at hl 0 rfl) ?_
          refine lv_iload_n hx hb dX9_family_24 rfl (lv_at hl 2 rfl) ?_
          refine lv_iconst (v := (nI 1)) hx hb dX9_family_25 (by decide) ?_
          obtain ⟨r3, hr4, h⟩ := ob h
          refine px_Vp (As := [.int x3, .int (nI 1)]) (rest := [.int (nI 1), .int x2]) (gs := ([gX9 E a v_now v_tried v_kept v_undos v_saved v_isSaved v_line v_lined v_text v_length v_at v_order v_told v_error v_reason v_detail v_answer v_thrown v_mixed v_conflicts v_firstConflict] : List va_W)) (gc := ([gX9 E a v_now v_tried v_kept v_undos v_saved v_isSaved v_line v_lined v_text v_length v_at v_order v_told v_error v_reason v_detail v_answer v_thrown v_mixed v_conflicts v_firstConflict] : List va_W)) ⟨hx, hb, hml, hown, hts⟩ (c9_of l E a  (x3) ((nI 1)) (v_now) (v_tried) (v_kept) (v_undos) (v_saved) (v_isSaved) (v_line) (v_lined) (v_text) (v_length) (v_at) (v_order) (v_told) (v_error) (v_reason) (v_detail) (v_answer) (v_thrown) (v_mixed) (v_conflicts) (v_firstConflict) r3 hr4) (cwV 2 hts (ws_v q1296 q1298 q22 q68 q1299) rfl rfl rfl hdV_X9_of (by rw [hR]; exact ⟨Nat.le_of_ble_eq_true rfl, Nat.le_of_ble_eq_true rfl⟩)) hK hN hP hD [0] rfl (by decide) 0 9 rfl rfl rfl rfl hl.1 rfl (Nat.le_of_ble_eq_true rfl) dX9_family_26 (by rw [hR]; exact ⟨Nat.le_of_ble_eq_true rfl, Nat.le_of_ble_eq_true rfl⟩) ?_
          refine W.eq (g2 := F0 m 29 ls [.int r3, .int (nI 1), .int x2]) rfl ?_
          refine lv_ishl hx hb dX9_family_29 ?_
          refine lv_ior hx hb dX9_family_30 ?_
          refine lv_istore_n (lv' := [(2, .int (x2 ||| ((nI 1) <<< (r3 &&& 31)))), (0, .ref (a 0)), (3, .int x3)]) hx hb dX9_family_31 rfl hl (by decide) rfl (fun ls hl => ?_)
          refine lv_aload_n hx hb dX9_family_32 rfl (lv_at hl 1 rfl) ?_
          refine lv_iload_n hx hb dX9_family_33 rfl (lv_at hl 2 rfl) ?_
          refine lv_iconst (v := (nI 2)) hx hb dX9_family_34 (by decide) ?_
          obtain ⟨r5, hr6, h⟩ := ob h
          refine px_Vp (As := [.int x3, .int (nI 2)]) (rest := []) (gs := ([gX9 E a v_now v_tried v_kept v_undos v_saved v_isSaved v_line v_lined v_text v_length v_at v_order v_told v_error v_reason v_detail v_answer v_thrown v_mixed v_conflicts v_firstConflict] : List va_W)) (gc := ([gX9 E a v_now v_tried v_kept v_undos v_saved v_isSaved v_line v_lined v_text v_length v_at v_order v_told v_error v_reason v_detail v_answer v_thrown v_mixed v_conflicts v_firstConflict] : List va_W)) ⟨hx, hb, hml, hown, hts⟩ (c9_of l E a  (x3) ((nI 2)) (v_now) (v_tried) (v_kept) (v_undos) (v_saved) (v_isSaved) (v_line) (v_lined) (v_text) (v_length) (v_at) (v_order) (v_told) (v_error) (v_reason) (v_detail) (v_answer) (v_thrown) (v_mixed) (v_conflicts) (v_firstConflict) r5 hr6) (cwV 2 hts (ws_v q1296 q1298 q22 q68 q1299) rfl rfl rfl hdV_X9_of (by rw [hR]; exact ⟨Nat.le_of_ble_eq_true rfl, Nat.le_of_ble_eq_true rfl⟩)) hK hN hP hD [0] rfl (by decide) 0 9 rfl rfl rfl rfl hl.1 rfl (Nat.le_of_ble_eq_true rfl) dX9_family_35 (by rw [hR]; exact ⟨Nat.le_of_ble_eq_true rfl, Nat.le_of_ble_eq_true rfl⟩) ?_
          refine W.eq (g2 := F0 m 38 ls [.int r5]) rfl ?_
          refine lv_if_lt (tgt := 52) hx hb dX9_family_38 (by decide) (fun c7 => ?_) (fun c7 => ?_)
          · rw [if_pos c7] at h
            refine lv_iinc (v := (x3 + (-1))) (lv' := [(3, .int (x3 + (-1))), (2, .int (x2 ||| ((nI 1) <<< (r3 &&& 31)))), (0, .ref (a 0))]) hx hb dX9_family_52 hl (k := 2) rfl rfl (by decide) rfl (fun ls hl => ?_)
            refine lv_goto (tgt := 6) hx hb dX9_family_55 (by decide) ?_
            exact ih ((x2 ||| ((nI 1) <<< (r3 &&& 31)))) ((x3 + (-1))) ls (lv_sub hl [2, 1, 0] rfl) h
          · rw [if_neg c7] at h
            refine lv_iload_n hx hb dX9_family_41 rfl (lv_at hl 0 rfl) ?_
            refine lv_iconst (v := (nI 1)) hx hb dX9_family_42 (by decide) ?_
            refine lv_aload_n hx hb dX9_family_43 rfl (lv_at hl 1 rfl) ?_
            refine lv_iload_n hx hb dX9_family_44 rfl (lv_at hl 2 rfl) ?_
            refine lv_iconst (v := (nI 2)) hx hb dX9_family_45 (by decide) ?_
            obtain ⟨r8, hr9, h⟩ := ob h
            refine px_Vp (As := [.int x3, .int (nI 2)]) (rest := [.int (nI 1), .int (x2 ||| ((nI 1) <<< (r3 &&& 31)))]) (gs := ([gX9 E a v_now v_tried v_kept v_undos v_saved v_isSaved v_line v_lined v_text v_length v_at v_order v_told v_error v_reason v_detail v_answer v_thrown v_mixed v_conflicts v_firstConflict] : List va_W)) (gc := ([gX9 E a v_now v_tried v_kept v_undos v_saved v_isSaved v_line v_lined v_text v_length v_at v_order v_told v_error v_reason v_detail v_answer v_thrown v_mixed v_conflicts v_firstConflict] : List va_W)) ⟨hx, hb, hml, hown, hts⟩ (c9_of l E a  (x3) ((nI 2)) (v_now) (v_tried) (v_kept) (v_undos) (v_saved) (v_isSaved) (v_line) (v_lined) (v_text) (v_length) (v_at) (v_order) (v_told) (v_error) (v_reason) (v_detail) (v_answer) (v_thrown) (v_mixed) (v_conflicts) (v_firstConflict) r8 hr9) (cwV 2 hts (ws_v q1296 q1298 q22 q68 q1299) rfl rfl rfl hdV_X9_of (by rw [hR]; exact ⟨Nat.le_of_ble_eq_true rfl, Nat.le_of_ble_eq_true rfl⟩)) hK hN hP hD [0] rfl (by decide) 0 9 rfl rfl rfl rfl hl.1 rfl (Nat.le_of_ble_eq_true rfl) dX9_family_46 (by rw [hR]; exact ⟨Nat.le_of_ble_eq_true rfl, Nat.le_of_ble_eq_true rfl⟩) ?_
            refine W.eq (g2 := F0 m 49 ls [.int r8, .int (nI 1), .int (x2 ||| ((nI 1) <<< (r3 &&& 31)))]) rfl ?_
            refine lv_ishl hx hb dX9_family_49 ?_
            refine lv_ior hx hb dX9_family_50 ?_
            refine lv_istore_n (lv' := [(2, .int ((x2 ||| ((nI 1) <<< (r3 &&& 31))) ||| ((nI 1) <<< (r8 &&& 31)))), (0, .ref (a 0)), (3, .int x3)]) hx hb dX9_family_51 rfl hl (by decide) rfl (fun ls hl => ?_)
            refine lv_iinc (v := (x3 + (-1))) (lv' := [(3, .int (x3 + (-1))), (2, .int ((x2 ||| ((nI 1) <<< (r3 &&& 31))) ||| ((nI 1) <<< (r8 &&& 31)))), (0, .ref (a 0))]) hx hb dX9_family_52 hl (k := 2) rfl rfl (by decide) rfl (fun ls hl => ?_)
            refine lv_goto (tgt := 6) hx hb dX9_family_55 (by decide) ?_
            exact ih (((x2 ||| ((nI 1) <<< (r3 &&& 31))) ||| ((nI 1) <<< (r8 &&& 31)))) ((x3 + (-1))) ls (lv_sub hl [2, 1, 0] rfl) h
        · rw [if_pos c2] at h
          refine lv_goto (tgt := 52) hx hb dX9_family_18 (by decide) ?_
          refine lv_iinc (v := (x3 + (-1))) (lv' := [(3, .int (x3 + (-1))), (0, .ref (a 0)), (2, .int x2)]) hx hb dX9_family_52 hl (k := 2) rfl rfl (by decide) rfl (fun ls hl => ?_)
          refine lv_goto (tgt := 6) hx hb dX9_family_55 (by decide) ?_
          exact ih (x2) ((x3 + (-1))) ls (lv_sub hl [1, 2, 0] rfl) h
  refine lv_iconst (v := (nI 1)) hx hb dX9_family_0 (by decide) ?_
  refine lv_iload_n hx hb dX9_family_1 rfl (lv_at hl 1 rfl) ?_
  refine lv_ishl hx hb dX9_family_2 ?_
  refine lv_istore_n (lv' := [(2, .int ((nI 1) <<< (x1 &&& 31))), (0, .ref (a 0)), (1, .int x1)]) hx hb dX9_family_3 rfl hl (by decide) rfl (fun ls hl => ?_)
  refine lv_iload_n hx hb dX9_family_4 rfl (lv_at hl 2 rfl) ?_
  refine lv_istore_n (lv' := [(3, .int x1), (2, .int ((nI 1) <<< (x1 &&& 31))), (0, .ref (a 0)), (1, .int x1)]) hx hb dX9_family_5 rfl hl (by decide) rfl (fun ls hl => ?_)
  exact L6 fuel (((nI 1) <<< (x1 &&& 31))) (x1) ls (lv_sub hl [2, 1, 0] rfl) h
def f9_isWithin (x1 : Int32) (x2 : Int32) (v_now : AI) : Option (Bool) := ((f9_family (x2) (v_now)).bind fun r1 => (if ((r1 >>> (x1 &&& 31)) &&& (nI 1)) = (nI 1) then (some true) else (some false)))
set_option maxHeartbeats 4000000 in
set_option maxRecDepth 100000 in
theorem c9_isWithin (l : Launch) (E : PE) (a : Nat → Nat)  (x1 : Int32) (x2 : Int32) (v_now : AI) (v_tried : AI) (v_kept : AI) (v_undos : Int32) (v_saved : AI) (v_isSaved : Int32) (v_line : AI) (v_lined : Int32) (v_text : AI) (v_length : Int32) (v_at : Int32) (v_order : Int32) (v_told : AI) (v_error : Int32) (v_reason : Int32) (v_detail : Int32) (v_answer : Int32) (v_thrown : Int32) (v_mixed : AI) (v_conflicts : Int32) (v_firstConflict : Int32) (r : Bool) (h : f9_isWithin x1 x2 v_now = some r) : MP l yX9_isWithin cX9_isWithin 3 (some .boolean) { frames := 2, cells := 0, slots := 0, locals := 45 } E [.ref (a 0), .int x1, .int x2] ([gX9 E a v_now v_tried v_kept v_undos v_saved v_isSaved v_line v_lined v_text v_length v_at v_order v_told v_error v_reason v_detail v_answer v_thrown v_mixed v_conflicts v_firstConflict] : List va_W).flatten (some (.int (b2i r))) := by
  refine px_startP (by decide +kernel) (Nat.le_of_ble_eq_true rfl) ?_
  intro p e s m args below meth c R Q A ls hC hQ
  obtain ⟨hx, hb, hr, hml, hts, hown, hlocks, hR, hK, hN, hP, hD, hA, hl, hin⟩ := hC
  have hl : lv_has ls 3 [(0, .ref (a 0)), (1, .int x1), (2, .int x2)] := hl
  unfold f9_isWithin at h
  refine lv_aload_n hx hb dX9_isWithin_0 rfl (lv_at hl 0 rfl) ?_
  refine lv_iload_n hx hb dX9_isWithin_1 rfl (lv_at hl 2 rfl) ?_
  obtain ⟨r1, hr2, h⟩ := ob h
  refine px_Vp (As := [.int x2]) (rest := []) (gs := ([gX9 E a v_now v_tried v_kept v_undos v_saved v_isSaved v_line v_lined v_text v_length v_at v_order v_told v_error v_reason v_detail v_answer v_thrown v_mixed v_conflicts v_firstConflict] : List va_W)) (gc := ([gX9 E a v_now v_tried v_kept v_undos v_saved v_isSaved v_line v_lined v_text v_length v_at v_order v_told v_error v_reason v_detail v_answer v_thrown v_mixed v_conflicts v_firstConflict] : List va_W)) ⟨hx, hb, hml, hown, hts⟩ (c9_family l E a  (x2) (v_now) (v_tried) (v_kept) (v_undos) (v_saved) (v_isSaved) (v_line) (v_lined) (v_text) (v_length) (v_at) (v_order) (v_told) (v_error) (v_reason) (v_detail) (v_answer) (v_thrown) (v_mixed) (v_conflicts) (v_firstConflict) r1 hr2) (cwV 1 hts (ws_v q1364 q1366 q34 q68 q1367) rfl rfl rfl hdV_X9_family (by rw [hR]; exact ⟨Nat.le_of_ble_eq_true rfl, Nat.le_of_ble_eq_true rfl⟩)) hK hN hP hD [0] rfl (by decide) 0 9 rfl rfl rfl rfl hl.1 rfl (Nat.le_of_ble_eq_true rfl) dX9_isWithin_2 (by rw [hR]; exact ⟨Nat.le_of_ble_eq_true rfl, Nat.le_of_ble_eq_true rfl⟩) ?_
  refine W.eq (g2 := F0 m 5 ls [.int r1]) rfl ?_
  refine lv_iload_n hx hb dX9_isWithin_5 rfl (lv_at hl 1 rfl) ?_
  refine lv_ishr hx hb dX9_isWithin_6 ?_
  refine lv_iconst (v := (nI 1)) hx hb dX9_isWithin_7 (by decide) ?_
  refine lv_iand hx hb dX9_isWithin_8 ?_
  refine lv_iconst (v := (nI 1)) hx hb dX9_isWithin_9 (by decide) ?_
  refine lv_icmp_ne (tgt := 17) hx hb dX9_isWithin_10 (by decide) (fun c3 => ?_) (fun c3 => ?_)
  · rw [if_neg c3] at h
    refine lv_iconst (v := (nI 0)) hx hb dX9_isWithin_17 (by decide) ?_
    cases h
    refine W.eq (g2 := F0 m 18 ls [.int (b2i false)]) rfl ?_
    exact px_ePz (b2i_n _) hQ hx hb hr hlocks dX9_isWithin_18
  · rw [if_pos c3] at h
    refine lv_iconst (v := (nI 1)) hx hb dX9_isWithin_13 (by decide) ?_
    refine lv_goto (tgt := 18) hx hb dX9_isWithin_14 (by decide) ?_
    cases h
    refine W.eq (g2 := F0 m 18 ls [.int (b2i true)]) rfl ?_
    exact px_ePz (b2i_n _) hQ hx hb hr hlocks dX9_isWithin_18
def f9_common_L16 (x1 : Int32) (x2 : Int32) (v_now : AI) : Nat → Int32 → Int32 → Option (Int32)
  | 0, _, _ => none
  | n + 1, x3, x4 => (if ((x3 >>> (x4 &&& 31)) &&& (nI 1)) = 0 then (f9_common_L16 x1 x2 v_now n (x3) ((x4 + (-1)))) else (some x4))
def f9_common (x1 : Int32) (x2 : Int32) (v_now : AI) : Option (Int32) := ((f9_family (x1) (v_now)).bind fun r1 => ((f9_family (x2) (v_now)).bind fun r3 => (f9_common_L16 x1 x2 v_now fuel ((r1 &&& r3)) ((nI 23)))))
set_option maxHeartbeats 4000000 in
set_option maxRecDepth 100000 in
theorem c9_common (l : Launch) (E : PE) (a : Nat → Nat)  (x1 : Int32) (x2 : Int32) (v_now : AI) (v_tried : AI) (v_kept : AI) (v_undos : Int32) (v_saved : AI) (v_isSaved : Int32) (v_line : AI) (v_lined : Int32) (v_text : AI) (v_length : Int32) (v_at : Int32) (v_order : Int32) (v_told : AI) (v_error : Int32) (v_reason : Int32) (v_detail : Int32) (v_answer : Int32) (v_thrown : Int32) (v_mixed : AI) (v_conflicts : Int32) (v_firstConflict : Int32) (r : Int32) (h : f9_common x1 x2 v_now = some r) : MP l yX9_common cX9_common 5 (some .int) { frames := 2, cells := 0, slots := 0, locals := 45 } E [.ref (a 0), .int x1, .int x2] ([gX9 E a v_now v_tried v_kept v_undos v_saved v_isSaved v_line v_lined v_text v_length v_at v_order v_told v_error v_reason v_detail v_answer v_thrown v_mixed v_conflicts v_firstConflict] : List va_W).flatten (some (.int r)) := by
  refine px_startP (by decide +kernel) (Nat.le_of_ble_eq_true rfl) ?_
  intro p e s m args below meth c R Q A ls hC hQ
  obtain ⟨hx, hb, hr, hml, hts, hown, hlocks, hR, hK, hN, hP, hD, hA, hl, hin⟩ := hC
  have hl : lv_has ls 5 [(0, .ref (a 0)), (1, .int x1), (2, .int x2)] := hl
  unfold f9_common at h
  have L16 : ∀ (n : Nat) (x3 : Int32) (x4 : Int32) (ls : Array Slot), lv_has ls 5 [(3, .int x3), (4, .int x4)] → f9_common_L16 x1 x2 v_now n x3 x4 = some r → W p l e R s m args below meth c s.heap [] 0 0 Q (F0 m 16 ls []) := by
    intro n
    induction n with
    | zero =>
      intro x3 x4 ls hl h
      unfold f9_common_L16 at h; cases h
    | succ n ih =>
      intro x3 x4 ls hl h
      unfold f9_common_L16 at h
      refine lv_iload_n hx hb dX9_common_16 rfl (lv_at hl 0 rfl) ?_
      refine lv_iload hx hb dX9_common_17 (lv_at hl 1 rfl) ?_
      refine lv_ishr hx hb dX9_common_19 ?_
      refine lv_iconst (v := (nI 1)) hx hb dX9_common_20 (by decide) ?_
      refine lv_iand hx hb dX9_common_21 ?_
      refine lv_if_ne (tgt := 31) hx hb dX9_common_22 (by decide) (fun c5 => ?_) (fun c5 => ?_)
      · rw [if_neg c5] at h
        refine lv_iload hx hb dX9_common_31 (lv_at hl 1 rfl) ?_
        cases h
        exact px_ePi hQ hx hb hr hlocks dX9_common_33
      · rw [if_pos c5] at h
        refine lv_iinc (v := (x4 + (-1))) (lv' := [(4, .int (x4 + (-1))), (3, .int x3)]) hx hb dX9_common_25 hl (k := 1) rfl rfl (by decide) rfl (fun ls hl => ?_)
        refine lv_goto (tgt := 16) hx hb dX9_common_28 (by decide) ?_
        exact ih (x3) ((x4 + (-1))) ls (lv_sub hl [1, 0] rfl) h
  refine lv_aload_n hx hb dX9_common_0 rfl (lv_at hl 0 rfl) ?_
  refine lv_iload_n hx hb dX9_common_1 rfl (lv_at hl 1 rfl) ?_
  obtain ⟨r1, hr2, h⟩ := ob h
  refine px_Vp (As := [.int x1]) (rest := []) (gs := ([gX9 E a v_now v_tried v_kept v_undos v_saved v_isSaved v_line v_lined v_text v_length v_at v_order v_told v_error v_reason v_detail v_answer v_thrown v_mixed v_conflicts v_firstConflict] : List va_W)) (gc := ([gX9 E a v_now v_tried v_kept v_undos v_saved v_isSaved v_line v_lined v_text v_length v_at v_order v_told v_error v_reason v_detail v_answer v_thrown v_mixed v_conflicts v_firstConflict] : List va_W)) ⟨hx, hb, hml, hown, hts⟩ (c9_family l E a  (x1) (v_now) (v_tried) (v_kept) (v_undos) (v_saved) (v_isSaved) (v_line) (v_lined) (v_text) (v_length) (v_at) (v_order) (v_told) (v_error) (v_reason) (v_detail) (v_answer) (v_thrown) (v_mixed) (v_conflicts) (v_firstConflict) r1 hr2) (cwV 1 hts (ws_v q1364 q1366 q34 q68 q1367) rfl rfl rfl hdV_X9_family (by rw [hR]; exact ⟨Nat.le_of_ble_eq_true rfl, Nat.le_of_ble_eq_true rfl⟩)) hK hN hP hD [0] rfl (by decide) 0 9 rfl rfl rfl rfl hl.1 rfl (Nat.le_of_ble_eq_true rfl) dX9_common_2 (by rw [hR]; exact ⟨Nat.le_of_ble_eq_true rfl, Nat.le_of_ble_eq_true rfl⟩) ?_
  refine W.eq (g2 := F0 m 5 ls [.int r1]) rfl ?_
  refine lv_aload_n hx hb dX9_common_5 rfl (lv_at hl 0 rfl) ?_
  refine lv_iload_n hx hb dX9_common_6 rfl (lv_at hl 2 rfl) ?_
  obtain ⟨r3, hr4, h⟩ := ob h
  refine px_Vp (As := [.int x2]) (rest := [.int r1]) (gs := ([gX9 E a v_now v_tried v_kept v_undos v_saved v_isSaved v_line v_lined v_text v_length v_at v_order v_told v_error v_reason v_detail v_answer v_thrown v_mixed v_conflicts v_firstConflict] : List va_W)) (gc := ([gX9 E a v_now v_tried v_kept v_undos v_saved v_isSaved v_line v_lined v_text v_length v_at v_order v_told v_error v_reason v_detail v_answer v_thrown v_mixed v_conflicts v_firstConflict] : List va_W)) ⟨hx, hb, hml, hown, hts⟩ (c9_family l E a  (x2) (v_now) (v_tried) (v_kept) (v_undos) (v_saved) (v_isSaved) (v_line) (v_lined) (v_text) (v_length) (v_at) (v_order) (v_told) (v_error) (v_reason) (v_detail) (v_answer) (v_thrown) (v_mixed) (v_conflicts) (v_firstConflict) r3 hr4) (cwV 1 hts (ws_v q1364 q1366 q34 q68 q1367) rfl rfl rfl hdV_X9_family (by rw [hR]; exact ⟨Nat.le_of_ble_eq_true rfl, Nat.le_of_ble_eq_true rfl⟩)) hK hN hP hD [0] rfl (by decide) 0 9 rfl rfl rfl rfl hl.1 rfl (Nat.le_of_ble_eq_true rfl) dX9_common_7 (by rw [hR]; exact ⟨Nat.le_of_ble_eq_true rfl, Nat.le_of_ble_eq_true rfl⟩) ?_
  refine W.eq (g2 := F0 m 10 ls [.int r3, .int r1]) rfl ?_
  refine lv_iand hx hb dX9_common_10 ?_
  refine lv_istore_n (lv' := [(3, .int (r1 &&& r3)), (0, .ref (a 0)), (1, .int x1), (2, .int x2)]) hx hb dX9_common_11 rfl hl (by decide) rfl (fun ls hl => ?_)
  refine lv_bipush (v := (nI 23)) hx hb dX9_common_12 (by decide) ?_
  refine lv_istore (lv' := [(4, .int (nI 23)), (3, .int (r1 &&& r3)), (0, .ref (a 0)), (1, .int x1), (2, .int x2)]) hx hb dX9_common_14 hl (by decide) rfl (fun ls hl => ?_)
  exact L16 fuel ((r1 &&& r3)) ((nI 23)) ls (lv_sub hl [1, 0] rfl) h
