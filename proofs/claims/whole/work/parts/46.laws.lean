def fL_edit (x1 : Int32) (x2 : Int32) (x3 : Int32) (desk_reason : Int32) (desk_detail : Int32) (mix_row : AI) (φ_forest : Fo) (φ_before : Fo) (hist_rows : (Nat → Fo)) (hist_next : Int32) (hist_count : Int32) (out_val : (Nat → Int64)) : Option (Int32 × Int32 × Int32 × AI × Fo × Fo × (Nat → Fo) × Int32 × Int32 × (Nat → Int64)) := ((f8_edit (x1) (x2) (x3) (desk_reason) (desk_detail) (mix_row) (φ_forest) (φ_before) (hist_rows) (hist_next) (hist_count)).bind fun (k11, r1, w2, w3, w4, w5, w6, w7, w8, w9) => (if k11 = 0 then (some ((nI 0), w2, w3, w4, w5, w6, w7, w8, w9, (vp_updL out_val ((nI 0)).toNatClampNeg ((r1).toInt64)))) else (if k11 = 1 then (some ((nI 1), w2, w3, w4, w5, w6, w7, w8, w9, out_val)) else (if k11 = 2 then (some ((nI 2), w2, w3, w4, w5, w6, w7, w8, w9, out_val)) else (if k11 = 3 then (some ((nI 3), w2, w3, w4, w5, w6, w7, w8, w9, out_val)) else none)))))
set_option maxHeartbeats 4000000 in
set_option maxRecDepth 100000 in
theorem mL_edit (l : Launch) (hlt : l.stackTraces = false) (E : PE) (X : PX) (L : LX) (a_top : Nat → Nat) (a_desk : Nat → Nat) (a_mix : Nat → Nat) (a_forest : Nat → Nat) (a_before : Nat → Nat) (a_hist : Nat → Nat) (a_out : Nat → Nat) (r_top_saved : Nat) (r_top_walk : Nat) (r_top_input : Nat) (r_top_orders : Nat) (r_top_written : Nat) (x1 : Int32) (x2 : Int32) (x3 : Int32) (top_isSaved : Int32) (top_wrongPosition : Int32) (desk_reason : Int32) (desk_detail : Int32) (mix_row : AI) (mix_conflictCount : Int32) (mix_lowest : Int32) (φ_forest : Fo) (φ_before : Fo) (hist_rows : (Nat → Fo)) (hist_next : Int32) (hist_count : Int32) (out_val : (Nat → Int64)) (r : Int32) (z_desk_reason : Int32) (z_desk_detail : Int32) (z_mix_row : AI) (z_forest_φ : Fo) (z_before_φ : Fo) (z_hist_rows : (Nat → Fo)) (z_hist_next : Int32) (z_hist_count : Int32) (z_out_val : (Nat → Int64)) (h : fL_edit x1 x2 x3 desk_reason desk_detail mix_row φ_forest φ_before hist_rows hist_next hist_count out_val = some (r, z_desk_reason, z_desk_detail, z_mix_row, z_forest_φ, z_before_φ, z_hist_rows, z_hist_next, z_hist_count, z_out_val)) : ML l yL_edit cL_edit 6 [(0, 12, 15, 13), (0, 12, 19, 15), (0, 12, 23, 17)] { frames := 8, cells := 1, slots := 6, locals := 134 } E X L [.ref (a_top 0), .int x1, .int x2, .int x3, .ref (a_out 0)] ([gX8 E a_top (a_forest 0) (a_before 0) r_top_saved top_isSaved (a_hist 0) (a_desk 0) r_top_walk r_top_input r_top_orders r_top_written top_wrongPosition, gX0 E a_desk (a_forest 0) (a_mix 0) desk_reason desk_detail, gX5 E a_mix mix_row mix_conflictCount mix_lowest, gX1 E a_forest φ_forest, gX1 E a_before φ_before, gX2 E a_hist hist_rows hist_next hist_count, gLO L (a_out 0) out_val] : List va_W).flatten 1 6 (some (.int r)) ([gX8 E a_top (a_forest 0) (a_before 0) r_top_saved top_isSaved (a_hist 0) (a_desk 0) r_top_walk r_top_input r_top_orders r_top_written top_wrongPosition, gX0 E a_desk (a_forest 0) (a_mix 0) z_desk_reason z_desk_detail, gX5 E a_mix z_mix_row mix_conflictCount mix_lowest, gX1 E a_forest z_forest_φ, gX1 E a_before z_before_φ, gX2 E a_hist z_hist_rows z_hist_next z_hist_count, gLO L (a_out 0) z_out_val] : List va_W).flatten := by
  refine px_startL (by decide +kernel) (Nat.le_of_ble_eq_true rfl) ?_
  intro p e s m args below meth c R Q A ls hC hX hL hA0 hQ ht
  obtain ⟨hx, hb, hr, hml, hts, hown, hlocks, hR, hK, hN, hP, hD, hA, hl, hin⟩ := hC
  have hl : lv_has ls 6 [(0, .ref (a_top 0)), (1, .int x1), (2, .int x2), (3, .int x3), (4, .ref (a_out 0))] := hl
  suffices key : ∀ (H : Heap) (locs : List Loc), va_P E.1 vwCl ([gX8 E a_top (a_forest 0) (a_before 0) r_top_saved top_isSaved (a_hist 0) (a_desk 0) r_top_walk r_top_input r_top_orders r_top_written top_wrongPosition, gX0 E a_desk (a_forest 0) (a_mix 0) desk_reason desk_detail, gX5 E a_mix mix_row mix_conflictCount mix_lowest, gX1 E a_forest φ_forest, gX1 E a_before φ_before, gX2 E a_hist hist_rows hist_next hist_count, gLO L (a_out 0) out_val] : List va_W).flatten H → va_S A s.heap H locs → W p l e R s m args below meth c H locs 0 0 Q (F0 m 0 ls []) from key s.heap [] hP va_S.rf
  unfold fL_edit at h
  intro H locs hP hS
  refine lv_aload hx hb dL_edit_0 (lv_at hl 4 rfl) ?_
  refine lv_iconst (v := (nI 0)) hx hb dL_edit_2 (by decide) ?_
  refine lv_aload_n hx hb dL_edit_3 rfl (lv_at hl 0 rfl) ?_
  refine lv_iload_n hx hb dL_edit_4 rfl (lv_at hl 1 rfl) ?_
  refine lv_iload_n hx hb dL_edit_5 rfl (lv_at hl 2 rfl) ?_
  refine lv_iload_n hx hb dL_edit_6 rfl (lv_at hl 3 rfl) ?_
  obtain ⟨⟨k11, r1, w2, w3, w4, w5, w6, w7, w8, w9⟩, hr10, h⟩ := ob h
  dsimp only at h
  refine px_VT (As := [.int x1, .int x2, .int x3]) (rest := [.int (nI 0), .ref (a_out 0)]) (gs := ([gX8 E a_top (a_forest 0) (a_before 0) r_top_saved top_isSaved (a_hist 0) (a_desk 0) r_top_walk r_top_input r_top_orders r_top_written top_wrongPosition, gX0 E a_desk (a_forest 0) (a_mix 0) desk_reason desk_detail, gX5 E a_mix mix_row mix_conflictCount mix_lowest, gX1 E a_forest φ_forest, gX1 E a_before φ_before, gX2 E a_hist hist_rows hist_next hist_count, gLO L (a_out 0) out_val] : List va_W)) (gr := ([gLO L (a_out 0) out_val] : List va_W)) (gc := ([gX8 E a_top (a_forest 0) (a_before 0) r_top_saved top_isSaved (a_hist 0) (a_desk 0) r_top_walk r_top_input r_top_orders r_top_written top_wrongPosition, gX0 E a_desk (a_forest 0) (a_mix 0) desk_reason desk_detail, gX5 E a_mix mix_row mix_conflictCount mix_lowest, gX1 E a_forest φ_forest, gX1 E a_before φ_before, gX2 E a_hist hist_rows hist_next hist_count] : List va_W)) (g1 := ([gX8 E a_top (a_forest 0) (a_before 0) r_top_saved top_isSaved (a_hist 0) (a_desk 0) r_top_walk r_top_input r_top_orders r_top_written top_wrongPosition, gX0 E a_desk (a_forest 0) (a_mix 0) w2 w3, gX5 E a_mix w4 mix_conflictCount mix_lowest, gX1 E a_forest w5, gX1 E a_before w6, gX2 E a_hist w7 w8 w9] : List va_W)) (g2 := ([gX8 E a_top (a_forest 0) (a_before 0) r_top_saved top_isSaved (a_hist 0) (a_desk 0) r_top_walk r_top_input r_top_orders r_top_written top_wrongPosition, gX0 E a_desk (a_forest 0) (a_mix 0) w2 w3, gX5 E a_mix w4 mix_conflictCount mix_lowest, gX1 E a_forest w5, gX1 E a_before w6, gX2 E a_hist w7 w8 w9, gLO L (a_out 0) out_val] : List va_W)) ⟨hx, hb, hml, hown, hts⟩ (c8_edit l hlt E X a_top a_desk a_mix a_forest a_before a_hist r_top_saved r_top_walk r_top_input r_top_orders r_top_written (x1) (x2) (x3) (top_isSaved) (top_wrongPosition) (desk_reason) (desk_detail) (mix_row) (mix_conflictCount) (mix_lowest) (φ_forest) (φ_before) (hist_rows) (hist_next) (hist_count) k11 r1 w2 w3 w4 w5 w6 w7 w8 w9 hr10) (cwV 3 hts (ws_v q391 q392 q393 q59 q394) rfl rfl rfl hdV_X8_edit (by rw [hR]; exact ⟨Nat.le_of_ble_eq_true rfl, Nat.le_of_ble_eq_true rfl⟩)) hK hN hX hP hD hS hA [6] [0, 1, 2, 3, 4, 5] [1, 2, 3, 4, 5, 6, 0] rfl rfl (by decide) (by decide) rfl (by decide) 0 8 rfl rfl rfl rfl hl.1 rfl (Nat.le_of_ble_eq_true rfl) dL_edit_7 (by rw [hR]; exact ⟨Nat.le_of_ble_eq_true rfl, Nat.le_of_ble_eq_true rfl⟩) (fun hk q9 ce H locs hP hD hS hc1 hc2 hc3 => ?_) (fun hk H locs hP hD hS => ?_)
  · rw [if_neg hk] at h
    by_cases c12 : k11 = 1
    · rw [if_pos c12] at h
      subst c12
      refine vx_catch (own := RL) (name := "java/lang/IndexOutOfBoundsException") (E := exn 1) hown [] ⟨0, 12, 15, 13⟩ [⟨0, 12, 19, 15⟩, ⟨0, 12, 23, 17⟩] (by rw [ht]; rfl) (fun z hz => absurd hz List.not_mem_nil) rfl (by decide) (hts _ q388) (va_Nw.use rfl (hX.2.2.2.2.2.2.1 (exn 1, exn 1) (by decide +kernel))) hc1 hc2 hc3 ?_
      refine lv_astore (lv' := [(5, .ref q9), (0, .ref (a_top 0)), (1, .int x1), (2, .int x2), (3, .int x3), (4, .ref (a_out 0))]) hx hb dL_edit_15 hl (by decide) rfl (fun ls hl => ?_)
      refine lv_iconst (v := (nI 1)) hx hb dL_edit_17 (by decide) ?_
      cases h
      exact px_eWi hA0 hQ hP hD hS hx hb hr hlocks dL_edit_18
    · rw [if_neg c12] at h
      by_cases c13 : k11 = 2
      · rw [if_pos c13] at h
        subst c13
        refine vx_catch (own := RL) (name := "java/lang/IllegalArgumentException") (E := exn 2) hown [⟨0, 12, 15, 13⟩] ⟨0, 12, 19, 15⟩ [⟨0, 12, 23, 17⟩] (by rw [ht]; rfl) (List.forall_mem_cons.mpr ⟨Or.inr ⟨by decide, "java/lang/IndexOutOfBoundsException", hts _ q388, hL.2 2 1 (by decide) (by decide) (by decide) (by decide) (by decide)⟩, (fun z hz => absurd hz List.not_mem_nil)⟩) rfl (by decide) (hts _ q389) (va_Nw.use rfl (hX.2.2.2.2.2.2.1 (exn 2, exn 2) (by decide +kernel))) hc1 hc2 hc3 ?_
        refine lv_astore (lv' := [(5, .ref q9), (0, .ref (a_top 0)), (1, .int x1), (2, .int x2), (3, .int x3), (4, .ref (a_out 0))]) hx hb dL_edit_19 hl (by decide) rfl (fun ls hl => ?_)
        refine lv_iconst (v := (nI 2)) hx hb dL_edit_21 (by decide) ?_
        cases h
        exact px_eWi hA0 hQ hP hD hS hx hb hr hlocks dL_edit_22
      · rw [if_neg c13] at h
        by_cases c14 : k11 = 3
        · rw [if_pos c14] at h
          subst c14
          refine vx_catch (own := RL) (name := "java/lang/UnsupportedOperationException") (E := exn 3) hown [⟨0, 12, 15, 13⟩, ⟨0, 12, 19, 15⟩] ⟨0, 12, 23, 17⟩ [] (by rw [ht]; rfl) (List.forall_mem_cons.mpr ⟨Or.inr ⟨by decide, "java/lang/IndexOutOfBoundsException", hts _ q388, hL.2 3 1 (by decide) (by decide) (by decide) (by decide) (by decide)⟩, (List.forall_mem_cons.mpr ⟨Or.inr ⟨by decide, "java/lang/IllegalArgumentException", hts _ q389, hL.2 3 2 (by decide) (by decide) (by decide) (by decide) (by decide)⟩, (fun z hz => absurd hz List.not_mem_nil)⟩)⟩) rfl (by decide) (hts _ q390) (va_Nw.use rfl (hX.2.2.2.2.2.2.1 (exn 3, exn 3) (by decide +kernel))) hc1 hc2 hc3 ?_
          refine lv_astore (lv' := [(5, .ref q9), (0, .ref (a_top 0)), (1, .int x1), (2, .int x2), (3, .int x3), (4, .ref (a_out 0))]) hx hb dL_edit_23 hl (by decide) rfl (fun ls hl => ?_)
          refine lv_iconst (v := (nI 3)) hx hb dL_edit_25 (by decide) ?_
          cases h
          exact px_eWi hA0 hQ hP hD hS hx hb hr hlocks dL_edit_26
        · rw [if_neg c14] at h
          cases h
  rw [if_pos hk] at h
  refine W.eq (g2 := F0 m 10 ls [.int r1, .int (nI 0), .ref (a_out 0)]) rfl ?_
  refine lv_i2l (v := (r1).toInt64) hx hb dL_edit_10 rfl ?_
  refine va_last (f := out_val) hx hb hL.1 hP hD hS 96 3 rfl rfl (inb_in (i := (nI 0)) (n := 1) (by decide)) dL_edit_11 (fun H locs hP hD hS => ?_)
  have hP : va_P E.1 vwCl ([gX8 E a_top (a_forest 0) (a_before 0) r_top_saved top_isSaved (a_hist 0) (a_desk 0) r_top_walk r_top_input r_top_orders r_top_written top_wrongPosition, gX0 E a_desk (a_forest 0) (a_mix 0) w2 w3, gX5 E a_mix w4 mix_conflictCount mix_lowest, gX1 E a_forest w5, gX1 E a_before w6, gX2 E a_hist w7 w8 w9, gLO L (a_out 0) (vp_updL out_val ((nI 0)).toNatClampNeg ((r1).toInt64))] : List va_W).flatten H := hP
  have hD : va_D A ([gX8 E a_top (a_forest 0) (a_before 0) r_top_saved top_isSaved (a_hist 0) (a_desk 0) r_top_walk r_top_input r_top_orders r_top_written top_wrongPosition, gX0 E a_desk (a_forest 0) (a_mix 0) w2 w3, gX5 E a_mix w4 mix_conflictCount mix_lowest, gX1 E a_forest w5, gX1 E a_before w6, gX2 E a_hist w7 w8 w9, gLO L (a_out 0) (vp_updL out_val ((nI 0)).toNatClampNeg ((r1).toInt64))] : List va_W).flatten := hD
  refine lv_goto (tgt := 27) hx hb dL_edit_12 (by decide) ?_
  refine lv_iconst (v := (nI 0)) hx hb dL_edit_27 (by decide) ?_
  cases h
  exact px_eWi hA0 hQ hP hD hS hx hb hr hlocks dL_edit_28
def fL_fork (x1 : Int32) (desk_reason : Int32) (desk_detail : Int32) (φ_forest : Fo) (φ_before : Fo) (hist_rows : (Nat → Fo)) (hist_next : Int32) (hist_count : Int32) (out_val : (Nat → Int64)) : Option (Int32 × Int32 × Int32 × Fo × Fo × (Nat → Fo) × Int32 × Int32 × (Nat → Int64)) := ((f8_fork (x1) (desk_reason) (desk_detail) (φ_forest) (φ_before) (hist_rows) (hist_next) (hist_count)).bind fun (k10, r1, w2, w3, w4, w5, w6, w7, w8) => (if k10 = 0 then (some ((nI 0), w2, w3, w4, w5, w6, w7, w8, (vp_updL out_val ((nI 0)).toNatClampNeg ((r1).toInt64)))) else (if k10 = 1 then (some ((nI 1), w2, w3, w4, w5, w6, w7, w8, out_val)) else (if k10 = 3 then (some ((nI 2), w2, w3, w4, w5, w6, w7, w8, out_val)) else none))))
set_option maxHeartbeats 4000000 in
set_option maxRecDepth 100000 in
theorem mL_fork (l : Launch) (hlt : l.stackTraces = false) (E : PE) (X : PX) (L : LX) (a_top : Nat → Nat) (a_desk : Nat → Nat) (a_forest : Nat → Nat) (a_before : Nat → Nat) (a_hist : Nat → Nat) (a_out : Nat → Nat) (r_top_saved : Nat) (r_top_walk : Nat) (r_top_input : Nat) (r_top_orders : Nat) (r_top_written : Nat) (r_desk_mix : Nat) (x1 : Int32) (top_isSaved : Int32) (top_wrongPosition : Int32) (desk_reason : Int32) (desk_detail : Int32) (φ_forest : Fo) (φ_before : Fo) (hist_rows : (Nat → Fo)) (hist_next : Int32) (hist_count : Int32) (out_val : (Nat → Int64)) (r : Int32) (z_desk_reason : Int32) (z_desk_detail : Int32) (z_forest_φ : Fo) (z_before_φ : Fo) (z_hist_rows : (Nat → Fo)) (z_hist_next : Int32) (z_hist_count : Int32) (z_out_val : (Nat → Int64)) (h : fL_fork x1 desk_reason desk_detail φ_forest φ_before hist_rows hist_next hist_count out_val = some (r, z_desk_reason, z_desk_detail, z_forest_φ, z_before_φ, z_hist_rows, z_hist_next, z_hist_count, z_out_val)) : ML l yL_fork cL_fork 4 [(0, 9, 12, 13), (0, 9, 15, 17)] { frames := 8, cells := 1, slots := 6, locals := 132 } E X L [.ref (a_top 0), .int x1, .ref (a_out 0)] ([gX8 E a_top (a_forest 0) (a_before 0) r_top_saved top_isSaved (a_hist 0) (a_desk 0) r_top_walk r_top_input r_top_orders r_top_written top_wrongPosition, gX0 E a_desk (a_forest 0) r_desk_mix desk_reason desk_detail, gX1 E a_forest φ_forest, gX1 E a_before φ_before, gX2 E a_hist hist_rows hist_next hist_count, gLO L (a_out 0) out_val] : List va_W).flatten 1 6 (some (.int r)) ([gX8 E a_top (a_forest 0) (a_before 0) r_top_saved top_isSaved (a_hist 0) (a_desk 0) r_top_walk r_top_input r_top_orders r_top_written top_wrongPosition, gX0 E a_desk (a_forest 0) r_desk_mix z_desk_reason z_desk_detail, gX1 E a_forest z_forest_φ, gX1 E a_before z_before_φ, gX2 E a_hist z_hist_rows z_hist_next z_hist_count, gLO L (a_out 0) z_out_val] : List va_W).flatten := by
  refine px_startL (by decide +kernel) (Nat.le_of_ble_eq_true rfl) ?_
  intro p e s m args below meth c R Q A ls hC hX hL hA0 hQ ht
  obtain ⟨hx, hb, hr, hml, hts, hown, hlocks, hR, hK, hN, hP, hD, hA, hl, hin⟩ := hC
  have hl : lv_has ls 4 [(0, .ref (a_top 0)), (1, .int x1), (2, .ref (a_out 0))] := hl
  suffices key : ∀ (H : Heap) (locs : List Loc), va_P E.1 vwCl ([gX8 E a_top (a_forest 0) (a_before 0) r_top_saved top_isSaved (a_hist 0) (a_desk 0) r_top_walk r_top_input r_top_orders r_top_written top_wrongPosition, gX0 E a_desk (a_forest 0) r_desk_mix desk_reason desk_detail, gX1 E a_forest φ_forest, gX1 E a_before φ_before, gX2 E a_hist hist_rows hist_next hist_count, gLO L (a_out 0) out_val] : List va_W).flatten H → va_S A s.heap H locs → W p l e R s m args below meth c H locs 0 0 Q (F0 m 0 ls []) from key s.heap [] hP va_S.rf
  unfold fL_fork at h
  intro H locs hP hS
  refine lv_aload_n hx hb dL_fork_0 rfl (lv_at hl 2 rfl) ?_
  refine lv_iconst (v := (nI 0)) hx hb dL_fork_1 (by decide) ?_
  refine lv_aload_n hx hb dL_fork_2 rfl (lv_at hl 0 rfl) ?_
  refine lv_iload_n hx hb dL_fork_3 rfl (lv_at hl 1 rfl) ?_
  obtain ⟨⟨k10, r1, w2, w3, w4, w5, w6, w7, w8⟩, hr9, h⟩ := ob h
  dsimp only at h
  refine px_VT (As := [.int x1]) (rest := [.int (nI 0), .ref (a_out 0)]) (gs := ([gX8 E a_top (a_forest 0) (a_before 0) r_top_saved top_isSaved (a_hist 0) (a_desk 0) r_top_walk r_top_input r_top_orders r_top_written top_wrongPosition, gX0 E a_desk (a_forest 0) r_desk_mix desk_reason desk_detail, gX1 E a_forest φ_forest, gX1 E a_before φ_before, gX2 E a_hist hist_rows hist_next hist_count, gLO L (a_out 0) out_val] : List va_W)) (gr := ([gLO L (a_out 0) out_val] : List va_W)) (gc := ([gX8 E a_top (a_forest 0) (a_before 0) r_top_saved top_isSaved (a_hist 0) (a_desk 0) r_top_walk r_top_input r_top_orders r_top_written top_wrongPosition, gX0 E a_desk (a_forest 0) r_desk_mix desk_reason desk_detail, gX1 E a_forest φ_forest, gX1 E a_before φ_before, gX2 E a_hist hist_rows hist_next hist_count] : List va_W)) (g1 := ([gX8 E a_top (a_forest 0) (a_before 0) r_top_saved top_isSaved (a_hist 0) (a_desk 0) r_top_walk r_top_input r_top_orders r_top_written top_wrongPosition, gX0 E a_desk (a_forest 0) r_desk_mix w2 w3, gX1 E a_forest w4, gX1 E a_before w5, gX2 E a_hist w6 w7 w8] : List va_W)) (g2 := ([gX8 E a_top (a_forest 0) (a_before 0) r_top_saved top_isSaved (a_hist 0) (a_desk 0) r_top_walk r_top_input r_top_orders r_top_written top_wrongPosition, gX0 E a_desk (a_forest 0) r_desk_mix w2 w3, gX1 E a_forest w4, gX1 E a_before w5, gX2 E a_hist w6 w7 w8, gLO L (a_out 0) out_val] : List va_W)) ⟨hx, hb, hml, hown, hts⟩ (c8_fork l hlt E X a_top a_desk a_forest a_before a_hist r_top_saved r_top_walk r_top_input r_top_orders r_top_written r_desk_mix (x1) (top_isSaved) (top_wrongPosition) (desk_reason) (desk_detail) (φ_forest) (φ_before) (hist_rows) (hist_next) (hist_count) k10 r1 w2 w3 w4 w5 w6 w7 w8 hr9) (cwV 1 hts (ws_v q556 q557 q558 q59 q559) rfl rfl rfl hdV_X8_fork (by rw [hR]; exact ⟨Nat.le_of_ble_eq_true rfl, Nat.le_of_ble_eq_true rfl⟩)) hK hN hX hP hD hS hA [5] [0, 1, 2, 3, 4] [1, 2, 3, 4, 5, 0] rfl rfl (by decide) (by decide) rfl (by decide) 0 8 rfl rfl rfl rfl hl.1 rfl (Nat.le_of_ble_eq_true rfl) dL_fork_4 (by rw [hR]; exact ⟨Nat.le_of_ble_eq_true rfl, Nat.le_of_ble_eq_true rfl⟩) (fun hk q9 ce H locs hP hD hS hc1 hc2 hc3 => ?_) (fun hk H locs hP hD hS => ?_)
  · rw [if_neg hk] at h
    by_cases c11 : k10 = 1
    · rw [if_pos c11] at h
      subst c11
      refine vx_catch (own := RL) (name := "java/lang/IndexOutOfBoundsException") (E := exn 1) hown [] ⟨0, 9, 12, 13⟩ [⟨0, 9, 15, 17⟩] (by rw [ht]; rfl) (fun z hz => absurd hz List.not_mem_nil) rfl (by decide) (hts _ q388) (va_Nw.use rfl (hX.2.2.2.2.2.2.1 (exn 1, exn 1) (by decide +kernel))) hc1 hc2 hc3 ?_
      refine lv_astore_n (lv' := [(3, .ref q9), (0, .ref (a_top 0)), (1, .int x1), (2, .ref (a_out 0))]) hx hb dL_fork_12 rfl hl (by decide) rfl (fun ls hl => ?_)
      refine lv_iconst (v := (nI 1)) hx hb dL_fork_13 (by decide) ?_
      cases h
      exact px_eWi hA0 hQ hP hD hS hx hb hr hlocks dL_fork_14
    · rw [if_neg c11] at h
      by_cases c12 : k10 = 3
      · rw [if_pos c12] at h
        subst c12
        refine vx_catch (own := RL) (name := "java/lang/UnsupportedOperationException") (E := exn 3) hown [⟨0, 9, 12, 13⟩] ⟨0, 9, 15, 17⟩ [] (by rw [ht]; rfl) (List.forall_mem_cons.mpr ⟨Or.inr ⟨by decide, "java/lang/IndexOutOfBoundsException", hts _ q388, hL.2 3 1 (by decide) (by decide) (by decide) (by decide) (by decide)⟩, (fun z hz => absurd hz List.not_mem_nil)⟩) rfl (by decide) (hts _ q390) (va_Nw.use rfl (hX.2.2.2.2.2.2.1 (exn 3, exn 3) (by decide +kernel))) hc1 hc2 hc3 ?_
        refine lv_astore_n (lv' := [(3, .ref q9), (0, .ref (a_top 0)), (1, .int x1), (2, .ref (a_out 0))]) hx hb dL_fork_15 rfl hl (by decide) rfl (fun ls hl => ?_)
        refine lv_iconst (v := (nI 2)) hx hb dL_fork_16 (by decide) ?_
        cases h
        exact px_eWi hA0 hQ hP hD hS hx hb hr hlocks dL_fork_17
      · rw [if_neg c12] at h
        cases h
  rw [if_pos hk] at h
  refine W.eq (g2 := F0 m 7 ls [.int r1, .int (nI 0), .ref (a_out 0)]) rfl ?_
  refine lv_i2l (v := (r1).toInt64) hx hb dL_fork_7 rfl ?_
  refine va_last (f := out_val) hx hb hL.1 hP hD hS 94 3 rfl rfl (inb_in (i := (nI 0)) (n := 1) (by decide)) dL_fork_8 (fun H locs hP hD hS => ?_)
  have hP : va_P E.1 vwCl ([gX8 E a_top (a_forest 0) (a_before 0) r_top_saved top_isSaved (a_hist 0) (a_desk 0) r_top_walk r_top_input r_top_orders r_top_written top_wrongPosition, gX0 E a_desk (a_forest 0) r_desk_mix w2 w3, gX1 E a_forest w4, gX1 E a_before w5, gX2 E a_hist w6 w7 w8, gLO L (a_out 0) (vp_updL out_val ((nI 0)).toNatClampNeg ((r1).toInt64))] : List va_W).flatten H := hP
  have hD : va_D A ([gX8 E a_top (a_forest 0) (a_before 0) r_top_saved top_isSaved (a_hist 0) (a_desk 0) r_top_walk r_top_input r_top_orders r_top_written top_wrongPosition, gX0 E a_desk (a_forest 0) r_desk_mix w2 w3, gX1 E a_forest w4, gX1 E a_before w5, gX2 E a_hist w6 w7 w8, gLO L (a_out 0) (vp_updL out_val ((nI 0)).toNatClampNeg ((r1).toInt64))] : List va_W).flatten := hD
  refine lv_goto (tgt := 18) hx hb dL_fork_9 (by decide) ?_
  refine lv_iconst (v := (nI 0)) hx hb dL_fork_18 (by decide) ?_
  cases h
  exact px_eWi hA0 hQ hP hD hS hx hb hr hlocks dL_fork_19
def fL_reset (x1 : Int32) (x2 : Int32) (desk_reason : Int32) (desk_detail : Int32) (φ_forest : Fo) (φ_before : Fo) (hist_rows : (Nat → Fo)) (hist_next : Int32) (hist_count : Int32) (out_val : (Nat → Int64)) : Option (Int32 × Int32 × Int32 × Fo × Fo × (Nat → Fo) × Int32 × Int32 × (Nat → Int64)) := ((f8_reset (x1) (x2) (desk_reason) (desk_detail) (φ_forest) (φ_before) (hist_rows) (hist_next) (hist_count)).bind fun (k10, r1, w2, w3, w4, w5, w6, w7, w8) => (if k10 = 0 then (some ((nI 0), w2, w3, w4, w5, w6, w7, w8, (vp_updL out_val ((nI 0)).toNatClampNeg ((r1).toInt64)))) else (if k10 = 1 then (some ((nI 1), w2, w3, w4, w5, w6, w7, w8, out_val)) else (if k10 = 3 then (some ((nI 2), w2, w3, w4, w5, w6, w7, w8, out_val)) else none))))
set_option maxHeartbeats 4000000 in
set_option maxRecDepth 100000 in
theorem mL_reset (l : Launch) (hlt : l.stackTraces = false) (E : PE) (X : PX) (L : LX) (a_top : Nat → Nat) (a_desk : Nat → Nat) (a_forest : Nat → Nat) (a_before : Nat → Nat) (a_hist : Nat → Nat) (a_out : Nat → Nat) (r_top_saved : Nat) (r_top_walk : Nat) (r_top_input : Nat) (r_top_orders : Nat) (r_top_written : Nat) (r_desk_mix : Nat) (x1 : Int32) (x2 : Int32) (top_isSaved : Int32) (top_wrongPosition : Int32) (desk_reason : Int32) (desk_detail : Int32) (φ_forest : Fo) (φ_before : Fo) (hist_rows : (Nat → Fo)) (hist_next : Int32) (hist_count : Int32) (out_val : (Nat → Int64)) (r : Int32) (z_desk_reason : Int32) (z_desk_detail : Int32) (z_forest_φ : Fo) (z_before_φ : Fo) (z_hist_rows : (Nat → Fo)) (z_hist_next : Int32) (z_hist_count : Int32) (z_out_val : (Nat → Int64)) (h : fL_reset x1 x2 desk_reason desk_detail φ_forest φ_before hist_rows hist_next hist_count out_val = some (r, z_desk_reason, z_desk_detail, z_forest_φ, z_before_φ, z_hist_rows, z_hist_next, z_hist_count, z_out_val)) : ML l yL_reset cL_reset 5 [(0, 10, 13, 13), (0, 10, 17, 17)] { frames := 8, cells := 1, slots := 6, locals := 133 } E X L [.ref (a_top 0), .int x1, .int x2, .ref (a_out 0)] ([gX8 E a_top (a_forest 0) (a_before 0) r_top_saved top_isSaved (a_hist 0) (a_desk 0) r_top_walk r_top_input r_top_orders r_top_written top_wrongPosition, gX0 E a_desk (a_forest 0) r_desk_mix desk_reason desk_detail, gX1 E a_forest φ_forest, gX1 E a_before φ_before, gX2 E a_hist hist_rows hist_next hist_count, gLO L (a_out 0) out_val] : List va_W).flatten 1 6 (some (.int r)) ([gX8 E a_top (a_forest 0) (a_before 0) r_top_saved top_isSaved (a_hist 0) (a_desk 0) r_top_walk r_top_input r_top_orders r_top_written top_wrongPosition, gX0 E a_desk (a_forest 0) r_desk_mix z_desk_reason z_desk_detail, gX1 E a_forest z_forest_φ, gX1 E a_before z_before_φ, gX2 E a_hist z_hist_rows z_hist_next z_hist_count, gLO L (a_out 0) z_out_val] : List va_W).flatten := by
  refine px_startL (by decide +kernel) (Nat.le_of_ble_eq_true rfl) ?_
  intro p e s m args below meth c R Q A ls hC hX hL hA0 hQ ht
  obtain ⟨hx, hb, hr, hml, hts, hown, hlocks, hR, hK, hN, hP, hD, hA, hl, hin⟩ := hC
  have hl : lv_has ls 5 [(0, .ref (a_top 0)), (1, .int x1), (2, .int x2), (3, .ref (a_out 0))] := hl
  suffices key : ∀ (H : Heap) (locs : List Loc), va_P E.1 vwCl ([gX8 E a_top (a_forest 0) (a_before 0) r_top_saved top_isSaved (a_hist 0) (a_desk 0) r_top_walk r_top_input r_top_orders r_top_written top_wrongPosition, gX0 E a_desk (a_forest 0) r_desk_mix desk_reason desk_detail, gX1 E a_forest φ_forest, gX1 E a_before φ_before, gX2 E a_hist hist_rows hist_next hist_count, gLO L (a_out 0) out_val] : List va_W).flatten H → va_S A s.heap H locs → W p l e R s m args below meth c H locs 0 0 Q (F0 m 0 ls []) from key s.heap [] hP va_S.rf
  unfold fL_reset at h
  intro H locs hP hS
  refine lv_aload_n hx hb dL_reset_0 rfl (lv_at hl 3 rfl) ?_
  refine lv_iconst (v := (nI 0)) hx hb dL_reset_1 (by decide) ?_
  refine lv_aload_n hx hb dL_reset_2 rfl (lv_at hl 0 rfl) ?_
  refine lv_iload_n hx hb dL_reset_3 rfl (lv_at hl 1 rfl) ?_
  refine lv_iload_n hx hb dL_reset_4 rfl (lv_at hl 2 rfl) ?_
  obtain ⟨⟨k10, r1, w2, w3, w4, w5, w6, w7, w8⟩, hr9, h⟩ := ob h
  dsimp only at h
  refine px_VT (As := [.int x1, .int x2]) (rest := [.int (nI 0), .ref (a_out 0)]) (gs := ([gX8 E a_top (a_forest 0) (a_before 0) r_top_saved top_isSaved (a_hist 0) (a_desk 0) r_top_walk r_top_input r_top_orders r_top_written top_wrongPosition, gX0 E a_desk (a_forest 0) r_desk_mix desk_reason desk_detail, gX1 E a_forest φ_forest, gX1 E a_before φ_before, gX2 E a_hist hist_rows hist_next hist_count, gLO L (a_out 0) out_val] : List va_W)) (gr := ([gLO L (a_out 0) out_val] : List va_W)) (gc := ([gX8 E a_top (a_forest 0) (a_before 0) r_top_saved top_isSaved (a_hist 0) (a_desk 0) r_top_walk r_top_input r_top_orders r_top_written top_wrongPosition, gX0 E a_desk (a_forest 0) r_desk_mix desk_reason desk_detail, gX1 E a_forest φ_forest, gX1 E a_before φ_before, gX2 E a_hist hist_rows hist_next hist_count] : List va_W)) (g1 := ([gX8 E a_top (a_forest 0) (a_before 0) r_top_saved top_isSaved (a_hist 0) (a_desk 0) r_top_walk r_top_input r_top_orders r_top_written top_wrongPosition, gX0 E a_desk (a_forest 0) r_desk_mix w2 w3, gX1 E a_forest w4, gX1 E a_before w5, gX2 E a_hist w6 w7 w8] : List va_W)) (g2 := ([gX8 E a_top (a_forest 0) (a_before 0) r_top_saved top_isSaved (a_hist 0) (a_desk 0) r_top_walk r_top_input r_top_orders r_top_written top_wrongPosition, gX0 E a_desk (a_forest 0) r_desk_mix w2 w3, gX1 E a_forest w4, gX1 E a_before w5, gX2 E a_hist w6 w7 w8, gLO L (a_out 0) out_val] : List va_W)) ⟨hx, hb, hml, hown, hts⟩ (c8_reset l hlt E X a_top a_desk a_forest a_before a_hist r_top_saved r_top_walk r_top_input r_top_orders r_top_written r_desk_mix (x1) (x2) (top_isSaved) (top_wrongPosition) (desk_reason) (desk_detail) (φ_forest) (φ_before) (hist_rows) (hist_next) (hist_count) k10 r1 w2 w3 w4 w5 w6 w7 w8 hr9) (cwV 2 hts (ws_v q572 q573 q574 q59 q575) rfl rfl rfl hdV_X8_reset (by rw [hR]; exact ⟨Nat.le_of_ble_eq_true rfl, Nat.le_of_ble_eq_true rfl⟩)) hK hN hX hP hD hS hA [5] [0, 1, 2, 3, 4] [1, 2, 3, 4, 5, 0] rfl rfl (by decide) (by decide) rfl (by decide) 0 8 rfl rfl rfl rfl hl.1 rfl (Nat.le_of_ble_eq_true rfl) dL_reset_5 (by rw [hR]; exact ⟨Nat.le_of_ble_eq_true rfl, Nat.le_of_ble_eq_true rfl⟩) (fun hk q9 ce H locs hP hD hS hc1 hc2 hc3 => ?_) (fun hk H locs hP hD hS => ?_)
  · rw [if_neg hk] at h
    by_cases c11 : k10 = 1
    · rw [if_pos c11] at h
      subst c11
      refine vx_catch (own := RL) (name := "java/lang/IndexOutOfBoundsException") (E := exn 1) hown [] ⟨0, 10, 13, 13⟩ [⟨0, 10, 17, 17⟩] (by rw [ht]; rfl) (fun z hz => absurd hz List.not_mem_nil) rfl (by decide) (hts _ q388) (va_Nw.use rfl (hX.2.2.2.2.2.2.1 (exn 1, exn 1) (by decide +kernel))) hc1 hc2 hc3 ?_
      refine lv_astore (lv' := [(4, .ref q9), (0, .ref (a_top 0)), (1, .int x1), (2, .int x2), (3, .ref (a_out 0))]) hx hb dL_reset_13 hl (by decide) rfl (fun ls hl => ?_)
      refine lv_iconst (v := (nI 1)) hx hb dL_reset_15 (by decide) ?_
      cases h
      exact px_eWi hA0 hQ hP hD hS hx hb hr hlocks dL_reset_16
    · rw [if_neg c11] at h
      by_cases c12 : k10 = 3
      · rw [if_pos c12] at h
        subst c12
        refine vx_catch (own := RL) (name := "java/lang/UnsupportedOperationException") (E := exn 3) hown [⟨0, 10, 13, 13⟩] ⟨0, 10, 17, 17⟩ [] (by rw [ht]; rfl) (List.forall_mem_cons.mpr ⟨Or.inr ⟨by decide, "java/lang/IndexOutOfBoundsException", hts _ q388, hL.2 3 1 (by decide) (by decide) (by decide) (by decide) (by decide)⟩, (fun z hz => absurd hz List.not_mem_nil)⟩) rfl (by decide) (hts _ q390) (va_Nw.use rfl (hX.2.2.2.2.2.2.1 (exn 3, exn 3) (by decide +kernel))) hc1 hc2 hc3 ?_
        refine lv_astore (lv' := [(4, .ref q9), (0, .ref (a_top 0)), (1, .int x1), (2, .int x2), (3, .ref (a_out 0))]) hx hb dL_reset_17 hl (by decide) rfl (fun ls hl => ?_)
        refine lv_iconst (v := (nI 2)) hx hb dL_reset_19 (by decide) ?_
        cases h
        exact px_eWi hA0 hQ hP hD hS hx hb hr hlocks dL_reset_20
      · rw [if_neg c12] at h
        cases h
  rw [if_pos hk] at h
  refine W.eq (g2 := F0 m 8 ls [.int r1, .int (nI 0), .ref (a_out 0)]) rfl ?_
  refine lv_i2l (v := (r1).toInt64) hx hb dL_reset_8 rfl ?_
  refine va_last (f := out_val) hx hb hL.1 hP hD hS 94 3 rfl rfl (inb_in (i := (nI 0)) (n := 1) (by decide)) dL_reset_9 (fun H locs hP hD hS => ?_)
  have hP : va_P E.1 vwCl ([gX8 E a_top (a_forest 0) (a_before 0) r_top_saved top_isSaved (a_hist 0) (a_desk 0) r_top_walk r_top_input r_top_orders r_top_written top_wrongPosition, gX0 E a_desk (a_forest 0) r_desk_mix w2 w3, gX1 E a_forest w4, gX1 E a_before w5, gX2 E a_hist w6 w7 w8, gLO L (a_out 0) (vp_updL out_val ((nI 0)).toNatClampNeg ((r1).toInt64))] : List va_W).flatten H := hP
  have hD : va_D A ([gX8 E a_top (a_forest 0) (a_before 0) r_top_saved top_isSaved (a_hist 0) (a_desk 0) r_top_walk r_top_input r_top_orders r_top_written top_wrongPosition, gX0 E a_desk (a_forest 0) r_desk_mix w2 w3, gX1 E a_forest w4, gX1 E a_before w5, gX2 E a_hist w6 w7 w8, gLO L (a_out 0) (vp_updL out_val ((nI 0)).toNatClampNeg ((r1).toInt64))] : List va_W).flatten := hD
  refine lv_goto (tgt := 21) hx hb dL_reset_10 (by decide) ?_
  refine lv_iconst (v := (nI 0)) hx hb dL_reset_21 (by decide) ?_
  cases h
  exact px_eWi hA0 hQ hP hD hS hx hb hr hlocks dL_reset_22
def fL_tip (x1 : Int32) (φ_forest : Fo) (out_val : (Nat → Int64)) : Option (Int32 × (Nat → Int64)) := ((f8_tip (x1) (φ_forest)).bind fun (k3, r1) => (if k3 = 0 then (some ((nI 0), (vp_updL out_val ((nI 0)).toNatClampNeg ((r1).toInt64)))) else (if k3 = 1 then (some ((nI 1), out_val)) else none)))
set_option maxHeartbeats 4000000 in
set_option maxRecDepth 100000 in
theorem mL_tip (l : Launch) (hlt : l.stackTraces = false) (E : PE) (X : PX) (L : LX) (a_top : Nat → Nat) (a_forest : Nat → Nat) (a_out : Nat → Nat) (r_top_before : Nat) (r_top_saved : Nat) (r_top_history : Nat) (r_top_desk : Nat) (r_top_walk : Nat) (r_top_input : Nat) (r_top_orders : Nat) (r_top_written : Nat) (x1 : Int32) (top_isSaved : Int32) (top_wrongPosition : Int32) (φ_forest : Fo) (out_val : (Nat → Int64)) (r : Int32) (z_out_val : (Nat → Int64)) (h : fL_tip x1 φ_forest out_val = some (r, z_out_val)) : ML l yL_tip cL_tip 4 [(0, 9, 12, 13)] { frames := 8, cells := 1, slots := 6, locals := 132 } E X L [.ref (a_top 0), .int x1, .ref (a_out 0)] ([gX8 E a_top (a_forest 0) r_top_before r_top_saved top_isSaved r_top_history r_top_desk r_top_walk r_top_input r_top_orders r_top_written top_wrongPosition, gX1 E a_forest φ_forest, gLO L (a_out 0) out_val] : List va_W).flatten 1 6 (some (.int r)) ([gX8 E a_top (a_forest 0) r_top_before r_top_saved top_isSaved r_top_history r_top_desk r_top_walk r_top_input r_top_orders r_top_written top_wrongPosition, gX1 E a_forest φ_forest, gLO L (a_out 0) z_out_val] : List va_W).flatten := by
  refine px_startL (by decide +kernel) (Nat.le_of_ble_eq_true rfl) ?_
  intro p e s m args below meth c R Q A ls hC hX hL hA0 hQ ht
  obtain ⟨hx, hb, hr, hml, hts, hown, hlocks, hR, hK, hN, hP, hD, hA, hl, hin⟩ := hC
  have hl : lv_has ls 4 [(0, .ref (a_top 0)), (1, .int x1), (2, .ref (a_out 0))] := hl
  suffices key : ∀ (H : Heap) (locs : List Loc), va_P E.1 vwCl ([gX8 E a_top (a_forest 0) r_top_before r_top_saved top_isSaved r_top_history r_top_desk r_top_walk r_top_input r_top_orders r_top_written top_wrongPosition, gX1 E a_forest φ_forest, gLO L (a_out 0) out_val] : List va_W).flatten H → va_S A s.heap H locs → W p l e R s m args below meth c H locs 0 0 Q (F0 m 0 ls []) from key s.heap [] hP va_S.rf
  unfold fL_tip at h
  intro H locs hP hS
  refine lv_aload_n hx hb dL_tip_0 rfl (lv_at hl 2 rfl) ?_
  refine lv_iconst (v := (nI 0)) hx hb dL_tip_1 (by decide) ?_
  refine lv_aload_n hx hb dL_tip_2 rfl (lv_at hl 0 rfl) ?_
  refine lv_iload_n hx hb dL_tip_3 rfl (lv_at hl 1 rfl) ?_
  obtain ⟨⟨k3, r1⟩, hr2, h⟩ := ob h
  dsimp only at h
  refine px_VT (As := [.int x1]) (rest := [.int (nI 0), .ref (a_out 0)]) (gs := ([gX8 E a_top (a_forest 0) r_top_before r_top_saved top_isSaved r_top_history r_top_desk r_top_walk r_top_input r_top_orders r_top_written top_wrongPosition, gX1 E a_forest φ_forest, gLO L (a_out 0) out_val] : List va_W)) (gr := ([gLO L (a_out 0) out_val] : List va_W)) (gc := ([gX8 E a_top (a_forest 0) r_top_before r_top_saved top_isSaved r_top_history r_top_desk r_top_walk r_top_input r_top_orders r_top_written top_wrongPosition, gX1 E a_forest φ_forest] : List va_W)) (g1 := ([gX8 E a_top (a_forest 0) r_top_before r_top_saved top_isSaved r_top_history r_top_desk r_top_walk r_top_input r_top_orders r_top_written top_wrongPosition, gX1 E a_forest φ_forest] : List va_W)) (g2 := ([gX8 E a_top (a_forest 0) r_top_before r_top_saved top_isSaved r_top_history r_top_desk r_top_walk r_top_input r_top_orders r_top_written top_wrongPosition, gX1 E a_forest φ_forest, gLO L (a_out 0) out_val] : List va_W)) ⟨hx, hb, hml, hown, hts⟩ (c8_tip l hlt E X a_top a_forest r_top_before r_top_saved r_top_history r_top_desk r_top_walk r_top_input r_top_orders r_top_written (x1) (top_isSaved) (top_wrongPosition) (φ_forest) k3 r1 hr2) (cwV 1 hts (ws_v q591 q592 q593 q59 q594) rfl rfl rfl hdV_X8_tip (by rw [hR]; exact ⟨Nat.le_of_ble_eq_true rfl, Nat.le_of_ble_eq_true rfl⟩)) hK hN hX hP hD hS hA [2] [0, 1] [1, 2, 0] rfl rfl (by decide) (by decide) rfl (by decide) 0 8 rfl rfl rfl rfl hl.1 rfl (Nat.le_of_ble_eq_true rfl) dL_tip_4 (by rw [hR]; exact ⟨Nat.le_of_ble_eq_true rfl, Nat.le_of_ble_eq_true rfl⟩) (fun hk q9 ce H locs hP hD hS hc1 hc2 hc3 => ?_) (fun hk H locs hP hD hS => ?_)
  · rw [if_neg hk] at h
    by_cases c4 : k3 = 1
    · rw [if_pos c4] at h
      subst c4
      refine vx_catch (own := RL) (name := "java/lang/IndexOutOfBoundsException") (E := exn 1) hown [] ⟨0, 9, 12, 13⟩ [] (by rw [ht]; rfl) (fun z hz => absurd hz List.not_mem_nil) rfl (by decide) (hts _ q388) (va_Nw.use rfl (hX.2.2.2.2.2.2.1 (exn 1, exn 1) (by decide +kernel))) hc1 hc2 hc3 ?_
      refine lv_astore_n (lv' := [(3, .ref q9), (0, .ref (a_top 0)), (1, .int x1), (2, .ref (a_out 0))]) hx hb dL_tip_12 rfl hl (by decide) rfl (fun ls hl => ?_)
      refine lv_iconst (v := (nI 1)) hx hb dL_tip_13 (by decide) ?_
      cases h
      exact px_eWi hA0 hQ hP hD hS hx hb hr hlocks dL_tip_14
    · rw [if_neg c4] at h
      cases h
  rw [if_pos hk] at h
  refine W.eq (g2 := F0 m 7 ls [.int r1, .int (nI 0), .ref (a_out 0)]) rfl ?_
  refine lv_i2l (v := (r1).toInt64) hx hb dL_tip_7 rfl ?_
  refine va_last (f := out_val) hx hb hL.1 hP hD hS 10 3 rfl rfl (inb_in (i := (nI 0)) (n := 1) (by decide)) dL_tip_8 (fun H locs hP hD hS => ?_)
  have hP : va_P E.1 vwCl ([gX8 E a_top (a_forest 0) r_top_before r_top_saved top_isSaved r_top_history r_top_desk r_top_walk r_top_input r_top_orders r_top_written top_wrongPosition, gX1 E a_forest φ_forest, gLO L (a_out 0) (vp_updL out_val ((nI 0)).toNatClampNeg ((r1).toInt64))] : List va_W).flatten H := hP
  have hD : va_D A ([gX8 E a_top (a_forest 0) r_top_before r_top_saved top_isSaved r_top_history r_top_desk r_top_walk r_top_input r_top_orders r_top_written top_wrongPosition, gX1 E a_forest φ_forest, gLO L (a_out 0) (vp_updL out_val ((nI 0)).toNatClampNeg ((r1).toInt64))] : List va_W).flatten := hD
  refine lv_goto (tgt := 15) hx hb dL_tip_9 (by decide) ?_
  refine lv_iconst (v := (nI 0)) hx hb dL_tip_15 (by decide) ?_
  cases h
  exact px_eWi hA0 hQ hP hD hS hx hb hr hlocks dL_tip_16
def fL_amount (x1 : Int32) (x2 : Int32) (φ_forest : Fo) (out_val : (Nat → Int64)) : Option (Int32 × (Nat → Int64)) := ((f8_amount (x1) (x2) (φ_forest)).bind fun (k3, r1) => (if k3 = 0 then (some ((nI 0), (vp_updL out_val ((nI 0)).toNatClampNeg ((r1).toInt64)))) else (if k3 = 1 then (some ((nI 1), out_val)) else none)))
set_option maxHeartbeats 4000000 in
set_option maxRecDepth 100000 in
theorem mL_amount (l : Launch) (hlt : l.stackTraces = false) (E : PE) (X : PX) (L : LX) (a_top : Nat → Nat) (a_forest : Nat → Nat) (a_out : Nat → Nat) (r_top_before : Nat) (r_top_saved : Nat) (r_top_history : Nat) (r_top_desk : Nat) (r_top_walk : Nat) (r_top_input : Nat) (r_top_orders : Nat) (r_top_written : Nat) (x1 : Int32) (x2 : Int32) (top_isSaved : Int32) (top_wrongPosition : Int32) (φ_forest : Fo) (out_val : (Nat → Int64)) (r : Int32) (z_out_val : (Nat → Int64)) (h : fL_amount x1 x2 φ_forest out_val = some (r, z_out_val)) : ML l yL_amount cL_amount 5 [(0, 10, 13, 13)] { frames := 8, cells := 2, slots := 12, locals := 133 } E X L [.ref (a_top 0), .int x1, .int x2, .ref (a_out 0)] ([gX8 E a_top (a_forest 0) r_top_before r_top_saved top_isSaved r_top_history r_top_desk r_top_walk r_top_input r_top_orders r_top_written top_wrongPosition, gX1 E a_forest φ_forest, gLO L (a_out 0) out_val] : List va_W).flatten 2 12 (some (.int r)) ([gX8 E a_top (a_forest 0) r_top_before r_top_saved top_isSaved r_top_history r_top_desk r_top_walk r_top_input r_top_orders r_top_written top_wrongPosition, gX1 E a_forest φ_forest, gLO L (a_out 0) z_out_val] : List va_W).flatten := by
  refine px_startL (by decide +kernel) (Nat.le_of_ble_eq_true rfl) ?_
  intro p e s m args below meth c R Q A ls hC hX hL hA0 hQ ht
  obtain ⟨hx, hb, hr, hml, hts, hown, hlocks, hR, hK, hN, hP, hD, hA, hl, hin⟩ := hC
  have hl : lv_has ls 5 [(0, .ref (a_top 0)), (1, .int x1), (2, .int x2), (3, .ref (a_out 0))] := hl
  suffices key : ∀ (H : Heap) (locs : List Loc), va_P E.1 vwCl ([gX8 E a_top (a_forest 0) r_top_before r_top_saved top_isSaved r_top_history r_top_desk r_top_walk r_top_input r_top_orders r_top_written top_wrongPosition, gX1 E a_forest φ_forest, gLO L (a_out 0) out_val] : List va_W).flatten H → va_S A s.heap H locs → W p l e R s m args below meth c H locs 0 0 Q (F0 m 0 ls []) from key s.heap [] hP va_S.rf
  unfold fL_amount at h
  intro H locs hP hS
  refine lv_aload_n hx hb dL_amount_0 rfl (lv_at hl 3 rfl) ?_
  refine lv_iconst (v := (nI 0)) hx hb dL_amount_1 (by decide) ?_
  refine lv_aload_n hx hb dL_amount_2 rfl (lv_at hl 0 rfl) ?_
  refine lv_iload_n hx hb dL_amount_3 rfl (lv_at hl 1 rfl) ?_
  refine lv_iload_n hx hb dL_amount_4 rfl (lv_at hl 2 rfl) ?_
  obtain ⟨⟨k3, r1⟩, hr2, h⟩ := ob h
  dsimp only at h
  refine px_VT (As := [.int x1, .int x2]) (rest := [.int (nI 0), .ref (a_out 0)]) (gs := ([gX8 E a_top (a_forest 0) r_top_before r_top_saved top_isSaved r_top_history r_top_desk r_top_walk r_top_input r_top_orders r_top_written top_wrongPosition, gX1 E a_forest φ_forest, gLO L (a_out 0) out_val] : List va_W)) (gr := ([gLO L (a_out 0) out_val] : List va_W)) (gc := ([gX8 E a_top (a_forest 0) r_top_before r_top_saved top_isSaved r_top_history r_top_desk r_top_walk r_top_input r_top_orders r_top_written top_wrongPosition, gX1 E a_forest φ_forest] : List va_W)) (g1 := ([gX8 E a_top (a_forest 0) r_top_before r_top_saved top_isSaved r_top_history r_top_desk r_top_walk r_top_input r_top_orders r_top_written top_wrongPosition, gX1 E a_forest φ_forest] : List va_W)) (g2 := ([gX8 E a_top (a_forest 0) r_top_before r_top_saved top_isSaved r_top_history r_top_desk r_top_walk r_top_input r_top_orders r_top_written top_wrongPosition, gX1 E a_forest φ_forest, gLO L (a_out 0) out_val] : List va_W)) ⟨hx, hb, hml, hown, hts⟩ (c8_amount l hlt E X a_top a_forest r_top_before r_top_saved r_top_history r_top_desk r_top_walk r_top_input r_top_orders r_top_written (x1) (x2) (top_isSaved) (top_wrongPosition) (φ_forest) k3 r1 hr2) (cwV 2 hts (ws_v q604 q605 q606 q59 q607) rfl rfl rfl hdV_X8_amount (by rw [hR]; exact ⟨Nat.le_of_ble_eq_true rfl, Nat.le_of_ble_eq_true rfl⟩)) hK hN hX hP hD hS hA [2] [0, 1] [1, 2, 0] rfl rfl (by decide) (by decide) rfl (by decide) 0 8 rfl rfl rfl rfl hl.1 rfl (Nat.le_of_ble_eq_true rfl) dL_amount_5 (by rw [hR]; exact ⟨Nat.le_of_ble_eq_true rfl, Nat.le_of_ble_eq_true rfl⟩) (fun hk q9 ce H locs hP hD hS hc1 hc2 hc3 => ?_) (fun hk H locs hP hD hS => ?_)
  · rw [if_neg hk] at h
    by_cases c4 : k3 = 1
    · rw [if_pos c4] at h
      subst c4
      refine vx_catch (own := RL) (name := "java/lang/IndexOutOfBoundsException") (E := exn 1) hown [] ⟨0, 10, 13, 13⟩ [] (by rw [ht]; rfl) (fun z hz => absurd hz List.not_mem_nil) rfl (by decide) (hts _ q388) (va_Nw.use rfl (hX.2.2.2.2.2.2.1 (exn 1, exn 1) (by decide +kernel))) hc1 hc2 hc3 ?_
      refine lv_astore (lv' := [(4, .ref q9), (0, .ref (a_top 0)), (1, .int x1), (2, .int x2), (3, .ref (a_out 0))]) hx hb dL_amount_13 hl (by decide) rfl (fun ls hl => ?_)
      refine lv_iconst (v := (nI 1)) hx hb dL_amount_15 (by decide) ?_
      cases h
      exact px_eWi hA0 hQ hP hD hS hx hb hr hlocks dL_amount_16
    · rw [if_neg c4] at h
      cases h
  rw [if_pos hk] at h
  refine W.eq (g2 := F0 m 8 ls [.int r1, .int (nI 0), .ref (a_out 0)]) rfl ?_
  refine lv_i2l (v := (r1).toInt64) hx hb dL_amount_8 rfl ?_
  refine va_last (f := out_val) hx hb hL.1 hP hD hS 10 3 rfl rfl (inb_in (i := (nI 0)) (n := 1) (by decide)) dL_amount_9 (fun H locs hP hD hS => ?_)
  have hP : va_P E.1 vwCl ([gX8 E a_top (a_forest 0) r_top_before r_top_saved top_isSaved r_top_history r_top_desk r_top_walk r_top_input r_top_orders r_top_written top_wrongPosition, gX1 E a_forest φ_forest, gLO L (a_out 0) (vp_updL out_val ((nI 0)).toNatClampNeg ((r1).toInt64))] : List va_W).flatten H := hP
  have hD : va_D A ([gX8 E a_top (a_forest 0) r_top_before r_top_saved top_isSaved r_top_history r_top_desk r_top_walk r_top_input r_top_orders r_top_written top_wrongPosition, gX1 E a_forest φ_forest, gLO L (a_out 0) (vp_updL out_val ((nI 0)).toNatClampNeg ((r1).toInt64))] : List va_W).flatten := hD
  refine lv_goto (tgt := 17) hx hb dL_amount_10 (by decide) ?_
  refine lv_iconst (v := (nI 0)) hx hb dL_amount_17 (by decide) ?_
  cases h
  exact px_eWi hA0 hQ hP hD hS hx hb hr hlocks dL_amount_18
def fL_commitOf (x1 : Int32) (x2 : Int32) (φ_forest : Fo) (out_val : (Nat → Int64)) : Option (Int32 × (Nat → Int64)) := ((f8_commitOf (x1) (x2) (φ_forest)).bind fun (k3, r1) => (if k3 = 0 then (some ((nI 0), (vp_updL out_val ((nI 0)).toNatClampNeg ((r1).toInt64)))) else (if k3 = 1 then (some ((nI 1), out_val)) else (if k3 = 2 then (some ((nI 2), out_val)) else none))))
set_option maxHeartbeats 4000000 in
set_option maxRecDepth 100000 in
theorem mL_commitOf (l : Launch) (hlt : l.stackTraces = false) (E : PE) (X : PX) (L : LX) (a_top : Nat → Nat) (a_forest : Nat → Nat) (a_out : Nat → Nat) (r_top_before : Nat) (r_top_saved : Nat) (r_top_history : Nat) (r_top_desk : Nat) (r_top_walk : Nat) (r_top_input : Nat) (r_top_orders : Nat) (r_top_written : Nat) (x1 : Int32) (x2 : Int32) (top_isSaved : Int32) (top_wrongPosition : Int32) (φ_forest : Fo) (out_val : (Nat → Int64)) (r : Int32) (z_out_val : (Nat → Int64)) (h : fL_commitOf x1 x2 φ_forest out_val = some (r, z_out_val)) : ML l yL_commitOf cL_commitOf 5 [(0, 10, 13, 13), (0, 10, 17, 15)] { frames := 8, cells := 2, slots := 12, locals := 133 } E X L [.ref (a_top 0), .int x1, .int x2, .ref (a_out 0)] ([gX8 E a_top (a_forest 0) r_top_before r_top_saved top_isSaved r_top_history r_top_desk r_top_walk r_top_input r_top_orders r_top_written top_wrongPosition, gX1 E a_forest φ_forest, gLO L (a_out 0) out_val] : List va_W).flatten 2 12 (some (.int r)) ([gX8 E a_top (a_forest 0) r_top_before r_top_saved top_isSaved r_top_history r_top_desk r_top_walk r_top_input r_top_orders r_top_written top_wrongPosition, gX1 E a_forest φ_forest, gLO L (a_out 0) z_out_val] : List va_W).flatten := by
  refine px_startL (by decide +kernel) (Nat.le_of_ble_eq_true rfl) ?_
  intro p e s m args below meth c R Q A ls hC hX hL hA0 hQ ht
  obtain ⟨hx, hb, hr, hml, hts, hown, hlocks, hR, hK, hN, hP, hD, hA, hl, hin⟩ := hC
  have hl : lv_has ls 5 [(0, .ref (a_top 0)), (1, .int x1), (2, .int x2), (3, .ref (a_out 0))] := hl
  suffices key : ∀ (H : Heap) (locs : List Loc), va_P E.1 vwCl ([gX8 E a_top (a_forest 0) r_top_before r_top_saved top_isSaved r_top_history r_top_desk r_top_walk r_top_input r_top_orders r_top_written top_wrongPosition, gX1 E a_forest φ_forest, gLO L (a_out 0) out_val] : List va_W).flatten H → va_S A s.heap H locs → W p l e R s m args below meth c H locs 0 0 Q (F0 m 0 ls []) from key s.heap [] hP va_S.rf
  unfold fL_commitOf at h
  intro H locs hP hS
  refine lv_aload_n hx hb dL_commitOf_0 rfl (lv_at hl 3 rfl) ?_
  refine lv_iconst (v := (nI 0)) hx hb dL_commitOf_1 (by decide) ?_
  refine lv_aload_n hx hb dL_commitOf_2 rfl (lv_at hl 0 rfl) ?_
  refine lv_iload_n hx hb dL_commitOf_3 rfl (lv_at hl 1 rfl) ?_
  refine lv_iload_n hx hb dL_commitOf_4 rfl (lv_at hl 2 rfl) ?_
  obtain ⟨⟨k3, r1⟩, hr2, h⟩ := ob h
  dsimp only at h
  refine px_VT (As := [.int x1, .int x2]) (rest := [.int (nI 0), .ref (a_out 0)]) (gs := ([gX8 E a_top (a_forest 0) r_top_before r_top_saved top_isSaved r_top_history r_top_desk r_top_walk r_top_input r_top_orders r_top_written top_wrongPosition, gX1 E a_forest φ_forest, gLO L (a_out 0) out_val] : List va_W)) (gr := ([gLO L (a_out 0) out_val] : List va_W)) (gc := ([gX8 E a_top (a_forest 0) r_top_before r_top_saved top_isSaved r_top_history r_top_desk r_top_walk r_top_input r_top_orders r_top_written top_wrongPosition, gX1 E a_forest φ_forest] : List va_W)) (g1 := ([gX8 E a_top (a_forest 0) r_top_before r_top_saved top_isSaved r_top_history r_top_desk r_top_walk r_top_input r_top_orders r_top_written top_wrongPosition, gX1 E a_forest φ_forest] : List va_W)) (g2 := ([gX8 E a_top (a_forest 0) r_top_before r_top_saved top_isSaved r_top_history r_top_desk r_top_walk r_top_input r_top_orders r_top_written top_wrongPosition, gX1 E a_forest φ_forest, gLO L (a_out 0) out_val] : List va_W)) ⟨hx, hb, hml, hown, hts⟩ (c8_commitOf l hlt E X a_top a_forest r_top_before r_top_saved r_top_history r_top_desk r_top_walk r_top_input r_top_orders r_top_written (x1) (x2) (top_isSaved) (top_wrongPosition) (φ_forest) k3 r1 hr2) (cwV 2 hts (ws_v q624 q625 q626 q59 q627) rfl rfl rfl hdV_X8_commitOf (by rw [hR]; exact ⟨Nat.le_of_ble_eq_true rfl, Nat.le_of_ble_eq_true rfl⟩)) hK hN hX hP hD hS hA [2] [0, 1] [1, 2, 0] rfl rfl (by decide) (by decide) rfl (by decide) 0 8 rfl rfl rfl rfl hl.1 rfl (Nat.le_of_ble_eq_true rfl) dL_commitOf_5 (by rw [hR]; exact ⟨Nat.le_of_ble_eq_true rfl, Nat.le_of_ble_eq_true rfl⟩) (fun hk q9 ce H locs hP hD hS hc1 hc2 hc3 => ?_) (fun hk H locs hP hD hS => ?_)
  · rw [if_neg hk] at h
    by_cases c4 : k3 = 1
    · rw [if_pos c4] at h
      subst c4
      refine vx_catch (own := RL) (name := "java/lang/IndexOutOfBoundsException") (E := exn 1) hown [] ⟨0, 10, 13, 13⟩ [⟨0, 10, 17, 15⟩] (by rw [ht]; rfl) (fun z hz => absurd hz List.not_mem_nil) rfl (by decide) (hts _ q388) (va_Nw.use rfl (hX.2.2.2.2.2.2.1 (exn 1, exn 1) (by decide +kernel))) hc1 hc2 hc3 ?_
      refine lv_astore (lv' := [(4, .ref q9), (0, .ref (a_top 0)), (1, .int x1), (2, .int x2), (3, .ref (a_out 0))]) hx hb dL_commitOf_13 hl (by decide) rfl (fun ls hl => ?_)
      refine lv_iconst (v := (nI 1)) hx hb dL_commitOf_15 (by decide) ?_
      cases h
      exact px_eWi hA0 hQ hP hD hS hx hb hr hlocks dL_commitOf_16
    · rw [if_neg c4] at h
      by_cases c5 : k3 = 2
      · rw [if_pos c5] at h
        subst c5
        refine vx_catch (own := RL) (name := "java/lang/IllegalArgumentException") (E := exn 2) hown [⟨0, 10, 13, 13⟩] ⟨0, 10, 17, 15⟩ [] (by rw [ht]; rfl) (List.forall_mem_cons.mpr ⟨Or.inr ⟨by decide, "java/lang/IndexOutOfBoundsException", hts _ q388, hL.2 2 1 (by decide) (by decide) (by decide) (by decide) (by decide)⟩, (fun z hz => absurd hz List.not_mem_nil)⟩) rfl (by decide) (hts _ q389) (va_Nw.use rfl (hX.2.2.2.2.2.2.1 (exn 2, exn 2) (by decide +kernel))) hc1 hc2 hc3 ?_
        refine lv_astore (lv' := [(4, .ref q9), (0, .ref (a_top 0)), (1, .int x1), (2, .int x2), (3, .ref (a_out 0))]) hx hb dL_commitOf_17 hl (by decide) rfl (fun ls hl => ?_)
        refine lv_iconst (v := (nI 2)) hx hb dL_commitOf_19 (by decide) ?_
        cases h
        exact px_eWi hA0 hQ hP hD hS hx hb hr hlocks dL_commitOf_20
      · rw [if_neg c5] at h
        cases h
  rw [if_pos hk] at h
  refine W.eq (g2 := F0 m 8 ls [.int r1, .int (nI 0), .ref (a_out 0)]) rfl ?_
  refine lv_i2l (v := (r1).toInt64) hx hb dL_commitOf_8 rfl ?_
  refine va_last (f := out_val) hx hb hL.1 hP hD hS 10 3 rfl rfl (inb_in (i := (nI 0)) (n := 1) (by decide)) dL_commitOf_9 (fun H locs hP hD hS => ?_)
  have hP : va_P E.1 vwCl ([gX8 E a_top (a_forest 0) r_top_before r_top_saved top_isSaved r_top_history r_top_desk r_top_walk r_top_input r_top_orders r_top_written top_wrongPosition, gX1 E a_forest φ_forest, gLO L (a_out 0) (vp_updL out_val ((nI 0)).toNatClampNeg ((r1).toInt64))] : List va_W).flatten H := hP
  have hD : va_D A ([gX8 E a_top (a_forest 0) r_top_before r_top_saved top_isSaved r_top_history r_top_desk r_top_walk r_top_input r_top_orders r_top_written top_wrongPosition, gX1 E a_forest φ_forest, gLO L (a_out 0) (vp_updL out_val ((nI 0)).toNatClampNeg ((r1).toInt64))] : List va_W).flatten := hD
  refine lv_goto (tgt := 21) hx hb dL_commitOf_10 (by decide) ?_
  refine lv_iconst (v := (nI 0)) hx hb dL_commitOf_21 (by decide) ?_
  cases h
  exact px_eWi hA0 hQ hP hD hS hx hb hr hlocks dL_commitOf_22
def fL_merge (x1 : Int32) (x2 : Int32) (x3 : Int32) (desk_reason : Int32) (desk_detail : Int32) (mix_row : AI) (mix_conflictCount : Int32) (mix_lowest : Int32) (φ_forest : Fo) (φ_before : Fo) (hist_rows : (Nat → Fo)) (hist_next : Int32) (hist_count : Int32) (out_val : (Nat → Int64)) : Option (Int32 × Int32 × Int32 × AI × Int32 × Int32 × Fo × Fo × (Nat → Fo) × Int32 × Int32 × (Nat → Int64)) := ((f8_merge (x1) (x2) (x3) (desk_reason) (desk_detail) (mix_row) (mix_conflictCount) (mix_lowest) (φ_forest) (φ_before) (hist_rows) (hist_next) (hist_count)).bind fun (k13, r1, w2, w3, w4, w5, w6, w7, w8, w9, w10, w11) => (if k13 = 0 then (some ((nI 0), w2, w3, w4, w5, w6, w7, w8, w9, w10, w11, (vp_updL out_val ((nI 0)).toNatClampNeg ((r1).toInt64)))) else (if k13 = 1 then (some ((nI 1), w2, w3, w4, w5, w6, w7, w8, w9, w10, w11, out_val)) else (if k13 = 2 then (some ((nI 2), w2, w3, w4, w5, w6, w7, w8, w9, w10, w11, out_val)) else (if k13 = 3 then (some ((nI 3), w2, w3, w4, w5, w6, w7, w8, w9, w10, w11, out_val)) else none)))))
set_option maxHeartbeats 4000000 in
set_option maxRecDepth 100000 in
theorem mL_merge (l : Launch) (hlt : l.stackTraces = false) (E : PE) (X : PX) (L : LX) (a_top : Nat → Nat) (a_desk : Nat → Nat) (a_mix : Nat → Nat) (a_forest : Nat → Nat) (a_before : Nat → Nat) (a_hist : Nat → Nat) (a_out : Nat → Nat) (r_top_saved : Nat) (r_top_walk : Nat) (r_top_input : Nat) (r_top_orders : Nat) (r_top_written : Nat) (x1 : Int32) (x2 : Int32) (x3 : Int32) (top_isSaved : Int32) (top_wrongPosition : Int32) (desk_reason : Int32) (desk_detail : Int32) (mix_row : AI) (mix_conflictCount : Int32) (mix_lowest : Int32) (φ_forest : Fo) (φ_before : Fo) (hist_rows : (Nat → Fo)) (hist_next : Int32) (hist_count : Int32) (out_val : (Nat → Int64)) (r : Int32) (z_desk_reason : Int32) (z_desk_detail : Int32) (z_mix_row : AI) (z_mix_conflictCount : Int32) (z_mix_lowest : Int32) (z_forest_φ : Fo) (z_before_φ : Fo) (z_hist_rows : (Nat → Fo)) (z_hist_next : Int32) (z_hist_count : Int32) (z_out_val : (Nat → Int64)) (h : fL_merge x1 x2 x3 desk_reason desk_detail mix_row mix_conflictCount mix_lowest φ_forest φ_before hist_rows hist_next hist_count out_val = some (r, z_desk_reason, z_desk_detail, z_mix_row, z_mix_conflictCount, z_mix_lowest, z_forest_φ, z_before_φ, z_hist_rows, z_hist_next, z_hist_count, z_out_val)) : ML l yL_merge cL_merge 6 [(0, 12, 15, 13), (0, 12, 19, 15), (0, 12, 23, 17)] { frames := 8, cells := 1, slots := 6, locals := 134 } E X L [.ref (a_top 0), .int x1, .int x2, .int x3, .ref (a_out 0)] ([gX8 E a_top (a_forest 0) (a_before 0) r_top_saved top_isSaved (a_hist 0) (a_desk 0) r_top_walk r_top_input r_top_orders r_top_written top_wrongPosition, gX0 E a_desk (a_forest 0) (a_mix 0) desk_reason desk_detail, gX5 E a_mix mix_row mix_conflictCount mix_lowest, gX1 E a_forest φ_forest, gX1 E a_before φ_before, gX2 E a_hist hist_rows hist_next hist_count, gLO L (a_out 0) out_val] : List va_W).flatten 1 6 (some (.int r)) ([gX8 E a_top (a_forest 0) (a_before 0) r_top_saved top_isSaved (a_hist 0) (a_desk 0) r_top_walk r_top_input r_top_orders r_top_written top_wrongPosition, gX0 E a_desk (a_forest 0) (a_mix 0) z_desk_reason z_desk_detail, gX5 E a_mix z_mix_row z_mix_conflictCount z_mix_lowest, gX1 E a_forest z_forest_φ, gX1 E a_before z_before_φ, gX2 E a_hist z_hist_rows z_hist_next z_hist_count, gLO L (a_out 0) z_out_val] : List va_W).flatten := by
  refine px_startL (by decide +kernel) (Nat.le_of_ble_eq_true rfl) ?_
  intro p e s m args below meth c R Q A ls hC hX hL hA0 hQ ht
  obtain ⟨hx, hb, hr, hml, hts, hown, hlocks, hR, hK, hN, hP, hD, hA, hl, hin⟩ := hC
  have hl : lv_has ls 6 [(0, .ref (a_top 0)), (1, .int x1), (2, .int x2), (3, .int x3), (4, .ref (a_out 0))] := hl
  suffices key : ∀ (H : Heap) (locs : List Loc), va_P E.1 vwCl ([gX8 E a_top (a_forest 0) (a_before 0) r_top_saved top_isSaved (a_hist 0) (a_desk 0) r_top_walk r_top_input r_top_orders r_top_written top_wrongPosition, gX0 E a_desk (a_forest 0) (a_mix 0) desk_reason desk_detail, gX5 E a_mix mix_row mix_conflictCount mix_lowest, gX1 E a_forest φ_forest, gX1 E a_before φ_before, gX2 E a_hist hist_rows hist_next hist_count, gLO L (a_out 0) out_val] : List va_W).flatten H → va_S A s.heap H locs → W p l e R s m args below meth c H locs 0 0 Q (F0 m 0 ls []) from key s.heap [] hP va_S.rf
  unfold fL_merge at h
  intro H locs hP hS
  refine lv_aload hx hb dL_merge_0 (lv_at hl 4 rfl) ?_
  refine lv_iconst (v := (nI 0)) hx hb dL_merge_2 (by decide) ?_
  refine lv_aload_n hx hb dL_merge_3 rfl (lv_at hl 0 rfl) ?_
  refine lv_iload_n hx hb dL_merge_4 rfl (lv_at hl 1 rfl) ?_
  refine lv_iload_n hx hb dL_merge_5 rfl (lv_at hl 2 rfl) ?_
  refine lv_iload_n hx hb dL_merge_6 rfl (lv_at hl 3 rfl) ?_
  obtain ⟨⟨k13, r1, w2, w3, w4, w5, w6, w7, w8, w9, w10, w11⟩, hr12, h⟩ := ob h
  dsimp only at h
  refine px_VT (As := [.int x1, .int x2, .int x3]) (rest := [.int (nI 0), .ref (a_out 0)]) (gs := ([gX8 E a_top (a_forest 0) (a_before 0) r_top_saved top_isSaved (a_hist 0) (a_desk 0) r_top_walk r_top_input r_top_orders r_top_written top_wrongPosition, gX0 E a_desk (a_forest 0) (a_mix 0) desk_reason desk_detail, gX5 E a_mix mix_row mix_conflictCount mix_lowest, gX1 E a_forest φ_forest, gX1 E a_before φ_before, gX2 E a_hist hist_rows hist_next hist_count, gLO L (a_out 0) out_val] : List va_W)) (gr := ([gLO L (a_out 0) out_val] : List va_W)) (gc := ([gX8 E a_top (a_forest 0) (a_before 0) r_top_saved top_isSaved (a_hist 0) (a_desk 0) r_top_walk r_top_input r_top_orders r_top_written top_wrongPosition, gX0 E a_desk (a_forest 0) (a_mix 0) desk_reason desk_detail, gX5 E a_mix mix_row mix_conflictCount mix_lowest, gX1 E a_forest φ_forest, gX1 E a_before φ_before, gX2 E a_hist hist_rows hist_next hist_count] : List va_W)) (g1 := ([gX8 E a_top (a_forest 0) (a_before 0) r_top_saved top_isSaved (a_hist 0) (a_desk 0) r_top_walk r_top_input r_top_orders r_top_written top_wrongPosition, gX0 E a_desk (a_forest 0) (a_mix 0) w2 w3, gX5 E a_mix w4 w5 w6, gX1 E a_forest w7, gX1 E a_before w8, gX2 E a_hist w9 w10 w11] : List va_W)) (g2 := ([gX8 E a_top (a_forest 0) (a_before 0) r_top_saved top_isSaved (a_hist 0) (a_desk 0) r_top_walk r_top_input r_top_orders r_top_written top_wrongPosition, gX0 E a_desk (a_forest 0) (a_mix 0) w2 w3, gX5 E a_mix w4 w5 w6, gX1 E a_forest w7, gX1 E a_before w8, gX2 E a_hist w9 w10 w11, gLO L (a_out 0) out_val] : List va_W)) ⟨hx, hb, hml, hown, hts⟩ (c8_merge l hlt E X a_top a_desk a_mix a_forest a_before a_hist r_top_saved r_top_walk r_top_input r_top_orders r_top_written (x1) (x2) (x3) (top_isSaved) (top_wrongPosition) (desk_reason) (desk_detail) (mix_row) (mix_conflictCount) (mix_lowest) (φ_forest) (φ_before) (hist_rows) (hist_next) (hist_count) k13 r1 w2 w3 w4 w5 w6 w7 w8 w9 w10 w11 hr12) (cwV 3 hts (ws_v q644 q645 q646 q59 q647) rfl rfl rfl hdV_X8_merge (by rw [hR]; exact ⟨Nat.le_of_ble_eq_true rfl, Nat.le_of_ble_eq_true rfl⟩)) hK hN hX hP hD hS hA [6] [0, 1, 2, 3, 4, 5] [1, 2, 3, 4, 5, 6, 0] rfl rfl (by decide) (by decide) rfl (by decide) 0 8 rfl rfl rfl rfl hl.1 rfl (Nat.le_of_ble_eq_true rfl) dL_merge_7 (by rw [hR]; exact ⟨Nat.le_of_ble_eq_true rfl, Nat.le_of_ble_eq_true rfl⟩) (fun hk q9 ce H locs hP hD hS hc1 hc2 hc3 => ?_) (fun hk H locs hP hD hS => ?_)
  · rw [if_neg hk] at h
    by_cases c14 : k13 = 1
    · rw [if_pos c14] at h
      subst c14
      refine vx_catch (own := RL) (name := "java/lang/IndexOutOfBoundsException") (E := exn 1) hown [] ⟨0, 12, 15, 13⟩ [⟨0, 12, 19, 15⟩, ⟨0, 12, 23, 17⟩] (by rw [ht]; rfl) (fun z hz => absurd hz List.not_mem_nil) rfl (by decide) (hts _ q388) (va_Nw.use rfl (hX.2.2.2.2.2.2.1 (exn 1, exn 1) (by decide +kernel))) hc1 hc2 hc3 ?_
      refine lv_astore (lv' := [(5, .ref q9), (0, .ref (a_top 0)), (1, .int x1), (2, .int x2), (3, .int x3), (4, .ref (a_out 0))]) hx hb dL_merge_15 hl (by decide) rfl (fun ls hl => ?_)
      refine lv_iconst (v := (nI 1)) hx hb dL_merge_17 (by decide) ?_
      cases h
      exact px_eWi hA0 hQ hP hD hS hx hb hr hlocks dL_merge_18
    · rw [if_neg c14] at h
      by_cases c15 : k13 = 2
      · rw [if_pos c15] at h
        subst c15
        refine vx_catch (own := RL) (name := "java/lang/IllegalArgumentException") (E := exn 2) hown [⟨0, 12, 15, 13⟩] ⟨0, 12, 19, 15⟩ [⟨0, 12, 23, 17⟩] (by rw [ht]; rfl) (List.forall_mem_cons.mpr ⟨Or.inr ⟨by decide, "java/lang/IndexOutOfBoundsException", hts _ q388, hL.2 2 1 (by decide) (by decide) (by decide) (by decide) (by decide)⟩, (fun z hz => absurd hz List.not_mem_nil)⟩) rfl (by decide) (hts _ q389) (va_Nw.use rfl (hX.2.2.2.2.2.2.1 (exn 2, exn 2) (by decide +kernel))) hc1 hc2 hc3 ?_
        refine lv_astore (lv' := [(5, .ref q9), (0, .ref (a_top 0)), (1, .int x1), (2, .int x2), (3, .int x3), (4, .ref (a_out 0))]) hx hb dL_merge_19 hl (by decide) rfl (fun ls hl => ?_)
        refine lv_iconst (v := (nI 2)) hx hb dL_merge_21 (by decide) ?_
        cases h
        exact px_eWi hA0 hQ hP hD hS hx hb hr hlocks dL_merge_22
      · rw [if_neg c15] at h
        by_cases c16 : k13 = 3
        · rw [if_pos c16] at h
          subst c16
          refine vx_catch (own := RL) (name := "java/lang/UnsupportedOperationException") (E := exn 3) hown [⟨0, 12, 15, 13⟩, ⟨0, 12, 19, 15⟩] ⟨0, 12, 23, 17⟩ [] (by rw [ht]; rfl) (List.forall_mem_cons.mpr ⟨Or.inr ⟨by decide, "java/lang/IndexOutOfBoundsException", hts _ q388, hL.2 3 1 (by decide) (by decide) (by decide) (by decide) (by decide)⟩, (List.forall_mem_cons.mpr ⟨Or.inr ⟨by decide, "java/lang/IllegalArgumentException", hts _ q389, hL.2 3 2 (by decide) (by decide) (by decide) (by decide) (by decide)⟩, (fun z hz => absurd hz List.not_mem_nil)⟩)⟩) rfl (by decide) (hts _ q390) (va_Nw.use rfl (hX.2.2.2.2.2.2.1 (exn 3, exn 3) (by decide +kernel))) hc1 hc2 hc3 ?_
          refine lv_astore (lv' := [(5, .ref q9), (0, .ref (a_top 0)), (1, .int x1), (2, .int x2), (3, .int x3), (4, .ref (a_out 0))]) hx hb dL_merge_23 hl (by decide) rfl (fun ls hl => ?_)
          refine lv_iconst (v := (nI 3)) hx hb dL_merge_25 (by decide) ?_
          cases h
          exact px_eWi hA0 hQ hP hD hS hx hb hr hlocks dL_merge_26
        · rw [if_neg c16] at h
          cases h
  rw [if_pos hk] at h
  refine W.eq (g2 := F0 m 10 ls [.int r1, .int (nI 0), .ref (a_out 0)]) rfl ?_
  refine lv_i2l (v := (r1).toInt64) hx hb dL_merge_10 rfl ?_
  refine va_last (f := out_val) hx hb hL.1 hP hD hS 96 3 rfl rfl (inb_in (i := (nI 0)) (n := 1) (by decide)) dL_merge_11 (fun H locs hP hD hS => ?_)
  have hP : va_P E.1 vwCl ([gX8 E a_top (a_forest 0) (a_before 0) r_top_saved top_isSaved (a_hist 0) (a_desk 0) r_top_walk r_top_input r_top_orders r_top_written top_wrongPosition, gX0 E a_desk (a_forest 0) (a_mix 0) w2 w3, gX5 E a_mix w4 w5 w6, gX1 E a_forest w7, gX1 E a_before w8, gX2 E a_hist w9 w10 w11, gLO L (a_out 0) (vp_updL out_val ((nI 0)).toNatClampNeg ((r1).toInt64))] : List va_W).flatten H := hP
  have hD : va_D A ([gX8 E a_top (a_forest 0) (a_before 0) r_top_saved top_isSaved (a_hist 0) (a_desk 0) r_top_walk r_top_input r_top_orders r_top_written top_wrongPosition, gX0 E a_desk (a_forest 0) (a_mix 0) w2 w3, gX5 E a_mix w4 w5 w6, gX1 E a_forest w7, gX1 E a_before w8, gX2 E a_hist w9 w10 w11, gLO L (a_out 0) (vp_updL out_val ((nI 0)).toNatClampNeg ((r1).toInt64))] : List va_W).flatten := hD
  refine lv_goto (tgt := 27) hx hb dL_merge_12 (by decide) ?_
  refine lv_iconst (v := (nI 0)) hx hb dL_merge_27 (by decide) ?_
  cases h
  exact px_eWi hA0 hQ hP hD hS hx hb hr hlocks dL_merge_28
def fL_pick (x1 : Int32) (x2 : Int32) (x3 : Int32) (desk_reason : Int32) (desk_detail : Int32) (mix_row : AI) (mix_conflictCount : Int32) (mix_lowest : Int32) (φ_forest : Fo) (φ_before : Fo) (hist_rows : (Nat → Fo)) (hist_next : Int32) (hist_count : Int32) (out_val : (Nat → Int64)) : Option (Int32 × Int32 × Int32 × AI × Int32 × Int32 × Fo × Fo × (Nat → Fo) × Int32 × Int32 × (Nat → Int64)) := ((f8_pick (x1) (x2) (x3) (desk_reason) (desk_detail) (mix_row) (mix_conflictCount) (mix_lowest) (φ_forest) (φ_before) (hist_rows) (hist_next) (hist_count)).bind fun (k13, r1, w2, w3, w4, w5, w6, w7, w8, w9, w10, w11) => (if k13 = 0 then (some ((nI 0), w2, w3, w4, w5, w6, w7, w8, w9, w10, w11, (vp_updL out_val ((nI 0)).toNatClampNeg ((r1).toInt64)))) else (if k13 = 1 then (some ((nI 1), w2, w3, w4, w5, w6, w7, w8, w9, w10, w11, out_val)) else (if k13 = 2 then (some ((nI 2), w2, w3, w4, w5, w6, w7, w8, w9, w10, w11, out_val)) else (if k13 = 3 then (some ((nI 3), w2, w3, w4, w5, w6, w7, w8, w9, w10, w11, out_val)) else none)))))
set_option maxHeartbeats 4000000 in
set_option maxRecDepth 100000 in
theorem mL_pick (l : Launch) (hlt : l.stackTraces = false) (E : PE) (X : PX) (L : LX) (a_top : Nat → Nat) (a_desk : Nat → Nat) (a_mix : Nat → Nat) (a_forest : Nat → Nat) (a_before : Nat → Nat) (a_hist : Nat → Nat) (a_out : Nat → Nat) (r_top_saved : Nat) (r_top_walk : Nat) (r_top_input : Nat) (r_top_orders : Nat) (r_top_written : Nat) (x1 : Int32) (x2 : Int32) (x3 : Int32) (top_isSaved : Int32) (top_wrongPosition : Int32) (desk_reason : Int32) (desk_detail : Int32) (mix_row : AI) (mix_conflictCount : Int32) (mix_lowest : Int32) (φ_forest : Fo) (φ_before : Fo) (hist_rows : (Nat → Fo)) (hist_next : Int32) (hist_count : Int32) (out_val : (Nat → Int64)) (r : Int32) (z_desk_reason : Int32) (z_desk_detail : Int32) (z_mix_row : AI) (z_mix_conflictCount : Int32) (z_mix_lowest : Int32) (z_forest_φ : Fo) (z_before_φ : Fo) (z_hist_rows : (Nat → Fo)) (z_hist_next : Int32) (z_hist_count : Int32) (z_out_val : (Nat → Int64)) (h : fL_pick x1 x2 x3 desk_reason desk_detail mix_row mix_conflictCount mix_lowest φ_forest φ_before hist_rows hist_next hist_count out_val = some (r, z_desk_reason, z_desk_detail, z_mix_row, z_mix_conflictCount, z_mix_lowest, z_forest_φ, z_before_φ, z_hist_rows, z_hist_next, z_hist_count, z_out_val)) : ML l yL_pick cL_pick 6 [(0, 12, 15, 13), (0, 12, 19, 15), (0, 12, 23, 17)] { frames := 8, cells := 1, slots := 6, locals := 134 } E X L [.ref (a_top 0), .int x1, .int x2, .int x3, .ref (a_out 0)] ([gX8 E a_top (a_forest 0) (a_before 0) r_top_saved top_isSaved (a_hist 0) (a_desk 0) r_top_walk r_top_input r_top_orders r_top_written top_wrongPosition, gX0 E a_desk (a_forest 0) (a_mix 0) desk_reason desk_detail, gX5 E a_mix mix_row mix_conflictCount mix_lowest, gX1 E a_forest φ_forest, gX1 E a_before φ_before, gX2 E a_hist hist_rows hist_next hist_count, gLO L (a_out 0) out_val] : List va_W).flatten 1 6 (some (.int r)) ([gX8 E a_top (a_forest 0) (a_before 0) r_top_saved top_isSaved (a_hist 0) (a_desk 0) r_top_walk r_top_input r_top_orders r_top_written top_wrongPosition, gX0 E a_desk (a_forest 0) (a_mix 0) z_desk_reason z_desk_detail, gX5 E a_mix z_mix_row z_mix_conflictCount z_mix_lowest, gX1 E a_forest z_forest_φ, gX1 E a_before z_before_φ, gX2 E a_hist z_hist_rows z_hist_next z_hist_count, gLO L (a_out 0) z_out_val] : List va_W).flatten := by
  refine px_startL (by decide +kernel) (Nat.le_of_ble_eq_true rfl) ?_
  intro p e s m args below meth c R Q A ls hC hX hL hA0 hQ ht
  obtain ⟨hx, hb, hr, hml, hts, hown, hlocks, hR, hK, hN, hP, hD, hA, hl, hin⟩ := hC
  have hl : lv_has ls 6 [(0, .ref (a_top 0)), (1, .int x1), (2, .int x2), (3, .int x3), (4, .ref (a_out 0))] := hl
  suffices key : ∀ (H : Heap) (locs : List Loc), va_P E.1 vwCl ([gX8 E a_top (a_forest 0) (a_before 0) r_top_saved top_isSaved (a_hist 0) (a_desk 0) r_top_walk r_top_input r_top_orders r_top_written top_wrongPosition, gX0 E a_desk (a_forest 0) (a_mix 0) desk_reason desk_detail, gX5 E a_mix mix_row mix_conflictCount mix_lowest, gX1 E a_forest φ_forest, gX1 E a_before φ_before, gX2 E a_hist hist_rows hist_next hist_count, gLO L (a_out 0) out_val] : List va_W).flatten H → va_S A s.heap H locs → W p l e R s m args below meth c H locs 0 0 Q (F0 m 0 ls []) from key s.heap [] hP va_S.rf
  unfold fL_pick at h
  intro H locs hP hS
  refine lv_aload hx hb dL_pick_0 (lv_at hl 4 rfl) ?_
  refine lv_iconst (v := (nI 0)) hx hb dL_pick_2 (by decide) ?_
  refine lv_aload_n hx hb dL_pick_3 rfl (lv_at hl 0 rfl) ?_
  refine lv_iload_n hx hb dL_pick_4 rfl (lv_at hl 1 rfl) ?_
  refine lv_iload_n hx hb dL_pick_5 rfl (lv_at hl 2 rfl) ?_
  refine lv_iload_n hx hb dL_pick_6 rfl (lv_at hl 3 rfl) ?_
  obtain ⟨⟨k13, r1, w2, w3, w4, w5, w6, w7, w8, w9, w10, w11⟩, hr12, h⟩ := ob h
  dsimp only at h
  refine px_VT (As := [.int x1, .int x2, .int x3]) (rest := [.int (nI 0), .ref (a_out 0)]) (gs := ([gX8 E a_top (a_forest 0) (a_before 0) r_top_saved top_isSaved (a_hist 0) (a_desk 0) r_top_walk r_top_input r_top_orders r_top_written top_wrongPosition, gX0 E a_desk (a_forest 0) (a_mix 0) desk_reason desk_detail, gX5 E a_mix mix_row mix_conflictCount mix_lowest, gX1 E a_forest φ_forest, gX1 E a_before φ_before, gX2 E a_hist hist_rows hist_next hist_count, gLO L (a_out 0) out_val] : List va_W)) (gr := ([gLO L (a_out 0) out_val] : List va_W)) (gc := ([gX8 E a_top (a_forest 0) (a_before 0) r_top_saved top_isSaved (a_hist 0) (a_desk 0) r_top_walk r_top_input r_top_orders r_top_written top_wrongPosition, gX0 E a_desk (a_forest 0) (a_mix 0) desk_reason desk_detail, gX5 E a_mix mix_row mix_conflictCount mix_lowest, gX1 E a_forest φ_forest, gX1 E a_before φ_before, gX2 E a_hist hist_rows hist_next hist_count] : List va_W)) (g1 := ([gX8 E a_top (a_forest 0) (a_before 0) r_top_saved top_isSaved (a_hist 0) (a_desk 0) r_top_walk r_top_input r_top_orders r_top_written top_wrongPosition, gX0 E a_desk (a_forest 0) (a_mix 0) w2 w3, gX5 E a_mix w4 w5 w6, gX1 E a_forest w7, gX1 E a_before w8, gX2 E a_hist w9 w10 w11] : List va_W)) (g2 := ([gX8 E a_top (a_forest 0) (a_before 0) r_top_saved top_isSaved (a_hist 0) (a_desk 0) r_top_walk r_top_input r_top_orders r_top_written top_wrongPosition, gX0 E a_desk (a_forest 0) (a_mix 0) w2 w3, gX5 E a_mix w4 w5 w6, gX1 E a_forest w7, gX1 E a_before w8, gX2 E a_hist w9 w10 w11, gLO L (a_out 0) out_val] : List va_W)) ⟨hx, hb, hml, hown, hts⟩ (c8_pick l hlt E X a_top a_desk a_mix a_forest a_before a_hist r_top_saved r_top_walk r_top_input r_top_orders r_top_written (x1) (x2) (x3) (top_isSaved) (top_wrongPosition) (desk_reason) (desk_detail) (mix_row) (mix_conflictCount) (mix_lowest) (φ_forest) (φ_before) (hist_rows) (hist_next) (hist_count) k13 r1 w2 w3 w4 w5 w6 w7 w8 w9 w10 w11 hr12) (cwV 3 hts (ws_v q682 q683 q684 q59 q685) rfl rfl rfl hdV_X8_pick (by rw [hR]; exact ⟨Nat.le_of_ble_eq_true rfl, Nat.le_of_ble_eq_true rfl⟩)) hK hN hX hP hD hS hA [6] [0, 1, 2, 3, 4, 5] [1, 2, 3, 4, 5, 6, 0] rfl rfl (by decide) (by decide) rfl (by decide) 0 8 rfl rfl rfl rfl hl.1 rfl (Nat.le_of_ble_eq_true rfl) dL_pick_7 (by rw [hR]; exact ⟨Nat.le_of_ble_eq_true rfl, Nat.le_of_ble_eq_true rfl⟩) (fun hk q9 ce H locs hP hD hS hc1 hc2 hc3 => ?_) (fun hk H locs hP hD hS => ?_)
  · rw [if_neg hk] at h
    by_cases c14 : k13 = 1
    · rw [if_pos c14] at h
      subst c14
      refine vx_catch (own := RL) (name := "java/lang/IndexOutOfBoundsException") (E := exn 1) hown [] ⟨0, 12, 15, 13⟩ [⟨0, 12, 19, 15⟩, ⟨0, 12, 23, 17⟩] (by rw [ht]; rfl) (fun z hz => absurd hz List.not_mem_nil) rfl (by decide) (hts _ q388) (va_Nw.use rfl (hX.2.2.2.2.2.2.1 (exn 1, exn 1) (by decide +kernel))) hc1 hc2 hc3 ?_
      refine lv_astore (lv' := [(5, .ref q9), (0, .ref (a_top 0)), (1, .int x1), (2, .int x2), (3, .int x3), (4, .ref (a_out 0))]) hx hb dL_pick_15 hl (by decide) rfl (fun ls hl => ?_)
      refine lv_iconst (v := (nI 1)) hx hb dL_pick_17 (by decide) ?_
      cases h
      exact px_eWi hA0 hQ hP hD hS hx hb hr hlocks dL_pick_18
    · rw [if_neg c14] at h
      by_cases c15 : k13 = 2
      · rw [if_pos c15] at h
        subst c15
        refine vx_catch (own := RL) (name := "java/lang/IllegalArgumentException") (E := exn 2) hown [⟨0, 12, 15, 13⟩] ⟨0, 12, 19, 15⟩ [⟨0, 12, 23, 17⟩] (by rw [ht]; rfl) (List.forall_mem_cons.mpr ⟨Or.inr ⟨by decide, "java/lang/IndexOutOfBoundsException", hts _ q388, hL.2 2 1 (by decide) (by decide) (by decide) (by decide) (by decide)⟩, (fun z hz => absurd hz List.not_mem_nil)⟩) rfl (by decide) (hts _ q389) (va_Nw.use rfl (hX.2.2.2.2.2.2.1 (exn 2, exn 2) (by decide +kernel))) hc1 hc2 hc3 ?_
        refine lv_astore (lv' := [(5, .ref q9), (0, .ref (a_top 0)), (1, .int x1), (2, .int x2), (3, .int x3), (4, .ref (a_out 0))]) hx hb dL_pick_19 hl (by decide) rfl (fun ls hl => ?_)
        refine lv_iconst (v := (nI 2)) hx hb dL_pick_21 (by decide) ?_
        cases h
        exact px_eWi hA0 hQ hP hD hS hx hb hr hlocks dL_pick_22
      · rw [if_neg c15] at h
        by_cases c16 : k13 = 3
        · rw [if_pos c16] at h
          subst c16
          refine vx_catch (own := RL) (name := "java/lang/UnsupportedOperationException") (E := exn 3) hown [⟨0, 12, 15, 13⟩, ⟨0, 12, 19, 15⟩] ⟨0, 12, 23, 17⟩ [] (by rw [ht]; rfl) (List.forall_mem_cons.mpr ⟨Or.inr ⟨by decide, "java/lang/IndexOutOfBoundsException", hts _ q388, hL.2 3 1 (by decide) (by decide) (by decide) (by decide) (by decide)⟩, (List.forall_mem_cons.mpr ⟨Or.inr ⟨by decide, "java/lang/IllegalArgumentException", hts _ q389, hL.2 3 2 (by decide) (by decide) (by decide) (by decide) (by decide)⟩, (fun z hz => absurd hz List.not_mem_nil)⟩)⟩) rfl (by decide) (hts _ q390) (va_Nw.use rfl (hX.2.2.2.2.2.2.1 (exn 3, exn 3) (by decide +kernel))) hc1 hc2 hc3 ?_
          refine lv_astore (lv' := [(5, .ref q9), (0, .ref (a_top 0)), (1, .int x1), (2, .int x2), (3, .int x3), (4, .ref (a_out 0))]) hx hb dL_pick_23 hl (by decide) rfl (fun ls hl => ?_)
          refine lv_iconst (v := (nI 3)) hx hb dL_pick_25 (by decide) ?_
          cases h
          exact px_eWi hA0 hQ hP hD hS hx hb hr hlocks dL_pick_26
        · rw [if_neg c16] at h
          cases h
  rw [if_pos hk] at h
  refine W.eq (g2 := F0 m 10 ls [.int r1, .int (nI 0), .ref (a_out 0)]) rfl ?_
  refine lv_i2l (v := (r1).toInt64) hx hb dL_pick_10 rfl ?_
  refine va_last (f := out_val) hx hb hL.1 hP hD hS 96 3 rfl rfl (inb_in (i := (nI 0)) (n := 1) (by decide)) dL_pick_11 (fun H locs hP hD hS => ?_)
  have hP : va_P E.1 vwCl ([gX8 E a_top (a_forest 0) (a_before 0) r_top_saved top_isSaved (a_hist 0) (a_desk 0) r_top_walk r_top_input r_top_orders r_top_written top_wrongPosition, gX0 E a_desk (a_forest 0) (a_mix 0) w2 w3, gX5 E a_mix w4 w5 w6, gX1 E a_forest w7, gX1 E a_before w8, gX2 E a_hist w9 w10 w11, gLO L (a_out 0) (vp_updL out_val ((nI 0)).toNatClampNeg ((r1).toInt64))] : List va_W).flatten H := hP
  have hD : va_D A ([gX8 E a_top (a_forest 0) (a_before 0) r_top_saved top_isSaved (a_hist 0) (a_desk 0) r_top_walk r_top_input r_top_orders r_top_written top_wrongPosition, gX0 E a_desk (a_forest 0) (a_mix 0) w2 w3, gX5 E a_mix w4 w5 w6, gX1 E a_forest w7, gX1 E a_before w8, gX2 E a_hist w9 w10 w11, gLO L (a_out 0) (vp_updL out_val ((nI 0)).toNatClampNeg ((r1).toInt64))] : List va_W).flatten := hD
  refine lv_goto (tgt := 27) hx hb dL_pick_12 (by decide) ?_
  refine lv_iconst (v := (nI 0)) hx hb dL_pick_27 (by decide) ?_
  cases h
  exact px_eWi hA0 hQ hP hD hS hx hb hr hlocks dL_pick_28
def fL_revert (x1 : Int32) (x2 : Int32) (x3 : Int32) (desk_reason : Int32) (desk_detail : Int32) (mix_row : AI) (mix_conflictCount : Int32) (mix_lowest : Int32) (φ_forest : Fo) (φ_before : Fo) (hist_rows : (Nat → Fo)) (hist_next : Int32) (hist_count : Int32) (out_val : (Nat → Int64)) : Option (Int32 × Int32 × Int32 × AI × Int32 × Int32 × Fo × Fo × (Nat → Fo) × Int32 × Int32 × (Nat → Int64)) := ((f8_revert (x1) (x2) (x3) (desk_reason) (desk_detail) (mix_row) (mix_conflictCount) (mix_lowest) (φ_forest) (φ_before) (hist_rows) (hist_next) (hist_count)).bind fun (k13, r1, w2, w3, w4, w5, w6, w7, w8, w9, w10, w11) => (if k13 = 0 then (some ((nI 0), w2, w3, w4, w5, w6, w7, w8, w9, w10, w11, (vp_updL out_val ((nI 0)).toNatClampNeg ((r1).toInt64)))) else (if k13 = 1 then (some ((nI 1), w2, w3, w4, w5, w6, w7, w8, w9, w10, w11, out_val)) else (if k13 = 2 then (some ((nI 2), w2, w3, w4, w5, w6, w7, w8, w9, w10, w11, out_val)) else (if k13 = 3 then (some ((nI 3), w2, w3, w4, w5, w6, w7, w8, w9, w10, w11, out_val)) else none)))))
set_option maxHeartbeats 4000000 in
set_option maxRecDepth 100000 in
theorem mL_revert (l : Launch) (hlt : l.stackTraces = false) (E : PE) (X : PX) (L : LX) (a_top : Nat → Nat) (a_desk : Nat → Nat) (a_mix : Nat → Nat) (a_forest : Nat → Nat) (a_before : Nat → Nat) (a_hist : Nat → Nat) (a_out : Nat → Nat) (r_top_saved : Nat) (r_top_walk : Nat) (r_top_input : Nat) (r_top_orders : Nat) (r_top_written : Nat) (x1 : Int32) (x2 : Int32) (x3 : Int32) (top_isSaved : Int32) (top_wrongPosition : Int32) (desk_reason : Int32) (desk_detail : Int32) (mix_row : AI) (mix_conflictCount : Int32) (mix_lowest : Int32) (φ_forest : Fo) (φ_before : Fo) (hist_rows : (Nat → Fo)) (hist_next : Int32) (hist_count : Int32) (out_val : (Nat → Int64)) (r : Int32) (z_desk_reason : Int32) (z_desk_detail : Int32) (z_mix_row : AI) (z_mix_conflictCount : Int32) (z_mix_lowest : Int32) (z_forest_φ : Fo) (z_before_φ : Fo) (z_hist_rows : (Nat → Fo)) (z_hist_next : Int32) (z_hist_count : Int32) (z_out_val : (Nat → Int64)) (h : fL_revert x1 x2 x3 desk_reason desk_detail mix_row mix_conflictCount mix_lowest φ_forest φ_before hist_rows hist_next hist_count out_val = some (r, z_desk_reason, z_desk_detail, z_mix_row, z_mix_conflictCount, z_mix_lowest, z_forest_φ, z_before_φ, z_hist_rows, z_hist_next, z_hist_count, z_out_val)) : ML l yL_revert cL_revert 6 [(0, 12, 15, 13), (0, 12, 19, 15), (0, 12, 23, 17)] { frames := 8, cells := 1, slots := 6, locals := 134 } E X L [.ref (a_top 0), .int x1, .int x2, .int x3, .ref (a_out 0)] ([gX8 E a_top (a_forest 0) (a_before 0) r_top_saved top_isSaved (a_hist 0) (a_desk 0) r_top_walk r_top_input r_top_orders r_top_written top_wrongPosition, gX0 E a_desk (a_forest 0) (a_mix 0) desk_reason desk_detail, gX5 E a_mix mix_row mix_conflictCount mix_lowest, gX1 E a_forest φ_forest, gX1 E a_before φ_before, gX2 E a_hist hist_rows hist_next hist_count, gLO L (a_out 0) out_val] : List va_W).flatten 1 6 (some (.int r)) ([gX8 E a_top (a_forest 0) (a_before 0) r_top_saved top_isSaved (a_hist 0) (a_desk 0) r_top_walk r_top_input r_top_orders r_top_written top_wrongPosition, gX0 E a_desk (a_forest 0) (a_mix 0) z_desk_reason z_desk_detail, gX5 E a_mix z_mix_row z_mix_conflictCount z_mix_lowest, gX1 E a_forest z_forest_φ, gX1 E a_before z_before_φ, gX2 E a_hist z_hist_rows z_hist_next z_hist_count, gLO L (a_out 0) z_out_val] : List va_W).flatten := by
  refine px_startL (by decide +kernel) (Nat.le_of_ble_eq_true rfl) ?_
  intro p e s m args below meth c R Q A ls hC hX hL hA0 hQ ht
  obtain ⟨hx, hb, hr, hml, hts, hown, hlocks, hR, hK, hN, hP, hD, hA, hl, hin⟩ := hC
  have hl : lv_has ls 6 [(0, .ref (a_top 0)), (1, .int x1), (2, .int x2), (3, .int x3), (4, .ref (a_out 0))] := hl
  suffices key : ∀ (H : Heap) (locs : List Loc), va_P E.1 vwCl ([gX8 E a_top (a_forest 0) (a_before 0) r_top_saved top_isSaved (a_hist 0) (a_desk 0) r_top_walk r_top_input r_top_orders r_top_written top_wrongPosition, gX0 E a_desk (a_forest 0) (a_mix 0) desk_reason desk_detail, gX5 E a_mix mix_row mix_conflictCount mix_lowest, gX1 E a_forest φ_forest, gX1 E a_before φ_before, gX2 E a_hist hist_rows hist_next hist_count, gLO L (a_out 0) out_val] : List va_W).flatten H → va_S A s.heap H locs → W p l e R s m args below meth c H locs 0 0 Q (F0 m 0 ls []) from key s.heap [] hP va_S.rf
  unfold fL_revert at h
  intro H locs hP hS
  refine lv_aload hx hb dL_revert_0 (lv_at hl 4 rfl) ?_
  refine lv_iconst (v := (nI 0)) hx hb dL_revert_2 (by decide) ?_
  refine lv_aload_n hx hb dL_revert_3 rfl (lv_at hl 0 rfl) ?_
  refine lv_iload_n hx hb dL_revert_4 rfl (lv_at hl 1 rfl) ?_
  refine lv_iload_n hx hb dL_revert_5 rfl (lv_at hl 2 rfl) ?_
  refine lv_iload_n hx hb dL_revert_6 rfl (lv_at hl 3 rfl) ?_
  obtain ⟨⟨k13, r1, w2, w3, w4, w5, w6, w7, w8, w9, w10, w11⟩, hr12, h⟩ := ob h
  dsimp only at h
  refine px_VT (As := [.int x1, .int x2, .int x3]) (rest := [.int (nI 0), .ref (a_out 0)]) (gs := ([gX8 E a_top (a_forest 0) (a_before 0) r_top_saved top_isSaved (a_hist 0) (a_desk 0) r_top_walk r_top_input r_top_orders r_top_written top_wrongPosition, gX0 E a_desk (a_forest 0) (a_mix 0) desk_reason desk_detail, gX5 E a_mix mix_row mix_conflictCount mix_lowest, gX1 E a_forest φ_forest, gX1 E a_before φ_before, gX2 E a_hist hist_rows hist_next hist_count, gLO L (a_out 0) out_val] : List va_W)) (gr := ([gLO L (a_out 0) out_val] : List va_W)) (gc := ([gX8 E a_top (a_forest 0) (a_before 0) r_top_saved top_isSaved (a_hist 0) (a_desk 0) r_top_walk r_top_input r_top_orders r_top_written top_wrongPosition, gX0 E a_desk (a_forest 0) (a_mix 0) desk_reason desk_detail, gX5 E a_mix mix_row mix_conflictCount mix_lowest, gX1 E a_forest φ_forest, gX1 E a_before φ_before, gX2 E a_hist hist_rows hist_next hist_count] : List va_W)) (g1 := ([gX8 E a_top (a_forest 0) (a_before 0) r_top_saved top_isSaved (a_hist 0) (a_desk 0) r_top_walk r_top_input r_top_orders r_top_written top_wrongPosition, gX0 E a_desk (a_forest 0) (a_mix 0) w2 w3, gX5 E a_mix w4 w5 w6, gX1 E a_forest w7, gX1 E a_before w8, gX2 E a_hist w9 w10 w11] : List va_W)) (g2 := ([gX8 E a_top (a_forest 0) (a_before 0) r_top_saved top_isSaved (a_hist 0) (a_desk 0) r_top_walk r_top_input r_top_orders r_top_written top_wrongPosition, gX0 E a_desk (a_forest 0) (a_mix 0) w2 w3, gX5 E a_mix w4 w5 w6, gX1 E a_forest w7, gX1 E a_before w8, gX2 E a_hist w9 w10 w11, gLO L (a_out 0) out_val] : List va_W)) ⟨hx, hb, hml, hown, hts⟩ (c8_revert l hlt E X a_top a_desk a_mix a_forest a_before a_hist r_top_saved r_top_walk r_top_input r_top_orders r_top_written (x1) (x2) (x3) (top_isSaved) (top_wrongPosition) (desk_reason) (desk_detail) (mix_row) (mix_conflictCount) (mix_lowest) (φ_forest) (φ_before) (hist_rows) (hist_next) (hist_count) k13 r1 w2 w3 w4 w5 w6 w7 w8 w9 w10 w11 hr12) (cwV 3 hts (ws_v q702 q703 q704 q59 q705) rfl rfl rfl hdV_X8_revert (by rw [hR]; exact ⟨Nat.le_of_ble_eq_true rfl, Nat.le_of_ble_eq_true rfl⟩)) hK hN hX hP hD hS hA [6] [0, 1, 2, 3, 4, 5] [1, 2, 3, 4, 5, 6, 0] rfl rfl (by decide) (by decide) rfl (by decide) 0 8 rfl rfl rfl rfl hl.1 rfl (Nat.le_of_ble_eq_true rfl) dL_revert_7 (by rw [hR]; exact ⟨Nat.le_of_ble_eq_true rfl, Nat.le_of_ble_eq_true rfl⟩) (fun hk q9 ce H locs hP hD hS hc1 hc2 hc3 => ?_) (fun hk H locs hP hD hS => ?_)
  · rw [if_neg hk] at h
    by_cases c14 : k13 = 1
    · rw [if_pos c14] at h
      subst c14
      refine vx_catch (own := RL) (name := "java/lang/IndexOutOfBoundsException") (E := exn 1) hown [] ⟨0, 12, 15, 13⟩ [⟨0, 12, 19, 15⟩, ⟨0, 12, 23, 17⟩] (by rw [ht]; rfl) (fun z hz => absurd hz List.not_mem_nil) rfl (by decide) (hts _ q388) (va_Nw.use rfl (hX.2.2.2.2.2.2.1 (exn 1, exn 1) (by decide +kernel))) hc1 hc2 hc3 ?_
      refine lv_astore (lv' := [(5, .ref q9), (0, .ref (a_top 0)), (1, .int x1), (2, .int x2), (3, .int x3), (4, .ref (a_out 0))]) hx hb dL_revert_15 hl (by decide) rfl (fun ls hl => ?_)
      refine lv_iconst (v := (nI 1)) hx hb dL_revert_17 (by decide) ?_
      cases h
      exact px_eWi hA0 hQ hP hD hS hx hb hr hlocks dL_revert_18
    · rw [if_neg c14] at h
      by_cases c15 : k13 = 2
      · rw [if_pos c15] at h
        subst c15
        refine vx_catch (own := RL) (name := "java/lang/IllegalArgumentException") (E := exn 2) hown [⟨0, 12, 15, 13⟩] ⟨0, 12, 19, 15⟩ [⟨0, 12, 23, 17⟩] (by rw [ht]; rfl) (List.forall_mem_cons.mpr ⟨Or.inr ⟨by decide, "java/lang/IndexOutOfBoundsException", hts _ q388, hL.2 2 1 (by decide) (by decide) (by decide) (by decide) (by decide)⟩, (fun z hz => absurd hz List.not_mem_nil)⟩) rfl (by decide) (hts _ q389) (va_Nw.use rfl (hX.2.2.2.2.2.2.1 (exn 2, exn 2) (by decide +kernel))) hc1 hc2 hc3 ?_
        refine lv_astore (lv' := [(5, .ref q9), (0, .ref (a_top 0)), (1, .int x1), (2, .int x2), (3, .int x3), (4, .ref (a_out 0))]) hx hb dL_revert_19 hl (by decide) rfl (fun ls hl => ?_)
        refine lv_iconst (v := (nI 2)) hx hb dL_revert_21 (by decide) ?_
        cases h
        exact px_eWi hA0 hQ hP hD hS hx hb hr hlocks dL_revert_22
      · rw [if_neg c15] at h
        by_cases c16 : k13 = 3
        · rw [if_pos c16] at h
          subst c16
          refine vx_catch (own := RL) (name := "java/lang/UnsupportedOperationException") (E := exn 3) hown [⟨0, 12, 15, 13⟩, ⟨0, 12, 19, 15⟩] ⟨0, 12, 23, 17⟩ [] (by rw [ht]; rfl) (List.forall_mem_cons.mpr ⟨Or.inr ⟨by decide, "java/lang/IndexOutOfBoundsException", hts _ q388, hL.2 3 1 (by decide) (by decide) (by decide) (by decide) (by decide)⟩, (List.forall_mem_cons.mpr ⟨Or.inr ⟨by decide, "java/lang/IllegalArgumentException", hts _ q389, hL.2 3 2 (by decide) (by decide) (by decide) (by decide) (by decide)⟩, (fun z hz => absurd hz List.not_mem_nil)⟩)⟩) rfl (by decide) (hts _ q390) (va_Nw.use rfl (hX.2.2.2.2.2.2.1 (exn 3, exn 3) (by decide +kernel))) hc1 hc2 hc3 ?_
          refine lv_astore (lv' := [(5, .ref q9), (0, .ref (a_top 0)), (1, .int x1), (2, .int x2), (3, .int x3), (4, .ref (a_out 0))]) hx hb dL_revert_23 hl (by decide) rfl (fun ls hl => ?_)
          refine lv_iconst (v := (nI 3)) hx hb dL_revert_25 (by decide) ?_
          cases h
          exact px_eWi hA0 hQ hP hD hS hx hb hr hlocks dL_revert_26
        · rw [if_neg c16] at h
          cases h
  rw [if_pos hk] at h
  refine W.eq (g2 := F0 m 10 ls [.int r1, .int (nI 0), .ref (a_out 0)]) rfl ?_
  refine lv_i2l (v := (r1).toInt64) hx hb dL_revert_10 rfl ?_
  refine va_last (f := out_val) hx hb hL.1 hP hD hS 96 3 rfl rfl (inb_in (i := (nI 0)) (n := 1) (by decide)) dL_revert_11 (fun H locs hP hD hS => ?_)
  have hP : va_P E.1 vwCl ([gX8 E a_top (a_forest 0) (a_before 0) r_top_saved top_isSaved (a_hist 0) (a_desk 0) r_top_walk r_top_input r_top_orders r_top_written top_wrongPosition, gX0 E a_desk (a_forest 0) (a_mix 0) w2 w3, gX5 E a_mix w4 w5 w6, gX1 E a_forest w7, gX1 E a_before w8, gX2 E a_hist w9 w10 w11, gLO L (a_out 0) (vp_updL out_val ((nI 0)).toNatClampNeg ((r1).toInt64))] : List va_W).flatten H := hP
  have hD : va_D A ([gX8 E a_top (a_forest 0) (a_before 0) r_top_saved top_isSaved (a_hist 0) (a_desk 0) r_top_walk r_top_input r_top_orders r_top_written top_wrongPosition, gX0 E a_desk (a_forest 0) (a_mix 0) w2 w3, gX5 E a_mix w4 w5 w6, gX1 E a_forest w7, gX1 E a_before w8, gX2 E a_hist w9 w10 w11, gLO L (a_out 0) (vp_updL out_val ((nI 0)).toNatClampNeg ((r1).toInt64))] : List va_W).flatten := hD
  refine lv_goto (tgt := 27) hx hb dL_revert_12 (by decide) ?_
  refine lv_iconst (v := (nI 0)) hx hb dL_revert_27 (by decide) ?_
  cases h
  exact px_eWi hA0 hQ hP hD hS hx hb hr hlocks dL_revert_28
def fL_conflicts (x1 : Int32) (x2 : Int32) (mix_row : AI) (mix_conflictCount : Int32) (mix_lowest : Int32) (φ_forest : Fo) (out_val : (Nat → Int64)) : Option (Int32 × AI × Int32 × Int32 × (Nat → Int64)) := ((f8_conflicts (x1) (x2) (mix_row) (mix_conflictCount) (mix_lowest) (φ_forest)).bind fun (k6, r1, w2, w3, w4) => (if k6 = 0 then (some ((nI 0), w2, w3, w4, (vp_updL out_val ((nI 0)).toNatClampNeg ((r1).toInt64)))) else (if k6 = 1 then (some ((nI 1), w2, w3, w4, out_val)) else none)))
set_option maxHeartbeats 4000000 in
set_option maxRecDepth 100000 in
theorem mL_conflicts (l : Launch) (hlt : l.stackTraces = false) (E : PE) (X : PX) (L : LX) (a_top : Nat → Nat) (a_desk : Nat → Nat) (a_mix : Nat → Nat) (a_forest : Nat → Nat) (a_out : Nat → Nat) (r_top_before : Nat) (r_top_saved : Nat) (r_top_history : Nat) (r_top_walk : Nat) (r_top_input : Nat) (r_top_orders : Nat) (r_top_written : Nat) (x1 : Int32) (x2 : Int32) (top_isSaved : Int32) (top_wrongPosition : Int32) (desk_reason : Int32) (desk_detail : Int32) (mix_row : AI) (mix_conflictCount : Int32) (mix_lowest : Int32) (φ_forest : Fo) (out_val : (Nat → Int64)) (r : Int32) (z_mix_row : AI) (z_mix_conflictCount : Int32) (z_mix_lowest : Int32) (z_out_val : (Nat → Int64)) (h : fL_conflicts x1 x2 mix_row mix_conflictCount mix_lowest φ_forest out_val = some (r, z_mix_row, z_mix_conflictCount, z_mix_lowest, z_out_val)) : ML l yL_conflicts cL_conflicts 5 [(0, 10, 13, 13)] { frames := 8, cells := 2, slots := 12, locals := 133 } E X L [.ref (a_top 0), .int x1, .int x2, .ref (a_out 0)] ([gX8 E a_top (a_forest 0) r_top_before r_top_saved top_isSaved r_top_history (a_desk 0) r_top_walk r_top_input r_top_orders r_top_written top_wrongPosition, gX0 E a_desk (a_forest 0) (a_mix 0) desk_reason desk_detail, gX5 E a_mix mix_row mix_conflictCount mix_lowest, gX1 E a_forest φ_forest, gLO L (a_out 0) out_val] : List va_W).flatten 2 12 (some (.int r)) ([gX8 E a_top (a_forest 0) r_top_before r_top_saved top_isSaved r_top_history (a_desk 0) r_top_walk r_top_input r_top_orders r_top_written top_wrongPosition, gX0 E a_desk (a_forest 0) (a_mix 0) desk_reason desk_detail, gX5 E a_mix z_mix_row z_mix_conflictCount z_mix_lowest, gX1 E a_forest φ_forest, gLO L (a_out 0) z_out_val] : List va_W).flatten := by
  refine px_startL (by decide +kernel) (Nat.le_of_ble_eq_true rfl) ?_
  intro p e s m args below meth c R Q A ls hC hX hL hA0 hQ ht
  obtain ⟨hx, hb, hr, hml, hts, hown, hlocks, hR, hK, hN, hP, hD, hA, hl, hin⟩ := hC
  have hl : lv_has ls 5 [(0, .ref (a_top 0)), (1, .int x1), (2, .int x2), (3, .ref (a_out 0))] := hl
  suffices key : ∀ (H : Heap) (locs : List Loc), va_P E.1 vwCl ([gX8 E a_top (a_forest 0) r_top_before r_top_saved top_isSaved r_top_history (a_desk 0) r_top_walk r_top_input r_top_orders r_top_written top_wrongPosition, gX0 E a_desk (a_forest 0) (a_mix 0) desk_reason desk_detail, gX5 E a_mix mix_row mix_conflictCount mix_lowest, gX1 E a_forest φ_forest, gLO L (a_out 0) out_val] : List va_W).flatten H → va_S A s.heap H locs → W p l e R s m args below meth c H locs 0 0 Q (F0 m 0 ls []) from key s.heap [] hP va_S.rf
  unfold fL_conflicts at h
  intro H locs hP hS
  refine lv_aload_n hx hb dL_conflicts_0 rfl (lv_at hl 3 rfl) ?_
  refine lv_iconst (v := (nI 0)) hx hb dL_conflicts_1 (by decide) ?_
  refine lv_aload_n hx hb dL_conflicts_2 rfl (lv_at hl 0 rfl) ?_
  refine lv_iload_n hx hb dL_conflicts_3 rfl (lv_at hl 1 rfl) ?_
  refine lv_iload_n hx hb dL_conflicts_4 rfl (lv_at hl 2 rfl) ?_
  obtain ⟨⟨k6, r1, w2, w3, w4⟩, hr5, h⟩ := ob h
  dsimp only at h
  refine px_VT (As := [.int x1, .int x2]) (rest := [.int (nI 0), .ref (a_out 0)]) (gs := ([gX8 E a_top (a_forest 0) r_top_before r_top_saved top_isSaved r_top_history (a_desk 0) r_top_walk r_top_input r_top_orders r_top_written top_wrongPosition, gX0 E a_desk (a_forest 0) (a_mix 0) desk_reason desk_detail, gX5 E a_mix mix_row mix_conflictCount mix_lowest, gX1 E a_forest φ_forest, gLO L (a_out 0) out_val] : List va_W)) (gr := ([gLO L (a_out 0) out_val] : List va_W)) (gc := ([gX8 E a_top (a_forest 0) r_top_before r_top_saved top_isSaved r_top_history (a_desk 0) r_top_walk r_top_input r_top_orders r_top_written top_wrongPosition, gX0 E a_desk (a_forest 0) (a_mix 0) desk_reason desk_detail, gX5 E a_mix mix_row mix_conflictCount mix_lowest, gX1 E a_forest φ_forest] : List va_W)) (g1 := ([gX8 E a_top (a_forest 0) r_top_before r_top_saved top_isSaved r_top_history (a_desk 0) r_top_walk r_top_input r_top_orders r_top_written top_wrongPosition, gX0 E a_desk (a_forest 0) (a_mix 0) desk_reason desk_detail, gX5 E a_mix w2 w3 w4, gX1 E a_forest φ_forest] : List va_W)) (g2 := ([gX8 E a_top (a_forest 0) r_top_before r_top_saved top_isSaved r_top_history (a_desk 0) r_top_walk r_top_input r_top_orders r_top_written top_wrongPosition, gX0 E a_desk (a_forest 0) (a_mix 0) desk_reason desk_detail, gX5 E a_mix w2 w3 w4, gX1 E a_forest φ_forest, gLO L (a_out 0) out_val] : List va_W)) ⟨hx, hb, hml, hown, hts⟩ (c8_conflicts l hlt E X a_top a_desk a_mix a_forest r_top_before r_top_saved r_top_history r_top_walk r_top_input r_top_orders r_top_written (x1) (x2) (top_isSaved) (top_wrongPosition) (desk_reason) (desk_detail) (mix_row) (mix_conflictCount) (mix_lowest) (φ_forest) k6 r1 w2 w3 w4 hr5) (cwV 2 hts (ws_v q713 q714 q715 q59 q716) rfl rfl rfl hdV_X8_conflicts (by rw [hR]; exact ⟨Nat.le_of_ble_eq_true rfl, Nat.le_of_ble_eq_true rfl⟩)) hK hN hX hP hD hS hA [4] [0, 1, 2, 3] [1, 2, 3, 4, 0] rfl rfl (by decide) (by decide) rfl (by decide) 0 8 rfl rfl rfl rfl hl.1 rfl (Nat.le_of_ble_eq_true rfl) dL_conflicts_5 (by rw [hR]; exact ⟨Nat.le_of_ble_eq_true rfl, Nat.le_of_ble_eq_true rfl⟩) (fun hk q9 ce H locs hP hD hS hc1 hc2 hc3 => ?_) (fun hk H locs hP hD hS => ?_)
  · rw [if_neg hk] at h
    by_cases c7 : k6 = 1
    · rw [if_pos c7] at h
      subst c7
      refine vx_catch (own := RL) (name := "java/lang/IndexOutOfBoundsException") (E := exn 1) hown [] ⟨0, 10, 13, 13⟩ [] (by rw [ht]; rfl) (fun z hz => absurd hz List.not_mem_nil) rfl (by decide) (hts _ q388) (va_Nw.use rfl (hX.2.2.2.2.2.2.1 (exn 1, exn 1) (by decide +kernel))) hc1 hc2 hc3 ?_
      refine lv_astore (lv' := [(4, .ref q9), (0, .ref (a_top 0)), (1, .int x1), (2, .int x2), (3, .ref (a_out 0))]) hx hb dL_conflicts_13 hl (by decide) rfl (fun ls hl => ?_)
      refine lv_iconst (v := (nI 1)) hx hb dL_conflicts_15 (by decide) ?_
      cases h
      exact px_eWi hA0 hQ hP hD hS hx hb hr hlocks dL_conflicts_16
    · rw [if_neg c7] at h
      cases h
  rw [if_pos hk] at h
  refine W.eq (g2 := F0 m 8 ls [.int r1, .int (nI 0), .ref (a_out 0)]) rfl ?_
  refine lv_i2l (v := (r1).toInt64) hx hb dL_conflicts_8 rfl ?_
  refine va_last (f := out_val) hx hb hL.1 hP hD hS 13 3 rfl rfl (inb_in (i := (nI 0)) (n := 1) (by decide)) dL_conflicts_9 (fun H locs hP hD hS => ?_)
  have hP : va_P E.1 vwCl ([gX8 E a_top (a_forest 0) r_top_before r_top_saved top_isSaved r_top_history (a_desk 0) r_top_walk r_top_input r_top_orders r_top_written top_wrongPosition, gX0 E a_desk (a_forest 0) (a_mix 0) desk_reason desk_detail, gX5 E a_mix w2 w3 w4, gX1 E a_forest φ_forest, gLO L (a_out 0) (vp_updL out_val ((nI 0)).toNatClampNeg ((r1).toInt64))] : List va_W).flatten H := hP
  have hD : va_D A ([gX8 E a_top (a_forest 0) r_top_before r_top_saved top_isSaved r_top_history (a_desk 0) r_top_walk r_top_input r_top_orders r_top_written top_wrongPosition, gX0 E a_desk (a_forest 0) (a_mix 0) desk_reason desk_detail, gX5 E a_mix w2 w3 w4, gX1 E a_forest φ_forest, gLO L (a_out 0) (vp_updL out_val ((nI 0)).toNatClampNeg ((r1).toInt64))] : List va_W).flatten := hD
  refine lv_goto (tgt := 17) hx hb dL_conflicts_10 (by decide) ?_
  refine lv_iconst (v := (nI 0)) hx hb dL_conflicts_17 (by decide) ?_
  cases h
  exact px_eWi hA0 hQ hP hD hS hx hb hr hlocks dL_conflicts_18
def fL_isIn (x1 : Int32) (x2 : Int32) (φ_forest : Fo) (out_val : (Nat → Int64)) : Option (Int32 × (Nat → Int64)) := ((f8_isIn (x1) (x2) (φ_forest)).bind fun (k3, r1) => (if k3 = 0 then (if (b2i r1) = 0 then (some ((nI 0), (vp_updL out_val ((nI 0)).toNatClampNeg (0 : Int64)))) else (some ((nI 0), (vp_updL out_val ((nI 0)).toNatClampNeg (1 : Int64))))) else (if k3 = 1 then (some ((nI 1), out_val)) else none)))
set_option maxHeartbeats 4000000 in
set_option maxRecDepth 100000 in
theorem mL_isIn (l : Launch) (hlt : l.stackTraces = false) (E : PE) (X : PX) (L : LX) (a_top : Nat → Nat) (a_forest : Nat → Nat) (a_out : Nat → Nat) (r_top_before : Nat) (r_top_saved : Nat) (r_top_history : Nat) (r_top_desk : Nat) (r_top_walk : Nat) (r_top_input : Nat) (r_top_orders : Nat) (r_top_written : Nat) (x1 : Int32) (x2 : Int32) (top_isSaved : Int32) (top_wrongPosition : Int32) (φ_forest : Fo) (out_val : (Nat → Int64)) (r : Int32) (z_out_val : (Nat → Int64)) (h : fL_isIn x1 x2 φ_forest out_val = some (r, z_out_val)) : ML l yL_isIn cL_isIn 5 [(0, 17, 20, 13)] { frames := 8, cells := 2, slots := 12, locals := 133 } E X L [.ref (a_top 0), .int x1, .int x2, .ref (a_out 0)] ([gX8 E a_top (a_forest 0) r_top_before r_top_saved top_isSaved r_top_history r_top_desk r_top_walk r_top_input r_top_orders r_top_written top_wrongPosition, gX1 E a_forest φ_forest, gLO L (a_out 0) out_val] : List va_W).flatten 2 12 (some (.int r)) ([gX8 E a_top (a_forest 0) r_top_before r_top_saved top_isSaved r_top_history r_top_desk r_top_walk r_top_input r_top_orders r_top_written top_wrongPosition, gX1 E a_forest φ_forest, gLO L (a_out 0) z_out_val] : List va_W).flatten := by
  refine px_startL (by decide +kernel) (Nat.le_of_ble_eq_true rfl) ?_
  intro p e s m args below meth c R Q A ls hC hX hL hA0 hQ ht
  obtain ⟨hx, hb, hr, hml, hts, hown, hlocks, hR, hK, hN, hP, hD, hA, hl, hin⟩ := hC
  have hl : lv_has ls 5 [(0, .ref (a_top 0)), (1, .int x1), (2, .int x2), (3, .ref (a_out 0))] := hl
  suffices key : ∀ (H : Heap) (locs : List Loc), va_P E.1 vwCl ([gX8 E a_top (a_forest 0) r_top_before r_top_saved top_isSaved r_top_history r_top_desk r_top_walk r_top_input r_top_orders r_top_written top_wrongPosition, gX1 E a_forest φ_forest, gLO L (a_out 0) out_val] : List va_W).flatten H → va_S A s.heap H locs → W p l e R s m args below meth c H locs 0 0 Q (F0 m 0 ls []) from key s.heap [] hP va_S.rf
  unfold fL_isIn at h
  intro H locs hP hS
  refine lv_aload_n hx hb dL_isIn_0 rfl (lv_at hl 3 rfl) ?_
  refine lv_iconst (v := (nI 0)) hx hb dL_isIn_1 (by decide) ?_
  refine lv_aload_n hx hb dL_isIn_2 rfl (lv_at hl 0 rfl) ?_
  refine lv_iload_n hx hb dL_isIn_3 rfl (lv_at hl 1 rfl) ?_
  refine lv_iload_n hx hb dL_isIn_4 rfl (lv_at hl 2 rfl) ?_
  obtain ⟨⟨k3, r1⟩, hr2, h⟩ := ob h
  dsimp only at h
  refine px_VT (As := [.int x1, .int x2]) (rest := [.int (nI 0), .ref (a_out 0)]) (gs := ([gX8 E a_top (a_forest 0) r_top_before r_top_saved top_isSaved r_top_history r_top_desk r_top_walk r_top_input r_top_orders r_top_written top_wrongPosition, gX1 E a_forest φ_forest, gLO L (a_out 0) out_val] : List va_W)) (gr := ([gLO L (a_out 0) out_val] : List va_W)) (gc := ([gX8 E a_top (a_forest 0) r_top_before r_top_saved top_isSaved r_top_history r_top_desk r_top_walk r_top_input r_top_orders r_top_written top_wrongPosition, gX1 E a_forest φ_forest] : List va_W)) (g1 := ([gX8 E a_top (a_forest 0) r_top_before r_top_saved top_isSaved r_top_history r_top_desk r_top_walk r_top_input r_top_orders r_top_written top_wrongPosition, gX1 E a_forest φ_forest] : List va_W)) (g2 := ([gX8 E a_top (a_forest 0) r_top_before r_top_saved top_isSaved r_top_history r_top_desk r_top_walk r_top_input r_top_orders r_top_written top_wrongPosition, gX1 E a_forest φ_forest, gLO L (a_out 0) out_val] : List va_W)) ⟨hx, hb, hml, hown, hts⟩ (c8_isIn l hlt E X a_top a_forest r_top_before r_top_saved r_top_history r_top_desk r_top_walk r_top_input r_top_orders r_top_written (x1) (x2) (top_isSaved) (top_wrongPosition) (φ_forest) k3 r1 hr2) (cwV 2 hts (ws_v q724 q725 q726 q59 q727) rfl rfl rfl hdV_X8_isIn (by rw [hR]; exact ⟨Nat.le_of_ble_eq_true rfl, Nat.le_of_ble_eq_true rfl⟩)) hK hN hX hP hD hS hA [2] [0, 1] [1, 2, 0] rfl rfl (by decide) (by decide) rfl (by decide) 0 8 rfl rfl rfl rfl hl.1 rfl (Nat.le_of_ble_eq_true rfl) dL_isIn_5 (by rw [hR]; exact ⟨Nat.le_of_ble_eq_true rfl, Nat.le_of_ble_eq_true rfl⟩) (fun hk q9 ce H locs hP hD hS hc1 hc2 hc3 => ?_) (fun hk H locs hP hD hS => ?_)
  · rw [if_neg hk] at h
    by_cases c4 : k3 = 1
    · rw [if_pos c4] at h
      subst c4
      refine vx_catch (own := RL) (name := "java/lang/IndexOutOfBoundsException") (E := exn 1) hown [] ⟨0, 17, 20, 13⟩ [] (by rw [ht]; rfl) (fun z hz => absurd hz List.not_mem_nil) rfl (by decide) (hts _ q388) (va_Nw.use rfl (hX.2.2.2.2.2.2.1 (exn 1, exn 1) (by decide +kernel))) hc1 hc2 hc3 ?_
      refine lv_astore (lv' := [(4, .ref q9), (0, .ref (a_top 0)), (1, .int x1), (2, .int x2), (3, .ref (a_out 0))]) hx hb dL_isIn_20 hl (by decide) rfl (fun ls hl => ?_)
      refine lv_iconst (v := (nI 1)) hx hb dL_isIn_22 (by decide) ?_
      cases h
      exact px_eWi hA0 hQ hP hD hS hx hb hr hlocks dL_isIn_23
    · rw [if_neg c4] at h
      cases h
  rw [if_pos hk] at h
  refine W.eq (g2 := F0 m 8 ls [.int (b2i r1), .int (nI 0), .ref (a_out 0)]) rfl ?_
  refine lv_if_eq (tgt := 15) hx hb dL_isIn_8 (by decide) (fun c5 => ?_) (fun c5 => ?_)
  · rw [if_pos c5] at h
    refine lv_lconst (v := (0 : Int64)) hx hb dL_isIn_15 (by decide) ?_
    refine va_last (f := out_val) hx hb hL.1 hP hD hS 10 3 rfl rfl (inb_in (i := (nI 0)) (n := 1) (by decide)) dL_isIn_16 (fun H locs hP hD hS => ?_)
    have hP : va_P E.1 vwCl ([gX8 E a_top (a_forest 0) r_top_before r_top_saved top_isSaved r_top_history r_top_desk r_top_walk r_top_input r_top_orders r_top_written top_wrongPosition, gX1 E a_forest φ_forest, gLO L (a_out 0) (vp_updL out_val ((nI 0)).toNatClampNeg (0 : Int64))] : List va_W).flatten H := hP
    have hD : va_D A ([gX8 E a_top (a_forest 0) r_top_before r_top_saved top_isSaved r_top_history r_top_desk r_top_walk r_top_input r_top_orders r_top_written top_wrongPosition, gX1 E a_forest φ_forest, gLO L (a_out 0) (vp_updL out_val ((nI 0)).toNatClampNeg (0 : Int64))] : List va_W).flatten := hD
    refine lv_goto (tgt := 24) hx hb dL_isIn_17 (by decide) ?_
    refine lv_iconst (v := (nI 0)) hx hb dL_isIn_24 (by decide) ?_
    cases h
    exact px_eWi hA0 hQ hP hD hS hx hb hr hlocks dL_isIn_25
  · rw [if_neg c5] at h
    refine lv_lconst (v := (1 : Int64)) hx hb dL_isIn_11 (by decide) ?_
    refine lv_goto (tgt := 16) hx hb dL_isIn_12 (by decide) ?_
    refine va_last (f := out_val) hx hb hL.1 hP hD hS 10 3 rfl rfl (inb_in (i := (nI 0)) (n := 1) (by decide)) dL_isIn_16 (fun H locs hP hD hS => ?_)
    have hP : va_P E.1 vwCl ([gX8 E a_top (a_forest 0) r_top_before r_top_saved top_isSaved r_top_history r_top_desk r_top_walk r_top_input r_top_orders r_top_written top_wrongPosition, gX1 E a_forest φ_forest, gLO L (a_out 0) (vp_updL out_val ((nI 0)).toNatClampNeg (1 : Int64))] : List va_W).flatten H := hP
    have hD : va_D A ([gX8 E a_top (a_forest 0) r_top_before r_top_saved top_isSaved r_top_history r_top_desk r_top_walk r_top_input r_top_orders r_top_written top_wrongPosition, gX1 E a_forest φ_forest, gLO L (a_out 0) (vp_updL out_val ((nI 0)).toNatClampNeg (1 : Int64))] : List va_W).flatten := hD
    refine lv_goto (tgt := 24) hx hb dL_isIn_17 (by decide) ?_
    refine lv_iconst (v := (nI 0)) hx hb dL_isIn_24 (by decide) ?_
    cases h
    exact px_eWi hA0 hQ hP hD hS hx hb hr hlocks dL_isIn_25
def fL_base (x1 : Int32) (x2 : Int32) (φ_forest : Fo) (out_val : (Nat → Int64)) : Option (Int32 × (Nat → Int64)) := ((f8_base (x1) (x2) (φ_forest)).bind fun (k3, r1) => (if k3 = 0 then (some ((nI 0), (vp_updL out_val ((nI 0)).toNatClampNeg ((r1).toInt64)))) else (if k3 = 1 then (some ((nI 1), out_val)) else none)))
set_option maxHeartbeats 4000000 in
set_option maxRecDepth 100000 in
theorem mL_base (l : Launch) (hlt : l.stackTraces = false) (E : PE) (X : PX) (L : LX) (a_top : Nat → Nat) (a_forest : Nat → Nat) (a_out : Nat → Nat) (r_top_before : Nat) (r_top_saved : Nat) (r_top_history : Nat) (r_top_desk : Nat) (r_top_walk : Nat) (r_top_input : Nat) (r_top_orders : Nat) (r_top_written : Nat) (x1 : Int32) (x2 : Int32) (top_isSaved : Int32) (top_wrongPosition : Int32) (φ_forest : Fo) (out_val : (Nat → Int64)) (r : Int32) (z_out_val : (Nat → Int64)) (h : fL_base x1 x2 φ_forest out_val = some (r, z_out_val)) : ML l yL_base cL_base 5 [(0, 10, 13, 13)] { frames := 8, cells := 2, slots := 12, locals := 133 } E X L [.ref (a_top 0), .int x1, .int x2, .ref (a_out 0)] ([gX8 E a_top (a_forest 0) r_top_before r_top_saved top_isSaved r_top_history r_top_desk r_top_walk r_top_input r_top_orders r_top_written top_wrongPosition, gX1 E a_forest φ_forest, gLO L (a_out 0) out_val] : List va_W).flatten 2 12 (some (.int r)) ([gX8 E a_top (a_forest 0) r_top_before r_top_saved top_isSaved r_top_history r_top_desk r_top_walk r_top_input r_top_orders r_top_written top_wrongPosition, gX1 E a_forest φ_forest, gLO L (a_out 0) z_out_val] : List va_W).flatten := by
  refine px_startL (by decide +kernel) (Nat.le_of_ble_eq_true rfl) ?_
  intro p e s m args below meth c R Q A ls hC hX hL hA0 hQ ht
  obtain ⟨hx, hb, hr, hml, hts, hown, hlocks, hR, hK, hN, hP, hD, hA, hl, hin⟩ := hC
  have hl : lv_has ls 5 [(0, .ref (a_top 0)), (1, .int x1), (2, .int x2), (3, .ref (a_out 0))] := hl
  suffices key : ∀ (H : Heap) (locs : List Loc), va_P E.1 vwCl ([gX8 E a_top (a_forest 0) r_top_before r_top_saved top_isSaved r_top_history r_top_desk r_top_walk r_top_input r_top_orders r_top_written top_wrongPosition, gX1 E a_forest φ_forest, gLO L (a_out 0) out_val] : List va_W).flatten H → va_S A s.heap H locs → W p l e R s m args below meth c H locs 0 0 Q (F0 m 0 ls []) from key s.heap [] hP va_S.rf
  unfold fL_base at h
  intro H locs hP hS
  refine lv_aload_n hx hb dL_base_0 rfl (lv_at hl 3 rfl) ?_
  refine lv_iconst (v := (nI 0)) hx hb dL_base_1 (by decide) ?_
  refine lv_aload_n hx hb dL_base_2 rfl (lv_at hl 0 rfl) ?_
  refine lv_iload_n hx hb dL_base_3 rfl (lv_at hl 1 rfl) ?_
  refine lv_iload_n hx hb dL_base_4 rfl (lv_at hl 2 rfl) ?_
  obtain ⟨⟨k3, r1⟩, hr2, h⟩ := ob h
  dsimp only at h
  refine px_VT (As := [.int x1, .int x2]) (rest := [.int (nI 0), .ref (a_out 0)]) (gs := ([gX8 E a_top (a_forest 0) r_top_before r_top_saved top_isSaved r_top_history r_top_desk r_top_walk r_top_input r_top_orders r_top_written top_wrongPosition, gX1 E a_forest φ_forest, gLO L (a_out 0) out_val] : List va_W)) (gr := ([gLO L (a_out 0) out_val] : List va_W)) (gc := ([gX8 E a_top (a_forest 0) r_top_before r_top_saved top_isSaved r_top_history r_top_desk r_top_walk r_top_input r_top_orders r_top_written top_wrongPosition, gX1 E a_forest φ_forest] : List va_W)) (g1 := ([gX8 E a_top (a_forest 0) r_top_before r_top_saved top_isSaved r_top_history r_top_desk r_top_walk r_top_input r_top_orders r_top_written top_wrongPosition, gX1 E a_forest φ_forest] : List va_W)) (g2 := ([gX8 E a_top (a_forest 0) r_top_before r_top_saved top_isSaved r_top_history r_top_desk r_top_walk r_top_input r_top_orders r_top_written top_wrongPosition, gX1 E a_forest φ_forest, gLO L (a_out 0) out_val] : List va_W)) ⟨hx, hb, hml, hown, hts⟩ (c8_base l hlt E X a_top a_forest r_top_before r_top_saved r_top_history r_top_desk r_top_walk r_top_input r_top_orders r_top_written (x1) (x2) (top_isSaved) (top_wrongPosition) (φ_forest) k3 r1 hr2) (cwV 2 hts (ws_v q732 q733 q734 q59 q735) rfl rfl rfl hdV_X8_base (by rw [hR]; exact ⟨Nat.le_of_ble_eq_true rfl, Nat.le_of_ble_eq_true rfl⟩)) hK hN hX hP hD hS hA [2] [0, 1] [1, 2, 0] rfl rfl (by decide) (by decide) rfl (by decide) 0 8 rfl rfl rfl rfl hl.1 rfl (Nat.le_of_ble_eq_true rfl) dL_base_5 (by rw [hR]; exact ⟨Nat.le_of_ble_eq_true rfl, Nat.le_of_ble_eq_true rfl⟩) (fun hk q9 ce H locs hP hD hS hc1 hc2 hc3 => ?_) (fun hk H locs hP hD hS => ?_)
  · rw [if_neg hk] at h
    by_cases c4 : k3 = 1
    · rw [if_pos c4] at h
      subst c4
      refine vx_catch (own := RL) (name := "java/lang/IndexOutOfBoundsException") (E := exn 1) hown [] ⟨0, 10, 13, 13⟩ [] (by rw [ht]; rfl) (fun z hz => absurd hz List.not_mem_nil) rfl (by decide) (hts _ q388) (va_Nw.use rfl (hX.2.2.2.2.2.2.1 (exn 1, exn 1) (by decide +kernel))) hc1 hc2 hc3 ?_
      refine lv_astore (lv' := [(4, .ref q9), (0, .ref (a_top 0)), (1, .int x1), (2, .int x2), (3, .ref (a_out 0))]) hx hb dL_base_13 hl (by decide) rfl (fun ls hl => ?_)
      refine lv_iconst (v := (nI 1)) hx hb dL_base_15 (by decide) ?_
      cases h
      exact px_eWi hA0 hQ hP hD hS hx hb hr hlocks dL_base_16
    · rw [if_neg c4] at h
      cases h
  rw [if_pos hk] at h
  refine W.eq (g2 := F0 m 8 ls [.int r1, .int (nI 0), .ref (a_out 0)]) rfl ?_
  refine lv_i2l (v := (r1).toInt64) hx hb dL_base_8 rfl ?_
  refine va_last (f := out_val) hx hb hL.1 hP hD hS 10 3 rfl rfl (inb_in (i := (nI 0)) (n := 1) (by decide)) dL_base_9 (fun H locs hP hD hS => ?_)
  have hP : va_P E.1 vwCl ([gX8 E a_top (a_forest 0) r_top_before r_top_saved top_isSaved r_top_history r_top_desk r_top_walk r_top_input r_top_orders r_top_written top_wrongPosition, gX1 E a_forest φ_forest, gLO L (a_out 0) (vp_updL out_val ((nI 0)).toNatClampNeg ((r1).toInt64))] : List va_W).flatten H := hP
  have hD : va_D A ([gX8 E a_top (a_forest 0) r_top_before r_top_saved top_isSaved r_top_history r_top_desk r_top_walk r_top_input r_top_orders r_top_written top_wrongPosition, gX1 E a_forest φ_forest, gLO L (a_out 0) (vp_updL out_val ((nI 0)).toNatClampNeg ((r1).toInt64))] : List va_W).flatten := hD
  refine lv_goto (tgt := 17) hx hb dL_base_10 (by decide) ?_
  refine lv_iconst (v := (nI 0)) hx hb dL_base_17 (by decide) ?_
  cases h
  exact px_eWi hA0 hQ hP hD hS hx hb hr hlocks dL_base_18
def fL_baseAgain (x1 : Int32) (x2 : Int32) (φ_forest : Fo) (out_val : (Nat → Int64)) : Option (Int32 × (Nat → Int64)) := ((f8_baseAgain (x1) (x2) (φ_forest)).bind fun (k3, r1) => (if k3 = 0 then (some ((nI 0), (vp_updL out_val ((nI 0)).toNatClampNeg ((r1).toInt64)))) else (if k3 = 1 then (some ((nI 1), out_val)) else none)))
set_option maxHeartbeats 4000000 in
set_option maxRecDepth 100000 in
theorem mL_baseAgain (l : Launch) (hlt : l.stackTraces = false) (E : PE) (X : PX) (L : LX) (a_top : Nat → Nat) (a_forest : Nat → Nat) (a_out : Nat → Nat) (r_top_before : Nat) (r_top_saved : Nat) (r_top_history : Nat) (r_top_desk : Nat) (r_top_walk : Nat) (r_top_input : Nat) (r_top_orders : Nat) (r_top_written : Nat) (x1 : Int32) (x2 : Int32) (top_isSaved : Int32) (top_wrongPosition : Int32) (φ_forest : Fo) (out_val : (Nat → Int64)) (r : Int32) (z_out_val : (Nat → Int64)) (h : fL_baseAgain x1 x2 φ_forest out_val = some (r, z_out_val)) : ML l yL_baseAgain cL_baseAgain 5 [(0, 10, 13, 13)] { frames := 8, cells := 2, slots := 12, locals := 133 } E X L [.ref (a_top 0), .int x1, .int x2, .ref (a_out 0)] ([gX8 E a_top (a_forest 0) r_top_before r_top_saved top_isSaved r_top_history r_top_desk r_top_walk r_top_input r_top_orders r_top_written top_wrongPosition, gX1 E a_forest φ_forest, gLO L (a_out 0) out_val] : List va_W).flatten 2 12 (some (.int r)) ([gX8 E a_top (a_forest 0) r_top_before r_top_saved top_isSaved r_top_history r_top_desk r_top_walk r_top_input r_top_orders r_top_written top_wrongPosition, gX1 E a_forest φ_forest, gLO L (a_out 0) z_out_val] : List va_W).flatten := by
  refine px_startL (by decide +kernel) (Nat.le_of_ble_eq_true rfl) ?_
  intro p e s m args below meth c R Q A ls hC hX hL hA0 hQ ht
  obtain ⟨hx, hb, hr, hml, hts, hown, hlocks, hR, hK, hN, hP, hD, hA, hl, hin⟩ := hC
  have hl : lv_has ls 5 [(0, .ref (a_top 0)), (1, .int x1), (2, .int x2), (3, .ref (a_out 0))] := hl
  suffices key : ∀ (H : Heap) (locs : List Loc), va_P E.1 vwCl ([gX8 E a_top (a_forest 0) r_top_before r_top_saved top_isSaved r_top_history r_top_desk r_top_walk r_top_input r_top_orders r_top_written top_wrongPosition, gX1 E a_forest φ_forest, gLO L (a_out 0) out_val] : List va_W).flatten H → va_S A s.heap H locs → W p l e R s m args below meth c H locs 0 0 Q (F0 m 0 ls []) from key s.heap [] hP va_S.rf
  unfold fL_baseAgain at h
  intro H locs hP hS
  refine lv_aload_n hx hb dL_baseAgain_0 rfl (lv_at hl 3 rfl) ?_
  refine lv_iconst (v := (nI 0)) hx hb dL_baseAgain_1 (by decide) ?_
  refine lv_aload_n hx hb dL_baseAgain_2 rfl (lv_at hl 0 rfl) ?_
  refine lv_iload_n hx hb dL_baseAgain_3 rfl (lv_at hl 1 rfl) ?_
  refine lv_iload_n hx hb dL_baseAgain_4 rfl (lv_at hl 2 rfl) ?_
  obtain ⟨⟨k3, r1⟩, hr2, h⟩ := ob h
  dsimp only at h
  refine px_VT (As := [.int x1, .int x2]) (rest := [.int (nI 0), .ref (a_out 0)]) (gs := ([gX8 E a_top (a_forest 0) r_top_before r_top_saved top_isSaved r_top_history r_top_desk r_top_walk r_top_input r_top_orders r_top_written top_wrongPosition, gX1 E a_forest φ_forest, gLO L (a_out 0) out_val] : List va_W)) (gr := ([gLO L (a_out 0) out_val] : List va_W)) (gc := ([gX8 E a_top (a_forest 0) r_top_before r_top_saved top_isSaved r_top_history r_top_desk r_top_walk r_top_input r_top_orders r_top_written top_wrongPosition, gX1 E a_forest φ_forest] : List va_W)) (g1 := ([gX8 E a_top (a_forest 0) r_top_before r_top_saved top_isSaved r_top_history r_top_desk r_top_walk r_top_input r_top_orders r_top_written top_wrongPosition, gX1 E a_forest φ_forest] : List va_W)) (g2 := ([gX8 E a_top (a_forest 0) r_top_before r_top_saved top_isSaved r_top_history r_top_desk r_top_walk r_top_input r_top_orders r_top_written top_wrongPosition, gX1 E a_forest φ_forest, gLO L (a_out 0) out_val] : List va_W)) ⟨hx, hb, hml, hown, hts⟩ (c8_baseAgain l hlt E X a_top a_forest r_top_before r_top_saved r_top_history r_top_desk r_top_walk r_top_input r_top_orders r_top_written (x1) (x2) (top_isSaved) (top_wrongPosition) (φ_forest) k3 r1 hr2) (cwV 2 hts (ws_v q740 q741 q742 q59 q743) rfl rfl rfl hdV_X8_baseAgain (by rw [hR]; exact ⟨Nat.le_of_ble_eq_true rfl, Nat.le_of_ble_eq_true rfl⟩)) hK hN hX hP hD hS hA [2] [0, 1] [1, 2, 0] rfl rfl (by decide) (by decide) rfl (by decide) 0 8 rfl rfl rfl rfl hl.1 rfl (Nat.le_of_ble_eq_true rfl) dL_baseAgain_5 (by rw [hR]; exact ⟨Nat.le_of_ble_eq_true rfl, Nat.le_of_ble_eq_true rfl⟩) (fun hk q9 ce H locs hP hD hS hc1 hc2 hc3 => ?_) (fun hk H locs hP hD hS => ?_)
  · rw [if_neg hk] at h
    by_cases c4 : k3 = 1
    · rw [if_pos c4] at h
      subst c4
      refine vx_catch (own := RL) (name := "java/lang/IndexOutOfBoundsException") (E := exn 1) hown [] ⟨0, 10, 13, 13⟩ [] (by rw [ht]; rfl) (fun z hz => absurd hz List.not_mem_nil) rfl (by decide) (hts _ q388) (va_Nw.use rfl (hX.2.2.2.2.2.2.1 (exn 1, exn 1) (by decide +kernel))) hc1 hc2 hc3 ?_
      refine lv_astore (lv' := [(4, .ref q9), (0, .ref (a_top 0)), (1, .int x1), (2, .int x2), (3, .ref (a_out 0))]) hx hb dL_baseAgain_13 hl (by decide) rfl (fun ls hl => ?_)
      refine lv_iconst (v := (nI 1)) hx hb dL_baseAgain_15 (by decide) ?_
      cases h
      exact px_eWi hA0 hQ hP hD hS hx hb hr hlocks dL_baseAgain_16
    · rw [if_neg c4] at h
      cases h
  rw [if_pos hk] at h
  refine W.eq (g2 := F0 m 8 ls [.int r1, .int (nI 0), .ref (a_out 0)]) rfl ?_
  refine lv_i2l (v := (r1).toInt64) hx hb dL_baseAgain_8 rfl ?_
  refine va_last (f := out_val) hx hb hL.1 hP hD hS 10 3 rfl rfl (inb_in (i := (nI 0)) (n := 1) (by decide)) dL_baseAgain_9 (fun H locs hP hD hS => ?_)
  have hP : va_P E.1 vwCl ([gX8 E a_top (a_forest 0) r_top_before r_top_saved top_isSaved r_top_history r_top_desk r_top_walk r_top_input r_top_orders r_top_written top_wrongPosition, gX1 E a_forest φ_forest, gLO L (a_out 0) (vp_updL out_val ((nI 0)).toNatClampNeg ((r1).toInt64))] : List va_W).flatten H := hP
  have hD : va_D A ([gX8 E a_top (a_forest 0) r_top_before r_top_saved top_isSaved r_top_history r_top_desk r_top_walk r_top_input r_top_orders r_top_written top_wrongPosition, gX1 E a_forest φ_forest, gLO L (a_out 0) (vp_updL out_val ((nI 0)).toNatClampNeg ((r1).toInt64))] : List va_W).flatten := hD
  refine lv_goto (tgt := 17) hx hb dL_baseAgain_10 (by decide) ?_
  refine lv_iconst (v := (nI 0)) hx hb dL_baseAgain_17 (by decide) ?_
  cases h
  exact px_eWi hA0 hQ hP hD hS hx hb hr hlocks dL_baseAgain_18
def fL_difference (x1 : Int32) (x2 : Int32) (φ_forest : Fo) (out_val : (Nat → Int64)) : Option (Int32 × (Nat → Int64)) := ((f8_difference (x1) (x2) (φ_forest)).bind fun (k3, r1) => (if k3 = 0 then (some ((nI 0), (vp_updL out_val ((nI 0)).toNatClampNeg ((r1).toInt64)))) else (if k3 = 1 then (some ((nI 1), out_val)) else none)))
set_option maxHeartbeats 4000000 in
set_option maxRecDepth 100000 in
theorem mL_difference (l : Launch) (hlt : l.stackTraces = false) (E : PE) (X : PX) (L : LX) (a_top : Nat → Nat) (a_forest : Nat → Nat) (a_out : Nat → Nat) (r_top_before : Nat) (r_top_saved : Nat) (r_top_history : Nat) (r_top_desk : Nat) (r_top_walk : Nat) (r_top_input : Nat) (r_top_orders : Nat) (r_top_written : Nat) (x1 : Int32) (x2 : Int32) (top_isSaved : Int32) (top_wrongPosition : Int32) (φ_forest : Fo) (out_val : (Nat → Int64)) (r : Int32) (z_out_val : (Nat → Int64)) (h : fL_difference x1 x2 φ_forest out_val = some (r, z_out_val)) : ML l yL_difference cL_difference 5 [(0, 10, 13, 13)] { frames := 8, cells := 2, slots := 12, locals := 135 } E X L [.ref (a_top 0), .int x1, .int x2, .ref (a_out 0)] ([gX8 E a_top (a_forest 0) r_top_before r_top_saved top_isSaved r_top_history r_top_desk r_top_walk r_top_input r_top_orders r_top_written top_wrongPosition, gX1 E a_forest φ_forest, gLO L (a_out 0) out_val] : List va_W).flatten 2 12 (some (.int r)) ([gX8 E a_top (a_forest 0) r_top_before r_top_saved top_isSaved r_top_history r_top_desk r_top_walk r_top_input r_top_orders r_top_written top_wrongPosition, gX1 E a_forest φ_forest, gLO L (a_out 0) z_out_val] : List va_W).flatten := by
  refine px_startL (by decide +kernel) (Nat.le_of_ble_eq_true rfl) ?_
  intro p e s m args below meth c R Q A ls hC hX hL hA0 hQ ht
  obtain ⟨hx, hb, hr, hml, hts, hown, hlocks, hR, hK, hN, hP, hD, hA, hl, hin⟩ := hC
  have hl : lv_has ls 5 [(0, .ref (a_top 0)), (1, .int x1), (2, .int x2), (3, .ref (a_out 0))] := hl
  suffices key : ∀ (H : Heap) (locs : List Loc), va_P E.1 vwCl ([gX8 E a_top (a_forest 0) r_top_before r_top_saved top_isSaved r_top_history r_top_desk r_top_walk r_top_input r_top_orders r_top_written top_wrongPosition, gX1 E a_forest φ_forest, gLO L (a_out 0) out_val] : List va_W).flatten H → va_S A s.heap H locs → W p l e R s m args below meth c H locs 0 0 Q (F0 m 0 ls []) from key s.heap [] hP va_S.rf
  unfold fL_difference at h
  intro H locs hP hS
  refine lv_aload_n hx hb dL_difference_0 rfl (lv_at hl 3 rfl) ?_
  refine lv_iconst (v := (nI 0)) hx hb dL_difference_1 (by decide) ?_
  refine lv_aload_n hx hb dL_difference_2 rfl (lv_at hl 0 rfl) ?_
  refine lv_iload_n hx hb dL_difference_3 rfl (lv_at hl 1 rfl) ?_
  refine lv_iload_n hx hb dL_difference_4 rfl (lv_at hl 2 rfl) ?_
  obtain ⟨⟨k3, r1⟩, hr2, h⟩ := ob h
  dsimp only at h
  refine px_VT (As := [.int x1, .int x2]) (rest := [.int (nI 0), .ref (a_out 0)]) (gs := ([gX8 E a_top (a_forest 0) r_top_before r_top_saved top_isSaved r_top_history r_top_desk r_top_walk r_top_input r_top_orders r_top_written top_wrongPosition, gX1 E a_forest φ_forest, gLO L (a_out 0) out_val] : List va_W)) (gr := ([gLO L (a_out 0) out_val] : List va_W)) (gc := ([gX8 E a_top (a_forest 0) r_top_before r_top_saved top_isSaved r_top_history r_top_desk r_top_walk r_top_input r_top_orders r_top_written top_wrongPosition, gX1 E a_forest φ_forest] : List va_W)) (g1 := ([gX8 E a_top (a_forest 0) r_top_before r_top_saved top_isSaved r_top_history r_top_desk r_top_walk r_top_input r_top_orders r_top_written top_wrongPosition, gX1 E a_forest φ_forest] : List va_W)) (g2 := ([gX8 E a_top (a_forest 0) r_top_before r_top_saved top_isSaved r_top_history r_top_desk r_top_walk r_top_input r_top_orders r_top_written top_wrongPosition, gX1 E a_forest φ_forest, gLO L (a_out 0) out_val] : List va_W)) ⟨hx, hb, hml, hown, hts⟩ (c8_difference l hlt E X a_top a_forest r_top_before r_top_saved r_top_history r_top_desk r_top_walk r_top_input r_top_orders r_top_written (x1) (x2) (top_isSaved) (top_wrongPosition) (φ_forest) k3 r1 hr2) (cwV 2 hts (ws_v q748 q749 q750 q59 q751) rfl rfl rfl hdV_X8_difference (by rw [hR]; exact ⟨Nat.le_of_ble_eq_true rfl, Nat.le_of_ble_eq_true rfl⟩)) hK hN hX hP hD hS hA [2] [0, 1] [1, 2, 0] rfl rfl (by decide) (by decide) rfl (by decide) 0 8 rfl rfl rfl rfl hl.1 rfl (Nat.le_of_ble_eq_true rfl) dL_difference_5 (by rw [hR]; exact ⟨Nat.le_of_ble_eq_true rfl, Nat.le_of_ble_eq_true rfl⟩) (fun hk q9 ce H locs hP hD hS hc1 hc2 hc3 => ?_) (fun hk H locs hP hD hS => ?_)
  · rw [if_neg hk] at h
    by_cases c4 : k3 = 1
    · rw [if_pos c4] at h
      subst c4
      refine vx_catch (own := RL) (name := "java/lang/IndexOutOfBoundsException") (E := exn 1) hown [] ⟨0, 10, 13, 13⟩ [] (by rw [ht]; rfl) (fun z hz => absurd hz List.not_mem_nil) rfl (by decide) (hts _ q388) (va_Nw.use rfl (hX.2.2.2.2.2.2.1 (exn 1, exn 1) (by decide +kernel))) hc1 hc2 hc3 ?_
      refine lv_astore (lv' := [(4, .ref q9), (0, .ref (a_top 0)), (1, .int x1), (2, .int x2), (3, .ref (a_out 0))]) hx hb dL_difference_13 hl (by decide) rfl (fun ls hl => ?_)
      refine lv_iconst (v := (nI 1)) hx hb dL_difference_15 (by decide) ?_
      cases h
      exact px_eWi hA0 hQ hP hD hS hx hb hr hlocks dL_difference_16
    · rw [if_neg c4] at h
      cases h
  rw [if_pos hk] at h
  refine W.eq (g2 := F0 m 8 ls [.int r1, .int (nI 0), .ref (a_out 0)]) rfl ?_
  refine lv_i2l (v := (r1).toInt64) hx hb dL_difference_8 rfl ?_
  refine va_last (f := out_val) hx hb hL.1 hP hD hS 10 3 rfl rfl (inb_in (i := (nI 0)) (n := 1) (by decide)) dL_difference_9 (fun H locs hP hD hS => ?_)
  have hP : va_P E.1 vwCl ([gX8 E a_top (a_forest 0) r_top_before r_top_saved top_isSaved r_top_history r_top_desk r_top_walk r_top_input r_top_orders r_top_written top_wrongPosition, gX1 E a_forest φ_forest, gLO L (a_out 0) (vp_updL out_val ((nI 0)).toNatClampNeg ((r1).toInt64))] : List va_W).flatten H := hP
  have hD : va_D A ([gX8 E a_top (a_forest 0) r_top_before r_top_saved top_isSaved r_top_history r_top_desk r_top_walk r_top_input r_top_orders r_top_written top_wrongPosition, gX1 E a_forest φ_forest, gLO L (a_out 0) (vp_updL out_val ((nI 0)).toNatClampNeg ((r1).toInt64))] : List va_W).flatten := hD
  refine lv_goto (tgt := 17) hx hb dL_difference_10 (by decide) ?_
  refine lv_iconst (v := (nI 0)) hx hb dL_difference_17 (by decide) ?_
  cases h
  exact px_eWi hA0 hQ hP hD hS hx hb hr hlocks dL_difference_18
def fL_onLine (x1 : Int32) (x2 : Int32) (φ_forest : Fo) (walk_commits : AI) (walk_length : Int32) (out_val : (Nat → Int64)) : Option (Int32 × AI × Int32 × (Nat → Int64)) := ((f8_onLine (x1) (x2) (φ_forest) (walk_commits) (walk_length)).bind fun (k5, r1, w2, w3) => (if k5 = 0 then (some ((nI 0), w2, w3, (vp_updL out_val ((nI 0)).toNatClampNeg ((r1).toInt64)))) else (if k5 = 1 then (some ((nI 1), w2, w3, out_val)) else (if k5 = 4 then (some ((nI 2), w2, w3, out_val)) else none))))
set_option maxHeartbeats 4000000 in
set_option maxRecDepth 100000 in
theorem mL_onLine (l : Launch) (hlt : l.stackTraces = false) (E : PE) (X : PX) (L : LX) (a_top : Nat → Nat) (a_forest : Nat → Nat) (a_walk : Nat → Nat) (a_out : Nat → Nat) (r_top_before : Nat) (r_top_saved : Nat) (r_top_history : Nat) (r_top_desk : Nat) (r_top_input : Nat) (r_top_orders : Nat) (r_top_written : Nat) (x1 : Int32) (x2 : Int32) (top_isSaved : Int32) (top_wrongPosition : Int32) (φ_forest : Fo) (walk_commits : AI) (walk_length : Int32) (walk_looks : Int32) (out_val : (Nat → Int64)) (r : Int32) (z_walk_commits : AI) (z_walk_length : Int32) (z_out_val : (Nat → Int64)) (h : fL_onLine x1 x2 φ_forest walk_commits walk_length out_val = some (r, z_walk_commits, z_walk_length, z_out_val)) : ML l yL_onLine cL_onLine 5 [(0, 10, 13, 13), (0, 10, 17, 64)] { frames := 8, cells := 2, slots := 12, locals := 134 } E X L [.ref (a_top 0), .int x1, .int x2, .ref (a_out 0)] ([gX8 E a_top (a_forest 0) r_top_before r_top_saved top_isSaved r_top_history r_top_desk (a_walk 0) r_top_input r_top_orders r_top_written top_wrongPosition, gX1 E a_forest φ_forest, gX7 E a_walk walk_commits walk_length walk_looks, gLO L (a_out 0) out_val] : List va_W).flatten 2 12 (some (.int r)) ([gX8 E a_top (a_forest 0) r_top_before r_top_saved top_isSaved r_top_history r_top_desk (a_walk 0) r_top_input r_top_orders r_top_written top_wrongPosition, gX1 E a_forest φ_forest, gX7 E a_walk z_walk_commits z_walk_length walk_looks, gLO L (a_out 0) z_out_val] : List va_W).flatten := by
  refine px_startL (by decide +kernel) (Nat.le_of_ble_eq_true rfl) ?_
  intro p e s m args below meth c R Q A ls hC hX hL hA0 hQ ht
  obtain ⟨hx, hb, hr, hml, hts, hown, hlocks, hR, hK, hN, hP, hD, hA, hl, hin⟩ := hC
  have hl : lv_has ls 5 [(0, .ref (a_top 0)), (1, .int x1), (2, .int x2), (3, .ref (a_out 0))] := hl
  suffices key : ∀ (H : Heap) (locs : List Loc), va_P E.1 vwCl ([gX8 E a_top (a_forest 0) r_top_before r_top_saved top_isSaved r_top_history r_top_desk (a_walk 0) r_top_input r_top_orders r_top_written top_wrongPosition, gX1 E a_forest φ_forest, gX7 E a_walk walk_commits walk_length walk_looks, gLO L (a_out 0) out_val] : List va_W).flatten H → va_S A s.heap H locs → W p l e R s m args below meth c H locs 0 0 Q (F0 m 0 ls []) from key s.heap [] hP va_S.rf
  unfold fL_onLine at h
  intro H locs hP hS
  refine lv_aload_n hx hb dL_onLine_0 rfl (lv_at hl 3 rfl) ?_
  refine lv_iconst (v := (nI 0)) hx hb dL_onLine_1 (by decide) ?_
  refine lv_aload_n hx hb dL_onLine_2 rfl (lv_at hl 0 rfl) ?_
  refine lv_iload_n hx hb dL_onLine_3 rfl (lv_at hl 1 rfl) ?_
  refine lv_iload_n hx hb dL_onLine_4 rfl (lv_at hl 2 rfl) ?_
  obtain ⟨⟨k5, r1, w2, w3⟩, hr4, h⟩ := ob h
  dsimp only at h
  refine px_VT (As := [.int x1, .int x2]) (rest := [.int (nI 0), .ref (a_out 0)]) (gs := ([gX8 E a_top (a_forest 0) r_top_before r_top_saved top_isSaved r_top_history r_top_desk (a_walk 0) r_top_input r_top_orders r_top_written top_wrongPosition, gX1 E a_forest φ_forest, gX7 E a_walk walk_commits walk_length walk_looks, gLO L (a_out 0) out_val] : List va_W)) (gr := ([gLO L (a_out 0) out_val] : List va_W)) (gc := ([gX8 E a_top (a_forest 0) r_top_before r_top_saved top_isSaved r_top_history r_top_desk (a_walk 0) r_top_input r_top_orders r_top_written top_wrongPosition, gX1 E a_forest φ_forest, gX7 E a_walk walk_commits walk_length walk_looks] : List va_W)) (g1 := ([gX8 E a_top (a_forest 0) r_top_before r_top_saved top_isSaved r_top_history r_top_desk (a_walk 0) r_top_input r_top_orders r_top_written top_wrongPosition, gX1 E a_forest φ_forest, gX7 E a_walk w2 w3 walk_looks] : List va_W)) (g2 := ([gX8 E a_top (a_forest 0) r_top_before r_top_saved top_isSaved r_top_history r_top_desk (a_walk 0) r_top_input r_top_orders r_top_written top_wrongPosition, gX1 E a_forest φ_forest, gX7 E a_walk w2 w3 walk_looks, gLO L (a_out 0) out_val] : List va_W)) ⟨hx, hb, hml, hown, hts⟩ (c8_onLine l hlt E X a_top a_forest a_walk r_top_before r_top_saved r_top_history r_top_desk r_top_input r_top_orders r_top_written (x1) (x2) (top_isSaved) (top_wrongPosition) (φ_forest) (walk_commits) (walk_length) (walk_looks) k5 r1 w2 w3 hr4) (cwV 2 hts (ws_v q759 q760 q761 q59 q762) rfl rfl rfl hdV_X8_onLine (by rw [hR]; exact ⟨Nat.le_of_ble_eq_true rfl, Nat.le_of_ble_eq_true rfl⟩)) hK hN hX hP hD hS hA [3] [0, 1, 2] [1, 2, 3, 0] rfl rfl (by decide) (by decide) rfl (by decide) 0 8 rfl rfl rfl rfl hl.1 rfl (Nat.le_of_ble_eq_true rfl) dL_onLine_5 (by rw [hR]; exact ⟨Nat.le_of_ble_eq_true rfl, Nat.le_of_ble_eq_true rfl⟩) (fun hk q9 ce H locs hP hD hS hc1 hc2 hc3 => ?_) (fun hk H locs hP hD hS => ?_)
  · rw [if_neg hk] at h
    by_cases c6 : k5 = 1
    · rw [if_pos c6] at h
      subst c6
      refine vx_catch (own := RL) (name := "java/lang/IndexOutOfBoundsException") (E := exn 1) hown [] ⟨0, 10, 13, 13⟩ [⟨0, 10, 17, 64⟩] (by rw [ht]; rfl) (fun z hz => absurd hz List.not_mem_nil) rfl (by decide) (hts _ q388) (va_Nw.use rfl (hX.2.2.2.2.2.2.1 (exn 1, exn 1) (by decide +kernel))) hc1 hc2 hc3 ?_
      refine lv_astore (lv' := [(4, .ref q9), (0, .ref (a_top 0)), (1, .int x1), (2, .int x2), (3, .ref (a_out 0))]) hx hb dL_onLine_13 hl (by decide) rfl (fun ls hl => ?_)
      refine lv_iconst (v := (nI 1)) hx hb dL_onLine_15 (by decide) ?_
      cases h
      exact px_eWi hA0 hQ hP hD hS hx hb hr hlocks dL_onLine_16
    · rw [if_neg c6] at h
      by_cases c7 : k5 = 4
      · rw [if_pos c7] at h
        subst c7
        refine vx_catch (own := RL) (name := "java/util/NoSuchElementException") (E := exn 4) hown [⟨0, 10, 13, 13⟩] ⟨0, 10, 17, 64⟩ [] (by rw [ht]; rfl) (List.forall_mem_cons.mpr ⟨Or.inr ⟨by decide, "java/lang/IndexOutOfBoundsException", hts _ q388, hL.2 4 1 (by decide) (by decide) (by decide) (by decide) (by decide)⟩, (fun z hz => absurd hz List.not_mem_nil)⟩) rfl (by decide) (hts _ q758) (va_Nw.use rfl (hX.2.2.2.2.2.2.1 (exn 4, exn 4) (by decide +kernel))) hc1 hc2 hc3 ?_
        refine lv_astore (lv' := [(4, .ref q9), (0, .ref (a_top 0)), (1, .int x1), (2, .int x2), (3, .ref (a_out 0))]) hx hb dL_onLine_17 hl (by decide) rfl (fun ls hl => ?_)
        refine lv_iconst (v := (nI 2)) hx hb dL_onLine_19 (by decide) ?_
        cases h
        exact px_eWi hA0 hQ hP hD hS hx hb hr hlocks dL_onLine_20
      · rw [if_neg c7] at h
        cases h
  rw [if_pos hk] at h
  refine W.eq (g2 := F0 m 8 ls [.int r1, .int (nI 0), .ref (a_out 0)]) rfl ?_
  refine lv_i2l (v := (r1).toInt64) hx hb dL_onLine_8 rfl ?_
  refine va_last (f := out_val) hx hb hL.1 hP hD hS 12 3 rfl rfl (inb_in (i := (nI 0)) (n := 1) (by decide)) dL_onLine_9 (fun H locs hP hD hS => ?_)
  have hP : va_P E.1 vwCl ([gX8 E a_top (a_forest 0) r_top_before r_top_saved top_isSaved r_top_history r_top_desk (a_walk 0) r_top_input r_top_orders r_top_written top_wrongPosition, gX1 E a_forest φ_forest, gX7 E a_walk w2 w3 walk_looks, gLO L (a_out 0) (vp_updL out_val ((nI 0)).toNatClampNeg ((r1).toInt64))] : List va_W).flatten H := hP
  have hD : va_D A ([gX8 E a_top (a_forest 0) r_top_before r_top_saved top_isSaved r_top_history r_top_desk (a_walk 0) r_top_input r_top_orders r_top_written top_wrongPosition, gX1 E a_forest φ_forest, gX7 E a_walk w2 w3 walk_looks, gLO L (a_out 0) (vp_updL out_val ((nI 0)).toNatClampNeg ((r1).toInt64))] : List va_W).flatten := hD
  refine lv_goto (tgt := 21) hx hb dL_onLine_10 (by decide) ?_
  refine lv_iconst (v := (nI 0)) hx hb dL_onLine_21 (by decide) ?_
  cases h
  exact px_eWi hA0 hQ hP hD hS hx hb hr hlocks dL_onLine_22
def fL_halve (x1 : Int32) (x2 : Int32) (x3 : Int32) (x4 : Int32) (φ_forest : Fo) (walk_commits : AI) (walk_length : Int32) (walk_looks : Int32) (out_val : (Nat → Int64)) : Option (Int32 × AI × Int32 × Int32 × (Nat → Int64)) := ((f8_halve (x1) (x2) (x3) (x4) (φ_forest) (walk_commits) (walk_length) (walk_looks)).bind fun (k6, r1, w2, w3, w4) => (if k6 = 0 then (some ((nI 0), w2, w3, w4, (vp_updL out_val ((nI 0)).toNatClampNeg ((r1).toInt64)))) else (if k6 = 1 then (some ((nI 1), w2, w3, w4, out_val)) else (if k6 = 2 then (some ((nI 2), w2, w3, w4, out_val)) else (if k6 = 4 then (some ((nI 3), w2, w3, w4, out_val)) else none)))))
set_option maxHeartbeats 4000000 in
set_option maxRecDepth 100000 in
theorem mL_halve (l : Launch) (hlt : l.stackTraces = false) (E : PE) (X : PX) (L : LX) (a_top : Nat → Nat) (a_forest : Nat → Nat) (a_walk : Nat → Nat) (a_out : Nat → Nat) (r_top_before : Nat) (r_top_saved : Nat) (r_top_history : Nat) (r_top_desk : Nat) (r_top_input : Nat) (r_top_orders : Nat) (r_top_written : Nat) (x1 : Int32) (x2 : Int32) (x3 : Int32) (x4 : Int32) (top_isSaved : Int32) (top_wrongPosition : Int32) (φ_forest : Fo) (walk_commits : AI) (walk_length : Int32) (walk_looks : Int32) (out_val : (Nat → Int64)) (r : Int32) (z_walk_commits : AI) (z_walk_length : Int32) (z_walk_looks : Int32) (z_out_val : (Nat → Int64)) (h : fL_halve x1 x2 x3 x4 φ_forest walk_commits walk_length walk_looks out_val = some (r, z_walk_commits, z_walk_length, z_walk_looks, z_out_val)) : ML l yL_halve cL_halve 7 [(0, 14, 17, 13), (0, 14, 21, 15), (0, 14, 25, 64)] { frames := 8, cells := 4, slots := 24, locals := 137 } E X L [.ref (a_top 0), .int x1, .int x2, .int x3, .int x4, .ref (a_out 0)] ([gX8 E a_top (a_forest 0) r_top_before r_top_saved top_isSaved r_top_history r_top_desk (a_walk 0) r_top_input r_top_orders r_top_written top_wrongPosition, gX1 E a_forest φ_forest, gX7 E a_walk walk_commits walk_length walk_looks, gLO L (a_out 0) out_val] : List va_W).flatten 4 24 (some (.int r)) ([gX8 E a_top (a_forest 0) r_top_before r_top_saved top_isSaved r_top_history r_top_desk (a_walk 0) r_top_input r_top_orders r_top_written top_wrongPosition, gX1 E a_forest φ_forest, gX7 E a_walk z_walk_commits z_walk_length z_walk_looks, gLO L (a_out 0) z_out_val] : List va_W).flatten := by
  refine px_startL (by decide +kernel) (Nat.le_of_ble_eq_true rfl) ?_
  intro p e s m args below meth c R Q A ls hC hX hL hA0 hQ ht
  obtain ⟨hx, hb, hr, hml, hts, hown, hlocks, hR, hK, hN, hP, hD, hA, hl, hin⟩ := hC
  have hl : lv_has ls 7 [(0, .ref (a_top 0)), (1, .int x1), (2, .int x2), (3, .int x3), (4, .int x4), (5, .ref (a_out 0))] := hl
  suffices key : ∀ (H : Heap) (locs : List Loc), va_P E.1 vwCl ([gX8 E a_top (a_forest 0) r_top_before r_top_saved top_isSaved r_top_history r_top_desk (a_walk 0) r_top_input r_top_orders r_top_written top_wrongPosition, gX1 E a_forest φ_forest, gX7 E a_walk walk_commits walk_length walk_looks, gLO L (a_out 0) out_val] : List va_W).flatten H → va_S A s.heap H locs → W p l e R s m args below meth c H locs 0 0 Q (F0 m 0 ls []) from key s.heap [] hP va_S.rf
  unfold fL_halve at h
  intro H locs hP hS
  refine lv_aload hx hb dL_halve_0 (lv_at hl 5 rfl) ?_
  refine lv_iconst (v := (nI 0)) hx hb dL_halve_2 (by decide) ?_
  refine lv_aload_n hx hb dL_halve_3 rfl (lv_at hl 0 rfl) ?_
  refine lv_iload_n hx hb dL_halve_4 rfl (lv_at hl 1 rfl) ?_
  refine lv_iload_n hx hb dL_halve_5 rfl (lv_at hl 2 rfl) ?_
  refine lv_iload_n hx hb dL_halve_6 rfl (lv_at hl 3 rfl) ?_
  refine lv_iload hx hb dL_halve_7 (lv_at hl 4 rfl) ?_
  obtain ⟨⟨k6, r1, w2, w3, w4⟩, hr5, h⟩ := ob h
  dsimp only at h
  refine px_VT (As := [.int x1, .int x2, .int x3, .int x4]) (rest := [.int (nI 0), .ref (a_out 0)]) (gs := ([gX8 E a_top (a_forest 0) r_top_before r_top_saved top_isSaved r_top_history r_top_desk (a_walk 0) r_top_input r_top_orders r_top_written top_wrongPosition, gX1 E a_forest φ_forest, gX7 E a_walk walk_commits walk_length walk_looks, gLO L (a_out 0) out_val] : List va_W)) (gr := ([gLO L (a_out 0) out_val] : List va_W)) (gc := ([gX8 E a_top (a_forest 0) r_top_before r_top_saved top_isSaved r_top_history r_top_desk (a_walk 0) r_top_input r_top_orders r_top_written top_wrongPosition, gX1 E a_forest φ_forest, gX7 E a_walk walk_commits walk_length walk_looks] : List va_W)) (g1 := ([gX8 E a_top (a_forest 0) r_top_before r_top_saved top_isSaved r_top_history r_top_desk (a_walk 0) r_top_input r_top_orders r_top_written top_wrongPosition, gX1 E a_forest φ_forest, gX7 E a_walk w2 w3 w4] : List va_W)) (g2 := ([gX8 E a_top (a_forest 0) r_top_before r_top_saved top_isSaved r_top_history r_top_desk (a_walk 0) r_top_input r_top_orders r_top_written top_wrongPosition, gX1 E a_forest φ_forest, gX7 E a_walk w2 w3 w4, gLO L (a_out 0) out_val] : List va_W)) ⟨hx, hb, hml, hown, hts⟩ (c8_halve l hlt E X a_top a_forest a_walk r_top_before r_top_saved r_top_history r_top_desk r_top_input r_top_orders r_top_written (x1) (x2) (x3) (x4) (top_isSaved) (top_wrongPosition) (φ_forest) (walk_commits) (walk_length) (walk_looks) k6 r1 w2 w3 w4 hr5) (cwV 4 hts (ws_v q791 q792 q793 q59 q794) rfl rfl rfl hdV_X8_halve (by rw [hR]; exact ⟨Nat.le_of_ble_eq_true rfl, Nat.le_of_ble_eq_true rfl⟩)) hK hN hX hP hD hS hA [3] [0, 1, 2] [1, 2, 3, 0] rfl rfl (by decide) (by decide) rfl (by decide) 0 8 rfl rfl rfl rfl hl.1 rfl (Nat.le_of_ble_eq_true rfl) dL_halve_9 (by rw [hR]; exact ⟨Nat.le_of_ble_eq_true rfl, Nat.le_of_ble_eq_true rfl⟩) (fun hk q9 ce H locs hP hD hS hc1 hc2 hc3 => ?_) (fun hk H locs hP hD hS => ?_)
  · rw [if_neg hk] at h
    by_cases c7 : k6 = 1
    · rw [if_pos c7] at h
      subst c7
      refine vx_catch (own := RL) (name := "java/lang/IndexOutOfBoundsException") (E := exn 1) hown [] ⟨0, 14, 17, 13⟩ [⟨0, 14, 21, 15⟩, ⟨0, 14, 25, 64⟩] (by rw [ht]; rfl) (fun z hz => absurd hz List.not_mem_nil) rfl (by decide) (hts _ q388) (va_Nw.use rfl (hX.2.2.2.2.2.2.1 (exn 1, exn 1) (by decide +kernel))) hc1 hc2 hc3 ?_
      refine lv_astore (lv' := [(6, .ref q9), (0, .ref (a_top 0)), (1, .int x1), (2, .int x2), (3, .int x3), (4, .int x4), (5, .ref (a_out 0))]) hx hb dL_halve_17 hl (by decide) rfl (fun ls hl => ?_)
      refine lv_iconst (v := (nI 1)) hx hb dL_halve_19 (by decide) ?_
      cases h
      exact px_eWi hA0 hQ hP hD hS hx hb hr hlocks dL_halve_20
    · rw [if_neg c7] at h
      by_cases c8 : k6 = 2
      · rw [if_pos c8] at h
        subst c8
        refine vx_catch (own := RL) (name := "java/lang/IllegalArgumentException") (E := exn 2) hown [⟨0, 14, 17, 13⟩] ⟨0, 14, 21, 15⟩ [⟨0, 14, 25, 64⟩] (by rw [ht]; rfl) (List.forall_mem_cons.mpr ⟨Or.inr ⟨by decide, "java/lang/IndexOutOfBoundsException", hts _ q388, hL.2 2 1 (by decide) (by decide) (by decide) (by decide) (by decide)⟩, (fun z hz => absurd hz List.not_mem_nil)⟩) rfl (by decide) (hts _ q389) (va_Nw.use rfl (hX.2.2.2.2.2.2.1 (exn 2, exn 2) (by decide +kernel))) hc1 hc2 hc3 ?_
        refine lv_astore (lv' := [(6, .ref q9), (0, .ref (a_top 0)), (1, .int x1), (2, .int x2), (3, .int x3), (4, .int x4), (5, .ref (a_out 0))]) hx hb dL_halve_21 hl (by decide) rfl (fun ls hl => ?_)
        refine lv_iconst (v := (nI 2)) hx hb dL_halve_23 (by decide) ?_
        cases h
        exact px_eWi hA0 hQ hP hD hS hx hb hr hlocks dL_halve_24
      · rw [if_neg c8] at h
        by_cases c9 : k6 = 4
        · rw [if_pos c9] at h
          subst c9
          refine vx_catch (own := RL) (name := "java/util/NoSuchElementException") (E := exn 4) hown [⟨0, 14, 17, 13⟩, ⟨0, 14, 21, 15⟩] ⟨0, 14, 25, 64⟩ [] (by rw [ht]; rfl) (List.forall_mem_cons.mpr ⟨Or.inr ⟨by decide, "java/lang/IndexOutOfBoundsException", hts _ q388, hL.2 4 1 (by decide) (by decide) (by decide) (by decide) (by decide)⟩, (List.forall_mem_cons.mpr ⟨Or.inr ⟨by decide, "java/lang/IllegalArgumentException", hts _ q389, hL.2 4 2 (by decide) (by decide) (by decide) (by decide) (by decide)⟩, (fun z hz => absurd hz List.not_mem_nil)⟩)⟩) rfl (by decide) (hts _ q758) (va_Nw.use rfl (hX.2.2.2.2.2.2.1 (exn 4, exn 4) (by decide +kernel))) hc1 hc2 hc3 ?_
          refine lv_astore (lv' := [(6, .ref q9), (0, .ref (a_top 0)), (1, .int x1), (2, .int x2), (3, .int x3), (4, .int x4), (5, .ref (a_out 0))]) hx hb dL_halve_25 hl (by decide) rfl (fun ls hl => ?_)
          refine lv_iconst (v := (nI 3)) hx hb dL_halve_27 (by decide) ?_
          cases h
          exact px_eWi hA0 hQ hP hD hS hx hb hr hlocks dL_halve_28
        · rw [if_neg c9] at h
          cases h
  rw [if_pos hk] at h
  refine W.eq (g2 := F0 m 12 ls [.int r1, .int (nI 0), .ref (a_out 0)]) rfl ?_
  refine lv_i2l (v := (r1).toInt64) hx hb dL_halve_12 rfl ?_
  refine va_last (f := out_val) hx hb hL.1 hP hD hS 12 3 rfl rfl (inb_in (i := (nI 0)) (n := 1) (by decide)) dL_halve_13 (fun H locs hP hD hS => ?_)
  have hP : va_P E.1 vwCl ([gX8 E a_top (a_forest 0) r_top_before r_top_saved top_isSaved r_top_history r_top_desk (a_walk 0) r_top_input r_top_orders r_top_written top_wrongPosition, gX1 E a_forest φ_forest, gX7 E a_walk w2 w3 w4, gLO L (a_out 0) (vp_updL out_val ((nI 0)).toNatClampNeg ((r1).toInt64))] : List va_W).flatten H := hP
  have hD : va_D A ([gX8 E a_top (a_forest 0) r_top_before r_top_saved top_isSaved r_top_history r_top_desk (a_walk 0) r_top_input r_top_orders r_top_written top_wrongPosition, gX1 E a_forest φ_forest, gX7 E a_walk w2 w3 w4, gLO L (a_out 0) (vp_updL out_val ((nI 0)).toNatClampNeg ((r1).toInt64))] : List va_W).flatten := hD
  refine lv_goto (tgt := 29) hx hb dL_halve_14 (by decide) ?_
  refine lv_iconst (v := (nI 0)) hx hb dL_halve_29 (by decide) ?_
  cases h
  exact px_eWi hA0 hQ hP hD hS hx hb hr hlocks dL_halve_30
def fL_firstBad (x1 : Int32) (x2 : Int32) (x3 : Int32) (φ_forest : Fo) (walk_commits : AI) (walk_length : Int32) (out_val : (Nat → Int64)) : Option (Int32 × AI × Int32 × (Nat → Int64)) := ((f8_firstBad (x1) (x2) (x3) (φ_forest) (walk_commits) (walk_length)).bind fun (k5, r1, w2, w3) => (if k5 = 0 then (some ((nI 0), w2, w3, (vp_updL out_val ((nI 0)).toNatClampNeg ((r1).toInt64)))) else (if k5 = 1 then (some ((nI 1), w2, w3, out_val)) else (if k5 = 2 then (some ((nI 2), w2, w3, out_val)) else (if k5 = 4 then (some ((nI 3), w2, w3, out_val)) else none)))))
set_option maxHeartbeats 4000000 in
set_option maxRecDepth 100000 in
theorem mL_firstBad (l : Launch) (hlt : l.stackTraces = false) (E : PE) (X : PX) (L : LX) (a_top : Nat → Nat) (a_forest : Nat → Nat) (a_walk : Nat → Nat) (a_out : Nat → Nat) (r_top_before : Nat) (r_top_saved : Nat) (r_top_history : Nat) (r_top_desk : Nat) (r_top_input : Nat) (r_top_orders : Nat) (r_top_written : Nat) (x1 : Int32) (x2 : Int32) (x3 : Int32) (top_isSaved : Int32) (top_wrongPosition : Int32) (φ_forest : Fo) (walk_commits : AI) (walk_length : Int32) (walk_looks : Int32) (out_val : (Nat → Int64)) (r : Int32) (z_walk_commits : AI) (z_walk_length : Int32) (z_out_val : (Nat → Int64)) (h : fL_firstBad x1 x2 x3 φ_forest walk_commits walk_length out_val = some (r, z_walk_commits, z_walk_length, z_out_val)) : ML l yL_firstBad cL_firstBad 6 [(0, 12, 15, 13), (0, 12, 19, 15), (0, 12, 23, 64)] { frames := 8, cells := 4, slots := 24, locals := 135 } E X L [.ref (a_top 0), .int x1, .int x2, .int x3, .ref (a_out 0)] ([gX8 E a_top (a_forest 0) r_top_before r_top_saved top_isSaved r_top_history r_top_desk (a_walk 0) r_top_input r_top_orders r_top_written top_wrongPosition, gX1 E a_forest φ_forest, gX7 E a_walk walk_commits walk_length walk_looks, gLO L (a_out 0) out_val] : List va_W).flatten 4 24 (some (.int r)) ([gX8 E a_top (a_forest 0) r_top_before r_top_saved top_isSaved r_top_history r_top_desk (a_walk 0) r_top_input r_top_orders r_top_written top_wrongPosition, gX1 E a_forest φ_forest, gX7 E a_walk z_walk_commits z_walk_length walk_looks, gLO L (a_out 0) z_out_val] : List va_W).flatten := by
  refine px_startL (by decide +kernel) (Nat.le_of_ble_eq_true rfl) ?_
  intro p e s m args below meth c R Q A ls hC hX hL hA0 hQ ht
  obtain ⟨hx, hb, hr, hml, hts, hown, hlocks, hR, hK, hN, hP, hD, hA, hl, hin⟩ := hC
  have hl : lv_has ls 6 [(0, .ref (a_top 0)), (1, .int x1), (2, .int x2), (3, .int x3), (4, .ref (a_out 0))] := hl
  suffices key : ∀ (H : Heap) (locs : List Loc), va_P E.1 vwCl ([gX8 E a_top (a_forest 0) r_top_before r_top_saved top_isSaved r_top_history r_top_desk (a_walk 0) r_top_input r_top_orders r_top_written top_wrongPosition, gX1 E a_forest φ_forest, gX7 E a_walk walk_commits walk_length walk_looks, gLO L (a_out 0) out_val] : List va_W).flatten H → va_S A s.heap H locs → W p l e R s m args below meth c H locs 0 0 Q (F0 m 0 ls []) from key s.heap [] hP va_S.rf
  unfold fL_firstBad at h
  intro H locs hP hS
  refine lv_aload hx hb dL_firstBad_0 (lv_at hl 4 rfl) ?_
  refine lv_iconst (v := (nI 0)) hx hb dL_firstBad_2 (by decide) ?_
  refine lv_aload_n hx hb dL_firstBad_3 rfl (lv_at hl 0 rfl) ?_
  refine lv_iload_n hx hb dL_firstBad_4 rfl (lv_at hl 1 rfl) ?_
  refine lv_iload_n hx hb dL_firstBad_5 rfl (lv_at hl 2 rfl) ?_
  refine lv_iload_n hx hb dL_firstBad_6 rfl (lv_at hl 3 rfl) ?_
  obtain ⟨⟨k5, r1, w2, w3⟩, hr4, h⟩ := ob h
  dsimp only at h
  refine px_VT (As := [.int x1, .int x2, .int x3]) (rest := [.int (nI 0), .ref (a_out 0)]) (gs := ([gX8 E a_top (a_forest 0) r_top_before r_top_saved top_isSaved r_top_history r_top_desk (a_walk 0) r_top_input r_top_orders r_top_written top_wrongPosition, gX1 E a_forest φ_forest, gX7 E a_walk walk_commits walk_length walk_looks, gLO L (a_out 0) out_val] : List va_W)) (gr := ([gLO L (a_out 0) out_val] : List va_W)) (gc := ([gX8 E a_top (a_forest 0) r_top_before r_top_saved top_isSaved r_top_history r_top_desk (a_walk 0) r_top_input r_top_orders r_top_written top_wrongPosition, gX1 E a_forest φ_forest, gX7 E a_walk walk_commits walk_length walk_looks] : List va_W)) (g1 := ([gX8 E a_top (a_forest 0) r_top_before r_top_saved top_isSaved r_top_history r_top_desk (a_walk 0) r_top_input r_top_orders r_top_written top_wrongPosition, gX1 E a_forest φ_forest, gX7 E a_walk w2 w3 walk_looks] : List va_W)) (g2 := ([gX8 E a_top (a_forest 0) r_top_before r_top_saved top_isSaved r_top_history r_top_desk (a_walk 0) r_top_input r_top_orders r_top_written top_wrongPosition, gX1 E a_forest φ_forest, gX7 E a_walk w2 w3 walk_looks, gLO L (a_out 0) out_val] : List va_W)) ⟨hx, hb, hml, hown, hts⟩ (c8_firstBad l hlt E X a_top a_forest a_walk r_top_before r_top_saved r_top_history r_top_desk r_top_input r_top_orders r_top_written (x1) (x2) (x3) (top_isSaved) (top_wrongPosition) (φ_forest) (walk_commits) (walk_length) (walk_looks) k5 r1 w2 w3 hr4) (cwV 3 hts (ws_v q815 q816 q817 q59 q818) rfl rfl rfl hdV_X8_firstBad (by rw [hR]; exact ⟨Nat.le_of_ble_eq_true rfl, Nat.le_of_ble_eq_true rfl⟩)) hK hN hX hP hD hS hA [3] [0, 1, 2] [1, 2, 3, 0] rfl rfl (by decide) (by decide) rfl (by decide) 0 8 rfl rfl rfl rfl hl.1 rfl (Nat.le_of_ble_eq_true rfl) dL_firstBad_7 (by rw [hR]; exact ⟨Nat.le_of_ble_eq_true rfl, Nat.le_of_ble_eq_true rfl⟩) (fun hk q9 ce H locs hP hD hS hc1 hc2 hc3 => ?_) (fun hk H locs hP hD hS => ?_)
  · rw [if_neg hk] at h
    by_cases c6 : k5 = 1
    · rw [if_pos c6] at h
      subst c6
      refine vx_catch (own := RL) (name := "java/lang/IndexOutOfBoundsException") (E := exn 1) hown [] ⟨0, 12, 15, 13⟩ [⟨0, 12, 19, 15⟩, ⟨0, 12, 23, 64⟩] (by rw [ht]; rfl) (fun z hz => absurd hz List.not_mem_nil) rfl (by decide) (hts _ q388) (va_Nw.use rfl (hX.2.2.2.2.2.2.1 (exn 1, exn 1) (by decide +kernel))) hc1 hc2 hc3 ?_
      refine lv_astore (lv' := [(5, .ref q9), (0, .ref (a_top 0)), (1, .int x1), (2, .int x2), (3, .int x3), (4, .ref (a_out 0))]) hx hb dL_firstBad_15 hl (by decide) rfl (fun ls hl => ?_)
      refine lv_iconst (v := (nI 1)) hx hb dL_firstBad_17 (by decide) ?_
      cases h
      exact px_eWi hA0 hQ hP hD hS hx hb hr hlocks dL_firstBad_18
    · rw [if_neg c6] at h
      by_cases c7 : k5 = 2
      · rw [if_pos c7] at h
        subst c7
        refine vx_catch (own := RL) (name := "java/lang/IllegalArgumentException") (E := exn 2) hown [⟨0, 12, 15, 13⟩] ⟨0, 12, 19, 15⟩ [⟨0, 12, 23, 64⟩] (by rw [ht]; rfl) (List.forall_mem_cons.mpr ⟨Or.inr ⟨by decide, "java/lang/IndexOutOfBoundsException", hts _ q388, hL.2 2 1 (by decide) (by decide) (by decide) (by decide) (by decide)⟩, (fun z hz => absurd hz List.not_mem_nil)⟩) rfl (by decide) (hts _ q389) (va_Nw.use rfl (hX.2.2.2.2.2.2.1 (exn 2, exn 2) (by decide +kernel))) hc1 hc2 hc3 ?_
        refine lv_astore (lv' := [(5, .ref q9), (0, .ref (a_top 0)), (1, .int x1), (2, .int x2), (3, .int x3), (4, .ref (a_out 0))]) hx hb dL_firstBad_19 hl (by decide) rfl (fun ls hl => ?_)
        refine lv_iconst (v := (nI 2)) hx hb dL_firstBad_21 (by decide) ?_
        cases h
        exact px_eWi hA0 hQ hP hD hS hx hb hr hlocks dL_firstBad_22
      · rw [if_neg c7] at h
        by_cases c8 : k5 = 4
        · rw [if_pos c8] at h
          subst c8
          refine vx_catch (own := RL) (name := "java/util/NoSuchElementException") (E := exn 4) hown [⟨0, 12, 15, 13⟩, ⟨0, 12, 19, 15⟩] ⟨0, 12, 23, 64⟩ [] (by rw [ht]; rfl) (List.forall_mem_cons.mpr ⟨Or.inr ⟨by decide, "java/lang/IndexOutOfBoundsException", hts _ q388, hL.2 4 1 (by decide) (by decide) (by decide) (by decide) (by decide)⟩, (List.forall_mem_cons.mpr ⟨Or.inr ⟨by decide, "java/lang/IllegalArgumentException", hts _ q389, hL.2 4 2 (by decide) (by decide) (by decide) (by decide) (by decide)⟩, (fun z hz => absurd hz List.not_mem_nil)⟩)⟩) rfl (by decide) (hts _ q758) (va_Nw.use rfl (hX.2.2.2.2.2.2.1 (exn 4, exn 4) (by decide +kernel))) hc1 hc2 hc3 ?_
          refine lv_astore (lv' := [(5, .ref q9), (0, .ref (a_top 0)), (1, .int x1), (2, .int x2), (3, .int x3), (4, .ref (a_out 0))]) hx hb dL_firstBad_23 hl (by decide) rfl (fun ls hl => ?_)
          refine lv_iconst (v := (nI 3)) hx hb dL_firstBad_25 (by decide) ?_
          cases h
          exact px_eWi hA0 hQ hP hD hS hx hb hr hlocks dL_firstBad_26
        · rw [if_neg c8] at h
          cases h
  rw [if_pos hk] at h
  refine W.eq (g2 := F0 m 10 ls [.int r1, .int (nI 0), .ref (a_out 0)]) rfl ?_
  refine lv_i2l (v := (r1).toInt64) hx hb dL_firstBad_10 rfl ?_
  refine va_last (f := out_val) hx hb hL.1 hP hD hS 12 3 rfl rfl (inb_in (i := (nI 0)) (n := 1) (by decide)) dL_firstBad_11 (fun H locs hP hD hS => ?_)
  have hP : va_P E.1 vwCl ([gX8 E a_top (a_forest 0) r_top_before r_top_saved top_isSaved r_top_history r_top_desk (a_walk 0) r_top_input r_top_orders r_top_written top_wrongPosition, gX1 E a_forest φ_forest, gX7 E a_walk w2 w3 walk_looks, gLO L (a_out 0) (vp_updL out_val ((nI 0)).toNatClampNeg ((r1).toInt64))] : List va_W).flatten H := hP
  have hD : va_D A ([gX8 E a_top (a_forest 0) r_top_before r_top_saved top_isSaved r_top_history r_top_desk (a_walk 0) r_top_input r_top_orders r_top_written top_wrongPosition, gX1 E a_forest φ_forest, gX7 E a_walk w2 w3 walk_looks, gLO L (a_out 0) (vp_updL out_val ((nI 0)).toNatClampNeg ((r1).toInt64))] : List va_W).flatten := hD
  refine lv_goto (tgt := 27) hx hb dL_firstBad_12 (by decide) ?_
  refine lv_iconst (v := (nI 0)) hx hb dL_firstBad_27 (by decide) ?_
  cases h
  exact px_eWi hA0 hQ hP hD hS hx hb hr hlocks dL_firstBad_28
def fL_blame (x1 : Int32) (x2 : Int32) (φ_forest : Fo) (walk_commits : AI) (walk_length : Int32) (out_val : (Nat → Int64)) : Option (Int32 × AI × Int32 × (Nat → Int64)) := ((f8_blame (x1) (x2) (φ_forest) (walk_commits) (walk_length)).bind fun (k5, r1, w2, w3) => (if k5 = 0 then (some ((nI 0), w2, w3, (vp_updL out_val ((nI 0)).toNatClampNeg ((r1).toInt64)))) else (if k5 = 1 then (some ((nI 1), w2, w3, out_val)) else none)))
set_option maxHeartbeats 4000000 in
set_option maxRecDepth 100000 in
theorem mL_blame (l : Launch) (hlt : l.stackTraces = false) (E : PE) (X : PX) (L : LX) (a_top : Nat → Nat) (a_forest : Nat → Nat) (a_walk : Nat → Nat) (a_out : Nat → Nat) (r_top_before : Nat) (r_top_saved : Nat) (r_top_history : Nat) (r_top_desk : Nat) (r_top_input : Nat) (r_top_orders : Nat) (r_top_written : Nat) (x1 : Int32) (x2 : Int32) (top_isSaved : Int32) (top_wrongPosition : Int32) (φ_forest : Fo) (walk_commits : AI) (walk_length : Int32) (walk_looks : Int32) (out_val : (Nat → Int64)) (r : Int32) (z_walk_commits : AI) (z_walk_length : Int32) (z_out_val : (Nat → Int64)) (h : fL_blame x1 x2 φ_forest walk_commits walk_length out_val = some (r, z_walk_commits, z_walk_length, z_out_val)) : ML l yL_blame cL_blame 5 [(0, 10, 13, 13)] { frames := 8, cells := 2, slots := 12, locals := 133 } E X L [.ref (a_top 0), .int x1, .int x2, .ref (a_out 0)] ([gX8 E a_top (a_forest 0) r_top_before r_top_saved top_isSaved r_top_history r_top_desk (a_walk 0) r_top_input r_top_orders r_top_written top_wrongPosition, gX1 E a_forest φ_forest, gX7 E a_walk walk_commits walk_length walk_looks, gLO L (a_out 0) out_val] : List va_W).flatten 2 12 (some (.int r)) ([gX8 E a_top (a_forest 0) r_top_before r_top_saved top_isSaved r_top_history r_top_desk (a_walk 0) r_top_input r_top_orders r_top_written top_wrongPosition, gX1 E a_forest φ_forest, gX7 E a_walk z_walk_commits z_walk_length walk_looks, gLO L (a_out 0) z_out_val] : List va_W).flatten := by
  refine px_startL (by decide +kernel) (Nat.le_of_ble_eq_true rfl) ?_
  intro p e s m args below meth c R Q A ls hC hX hL hA0 hQ ht
  obtain ⟨hx, hb, hr, hml, hts, hown, hlocks, hR, hK, hN, hP, hD, hA, hl, hin⟩ := hC
  have hl : lv_has ls 5 [(0, .ref (a_top 0)), (1, .int x1), (2, .int x2), (3, .ref (a_out 0))] := hl
  suffices key : ∀ (H : Heap) (locs : List Loc), va_P E.1 vwCl ([gX8 E a_top (a_forest 0) r_top_before r_top_saved top_isSaved r_top_history r_top_desk (a_walk 0) r_top_input r_top_orders r_top_written top_wrongPosition, gX1 E a_forest φ_forest, gX7 E a_walk walk_commits walk_length walk_looks, gLO L (a_out 0) out_val] : List va_W).flatten H → va_S A s.heap H locs → W p l e R s m args below meth c H locs 0 0 Q (F0 m 0 ls []) from key s.heap [] hP va_S.rf
  unfold fL_blame at h
  intro H locs hP hS
  refine lv_aload_n hx hb dL_blame_0 rfl (lv_at hl 3 rfl) ?_
  refine lv_iconst (v := (nI 0)) hx hb dL_blame_1 (by decide) ?_
  refine lv_aload_n hx hb dL_blame_2 rfl (lv_at hl 0 rfl) ?_
  refine lv_iload_n hx hb dL_blame_3 rfl (lv_at hl 1 rfl) ?_
  refine lv_iload_n hx hb dL_blame_4 rfl (lv_at hl 2 rfl) ?_
  obtain ⟨⟨k5, r1, w2, w3⟩, hr4, h⟩ := ob h
  dsimp only at h
  refine px_VT (As := [.int x1, .int x2]) (rest := [.int (nI 0), .ref (a_out 0)]) (gs := ([gX8 E a_top (a_forest 0) r_top_before r_top_saved top_isSaved r_top_history r_top_desk (a_walk 0) r_top_input r_top_orders r_top_written top_wrongPosition, gX1 E a_forest φ_forest, gX7 E a_walk walk_commits walk_length walk_looks, gLO L (a_out 0) out_val] : List va_W)) (gr := ([gLO L (a_out 0) out_val] : List va_W)) (gc := ([gX8 E a_top (a_forest 0) r_top_before r_top_saved top_isSaved r_top_history r_top_desk (a_walk 0) r_top_input r_top_orders r_top_written top_wrongPosition, gX1 E a_forest φ_forest, gX7 E a_walk walk_commits walk_length walk_looks] : List va_W)) (g1 := ([gX8 E a_top (a_forest 0) r_top_before r_top_saved top_isSaved r_top_history r_top_desk (a_walk 0) r_top_input r_top_orders r_top_written top_wrongPosition, gX1 E a_forest φ_forest, gX7 E a_walk w2 w3 walk_looks] : List va_W)) (g2 := ([gX8 E a_top (a_forest 0) r_top_before r_top_saved top_isSaved r_top_history r_top_desk (a_walk 0) r_top_input r_top_orders r_top_written top_wrongPosition, gX1 E a_forest φ_forest, gX7 E a_walk w2 w3 walk_looks, gLO L (a_out 0) out_val] : List va_W)) ⟨hx, hb, hml, hown, hts⟩ (c8_blame l hlt E X a_top a_forest a_walk r_top_before r_top_saved r_top_history r_top_desk r_top_input r_top_orders r_top_written (x1) (x2) (top_isSaved) (top_wrongPosition) (φ_forest) (walk_commits) (walk_length) (walk_looks) k5 r1 w2 w3 hr4) (cwV 2 hts (ws_v q827 q828 q829 q59 q830) rfl rfl rfl hdV_X8_blame (by rw [hR]; exact ⟨Nat.le_of_ble_eq_true rfl, Nat.le_of_ble_eq_true rfl⟩)) hK hN hX hP hD hS hA [3] [0, 1, 2] [1, 2, 3, 0] rfl rfl (by decide) (by decide) rfl (by decide) 0 8 rfl rfl rfl rfl hl.1 rfl (Nat.le_of_ble_eq_true rfl) dL_blame_5 (by rw [hR]; exact ⟨Nat.le_of_ble_eq_true rfl, Nat.le_of_ble_eq_true rfl⟩) (fun hk q9 ce H locs hP hD hS hc1 hc2 hc3 => ?_) (fun hk H locs hP hD hS => ?_)
  · rw [if_neg hk] at h
    by_cases c6 : k5 = 1
    · rw [if_pos c6] at h
      subst c6
      refine vx_catch (own := RL) (name := "java/lang/IndexOutOfBoundsException") (E := exn 1) hown [] ⟨0, 10, 13, 13⟩ [] (by rw [ht]; rfl) (fun z hz => absurd hz List.not_mem_nil) rfl (by decide) (hts _ q388) (va_Nw.use rfl (hX.2.2.2.2.2.2.1 (exn 1, exn 1) (by decide +kernel))) hc1 hc2 hc3 ?_
      refine lv_astore (lv' := [(4, .ref q9), (0, .ref (a_top 0)), (1, .int x1), (2, .int x2), (3, .ref (a_out 0))]) hx hb dL_blame_13 hl (by decide) rfl (fun ls hl => ?_)
      refine lv_iconst (v := (nI 1)) hx hb dL_blame_15 (by decide) ?_
      cases h
      exact px_eWi hA0 hQ hP hD hS hx hb hr hlocks dL_blame_16
    · rw [if_neg c6] at h
      cases h
  rw [if_pos hk] at h
  refine W.eq (g2 := F0 m 8 ls [.int r1, .int (nI 0), .ref (a_out 0)]) rfl ?_
  refine lv_i2l (v := (r1).toInt64) hx hb dL_blame_8 rfl ?_
  refine va_last (f := out_val) hx hb hL.1 hP hD hS 12 3 rfl rfl (inb_in (i := (nI 0)) (n := 1) (by decide)) dL_blame_9 (fun H locs hP hD hS => ?_)
  have hP : va_P E.1 vwCl ([gX8 E a_top (a_forest 0) r_top_before r_top_saved top_isSaved r_top_history r_top_desk (a_walk 0) r_top_input r_top_orders r_top_written top_wrongPosition, gX1 E a_forest φ_forest, gX7 E a_walk w2 w3 walk_looks, gLO L (a_out 0) (vp_updL out_val ((nI 0)).toNatClampNeg ((r1).toInt64))] : List va_W).flatten H := hP
  have hD : va_D A ([gX8 E a_top (a_forest 0) r_top_before r_top_saved top_isSaved r_top_history r_top_desk (a_walk 0) r_top_input r_top_orders r_top_written top_wrongPosition, gX1 E a_forest φ_forest, gX7 E a_walk w2 w3 walk_looks, gLO L (a_out 0) (vp_updL out_val ((nI 0)).toNatClampNeg ((r1).toInt64))] : List va_W).flatten := hD
  refine lv_goto (tgt := 17) hx hb dL_blame_10 (by decide) ?_
  refine lv_iconst (v := (nI 0)) hx hb dL_blame_17 (by decide) ?_
  cases h
  exact px_eWi hA0 hQ hP hD hS hx hb hr hlocks dL_blame_18
def fL_taste (x1 : Int32) (φ_forest : Fo) (outd_val : (Nat → UInt64)) : Option (Int32 × (Nat → UInt64)) := ((f8_taste (x1) (φ_forest)).bind fun (k3, r1) => (if k3 = 0 then (if nn64 (FP.f2d r1) = true then (some ((nI 0), (vf_upd outd_val ((nI 0)).toNatClampNeg (FP.f2d r1)))) else none) else (if k3 = 1 then (some ((nI 1), outd_val)) else none)))
set_option maxHeartbeats 4000000 in
set_option maxRecDepth 100000 in
theorem mL_taste (l : Launch) (hlt : l.stackTraces = false) (E : PE) (X : PX) (L : LX) (a_top : Nat → Nat) (a_forest : Nat → Nat) (a_outd : Nat → Nat) (r_top_before : Nat) (r_top_saved : Nat) (r_top_history : Nat) (r_top_desk : Nat) (r_top_walk : Nat) (r_top_input : Nat) (r_top_orders : Nat) (r_top_written : Nat) (x1 : Int32) (top_isSaved : Int32) (top_wrongPosition : Int32) (φ_forest : Fo) (outd_val : (Nat → UInt64)) (r : Int32) (z_outd_val : (Nat → UInt64)) (h : fL_taste x1 φ_forest outd_val = some (r, z_outd_val)) : ML l yL_taste cL_taste 4 [(0, 9, 12, 13)] { frames := 8, cells := 1, slots := 6, locals := 132 } E X L [.ref (a_top 0), .int x1, .ref (a_outd 0)] ([gX8 E a_top (a_forest 0) r_top_before r_top_saved top_isSaved r_top_history r_top_desk r_top_walk r_top_input r_top_orders r_top_written top_wrongPosition, gX1 E a_forest φ_forest, gLD L (a_outd 0) outd_val] : List va_W).flatten 1 6 (some (.int r)) ([gX8 E a_top (a_forest 0) r_top_before r_top_saved top_isSaved r_top_history r_top_desk r_top_walk r_top_input r_top_orders r_top_written top_wrongPosition, gX1 E a_forest φ_forest, gLD L (a_outd 0) z_outd_val] : List va_W).flatten := by
  refine px_startL (by decide +kernel) (Nat.le_of_ble_eq_true rfl) ?_
  intro p e s m args below meth c R Q A ls hC hX hL hA0 hQ ht
  obtain ⟨hx, hb, hr, hml, hts, hown, hlocks, hR, hK, hN, hP, hD, hA, hl, hin⟩ := hC
  have hl : lv_has ls 4 [(0, .ref (a_top 0)), (1, .int x1), (2, .ref (a_outd 0))] := hl
  suffices key : ∀ (H : Heap) (locs : List Loc), va_P E.1 vwCl ([gX8 E a_top (a_forest 0) r_top_before r_top_saved top_isSaved r_top_history r_top_desk r_top_walk r_top_input r_top_orders r_top_written top_wrongPosition, gX1 E a_forest φ_forest, gLD L (a_outd 0) outd_val] : List va_W).flatten H → va_S A s.heap H locs → W p l e R s m args below meth c H locs 0 0 Q (F0 m 0 ls []) from key s.heap [] hP va_S.rf
  unfold fL_taste at h
  intro H locs hP hS
  refine lv_aload_n hx hb dL_taste_0 rfl (lv_at hl 2 rfl) ?_
  refine lv_iconst (v := (nI 0)) hx hb dL_taste_1 (by decide) ?_
  refine lv_aload_n hx hb dL_taste_2 rfl (lv_at hl 0 rfl) ?_
  refine lv_iload_n hx hb dL_taste_3 rfl (lv_at hl 1 rfl) ?_
  obtain ⟨⟨k3, r1⟩, hr2, h⟩ := ob h
  dsimp only at h
  refine px_VT (As := [.int x1]) (rest := [.int (nI 0), .ref (a_outd 0)]) (gs := ([gX8 E a_top (a_forest 0) r_top_before r_top_saved top_isSaved r_top_history r_top_desk r_top_walk r_top_input r_top_orders r_top_written top_wrongPosition, gX1 E a_forest φ_forest, gLD L (a_outd 0) outd_val] : List va_W)) (gr := ([gLD L (a_outd 0) outd_val] : List va_W)) (gc := ([gX8 E a_top (a_forest 0) r_top_before r_top_saved top_isSaved r_top_history r_top_desk r_top_walk r_top_input r_top_orders r_top_written top_wrongPosition, gX1 E a_forest φ_forest] : List va_W)) (g1 := ([gX8 E a_top (a_forest 0) r_top_before r_top_saved top_isSaved r_top_history r_top_desk r_top_walk r_top_input r_top_orders r_top_written top_wrongPosition, gX1 E a_forest φ_forest] : List va_W)) (g2 := ([gX8 E a_top (a_forest 0) r_top_before r_top_saved top_isSaved r_top_history r_top_desk r_top_walk r_top_input r_top_orders r_top_written top_wrongPosition, gX1 E a_forest φ_forest, gLD L (a_outd 0) outd_val] : List va_W)) ⟨hx, hb, hml, hown, hts⟩ (c8_taste l hlt E X a_top a_forest r_top_before r_top_saved r_top_history r_top_desk r_top_walk r_top_input r_top_orders r_top_written (x1) (top_isSaved) (top_wrongPosition) (φ_forest) k3 r1 hr2) (cwV 1 hts (ws_v q838 q839 q840 q59 q841) rfl rfl rfl hdV_X8_taste (by rw [hR]; exact ⟨Nat.le_of_ble_eq_true rfl, Nat.le_of_ble_eq_true rfl⟩)) hK hN hX hP hD hS hA [2] [0, 1] [1, 2, 0] rfl rfl (by decide) (by decide) rfl (by decide) 0 8 rfl rfl rfl rfl hl.1 rfl (Nat.le_of_ble_eq_true rfl) dL_taste_4 (by rw [hR]; exact ⟨Nat.le_of_ble_eq_true rfl, Nat.le_of_ble_eq_true rfl⟩) (fun hk q9 ce H locs hP hD hS hc1 hc2 hc3 => ?_) (fun hk H locs hP hD hS => ?_)
  · rw [if_neg hk] at h
    by_cases c4 : k3 = 1
    · rw [if_pos c4] at h
      subst c4
      refine vx_catch (own := RL) (name := "java/lang/IndexOutOfBoundsException") (E := exn 1) hown [] ⟨0, 9, 12, 13⟩ [] (by rw [ht]; rfl) (fun z hz => absurd hz List.not_mem_nil) rfl (by decide) (hts _ q388) (va_Nw.use rfl (hX.2.2.2.2.2.2.1 (exn 1, exn 1) (by decide +kernel))) hc1 hc2 hc3 ?_
      refine lv_astore_n (lv' := [(3, .ref q9), (0, .ref (a_top 0)), (1, .int x1), (2, .ref (a_outd 0))]) hx hb dL_taste_12 rfl hl (by decide) rfl (fun ls hl => ?_)
      refine lv_iconst (v := (nI 1)) hx hb dL_taste_13 (by decide) ?_
      cases h
      exact px_eWi hA0 hQ hP hD hS hx hb hr hlocks dL_taste_14
    · rw [if_neg c4] at h
      cases h
  rw [if_pos hk] at h
  refine W.eq (g2 := F0 m 7 ls [.float r1, .int (nI 0), .ref (a_outd 0)]) rfl ?_
  obtain ⟨i5, h⟩ := o_t h
  refine lv_f2d hx hb dL_taste_7 (nn64_ok i5) ?_
  refine va_dast (f := outd_val) hx hb hL.1 hP hD hS 10 4 rfl rfl (inb_in (i := (nI 0)) (n := 1) (by decide)) dL_taste_8 (fun H locs hP hD hS => ?_)
  have hP : va_P E.1 vwCl ([gX8 E a_top (a_forest 0) r_top_before r_top_saved top_isSaved r_top_history r_top_desk r_top_walk r_top_input r_top_orders r_top_written top_wrongPosition, gX1 E a_forest φ_forest, gLD L (a_outd 0) (vf_upd outd_val ((nI 0)).toNatClampNeg (FP.f2d r1))] : List va_W).flatten H := hP
  have hD : va_D A ([gX8 E a_top (a_forest 0) r_top_before r_top_saved top_isSaved r_top_history r_top_desk r_top_walk r_top_input r_top_orders r_top_written top_wrongPosition, gX1 E a_forest φ_forest, gLD L (a_outd 0) (vf_upd outd_val ((nI 0)).toNatClampNeg (FP.f2d r1))] : List va_W).flatten := hD
  refine lv_goto (tgt := 15) hx hb dL_taste_9 (by decide) ?_
  refine lv_iconst (v := (nI 0)) hx hb dL_taste_15 (by decide) ?_
  cases h
  exact px_eWi hA0 hQ hP hD hS hx hb hr hlocks dL_taste_16
def fL_tasteBits (x1 : Int32) (φ_forest : Fo) (out_val : (Nat → Int64)) : Option (Int32 × (Nat → Int64)) := ((f8_tasteBits (x1) (φ_forest)).bind fun (k3, r1) => (if k3 = 0 then (some ((nI 0), (vp_updL out_val ((nI 0)).toNatClampNeg ((r1).toInt64)))) else (if k3 = 1 then (some ((nI 1), out_val)) else none)))
set_option maxHeartbeats 4000000 in
set_option maxRecDepth 100000 in
theorem mL_tasteBits (l : Launch) (hlt : l.stackTraces = false) (E : PE) (X : PX) (L : LX) (a_top : Nat → Nat) (a_forest : Nat → Nat) (a_out : Nat → Nat) (r_top_before : Nat) (r_top_saved : Nat) (r_top_history : Nat) (r_top_desk : Nat) (r_top_walk : Nat) (r_top_input : Nat) (r_top_orders : Nat) (r_top_written : Nat) (x1 : Int32) (top_isSaved : Int32) (top_wrongPosition : Int32) (φ_forest : Fo) (out_val : (Nat → Int64)) (r : Int32) (z_out_val : (Nat → Int64)) (h : fL_tasteBits x1 φ_forest out_val = some (r, z_out_val)) : ML l yL_tasteBits cL_tasteBits 4 [(0, 9, 12, 13)] { frames := 8, cells := 1, slots := 6, locals := 132 } E X L [.ref (a_top 0), .int x1, .ref (a_out 0)] ([gX8 E a_top (a_forest 0) r_top_before r_top_saved top_isSaved r_top_history r_top_desk r_top_walk r_top_input r_top_orders r_top_written top_wrongPosition, gX1 E a_forest φ_forest, gLO L (a_out 0) out_val] : List va_W).flatten 1 6 (some (.int r)) ([gX8 E a_top (a_forest 0) r_top_before r_top_saved top_isSaved r_top_history r_top_desk r_top_walk r_top_input r_top_orders r_top_written top_wrongPosition, gX1 E a_forest φ_forest, gLO L (a_out 0) z_out_val] : List va_W).flatten := by
  refine px_startL (by decide +kernel) (Nat.le_of_ble_eq_true rfl) ?_
  intro p e s m args below meth c R Q A ls hC hX hL hA0 hQ ht
  obtain ⟨hx, hb, hr, hml, hts, hown, hlocks, hR, hK, hN, hP, hD, hA, hl, hin⟩ := hC
  have hl : lv_has ls 4 [(0, .ref (a_top 0)), (1, .int x1), (2, .ref (a_out 0))] := hl
  suffices key : ∀ (H : Heap) (locs : List Loc), va_P E.1 vwCl ([gX8 E a_top (a_forest 0) r_top_before r_top_saved top_isSaved r_top_history r_top_desk r_top_walk r_top_input r_top_orders r_top_written top_wrongPosition, gX1 E a_forest φ_forest, gLO L (a_out 0) out_val] : List va_W).flatten H → va_S A s.heap H locs → W p l e R s m args below meth c H locs 0 0 Q (F0 m 0 ls []) from key s.heap [] hP va_S.rf
  unfold fL_tasteBits at h
  intro H locs hP hS
  refine lv_aload_n hx hb dL_tasteBits_0 rfl (lv_at hl 2 rfl) ?_
  refine lv_iconst (v := (nI 0)) hx hb dL_tasteBits_1 (by decide) ?_
  refine lv_aload_n hx hb dL_tasteBits_2 rfl (lv_at hl 0 rfl) ?_
  refine lv_iload_n hx hb dL_tasteBits_3 rfl (lv_at hl 1 rfl) ?_
  obtain ⟨⟨k3, r1⟩, hr2, h⟩ := ob h
  dsimp only at h
  refine px_VT (As := [.int x1]) (rest := [.int (nI 0), .ref (a_out 0)]) (gs := ([gX8 E a_top (a_forest 0) r_top_before r_top_saved top_isSaved r_top_history r_top_desk r_top_walk r_top_input r_top_orders r_top_written top_wrongPosition, gX1 E a_forest φ_forest, gLO L (a_out 0) out_val] : List va_W)) (gr := ([gLO L (a_out 0) out_val] : List va_W)) (gc := ([gX8 E a_top (a_forest 0) r_top_before r_top_saved top_isSaved r_top_history r_top_desk r_top_walk r_top_input r_top_orders r_top_written top_wrongPosition, gX1 E a_forest φ_forest] : List va_W)) (g1 := ([gX8 E a_top (a_forest 0) r_top_before r_top_saved top_isSaved r_top_history r_top_desk r_top_walk r_top_input r_top_orders r_top_written top_wrongPosition, gX1 E a_forest φ_forest] : List va_W)) (g2 := ([gX8 E a_top (a_forest 0) r_top_before r_top_saved top_isSaved r_top_history r_top_desk r_top_walk r_top_input r_top_orders r_top_written top_wrongPosition, gX1 E a_forest φ_forest, gLO L (a_out 0) out_val] : List va_W)) ⟨hx, hb, hml, hown, hts⟩ (c8_tasteBits l hlt E X a_top a_forest r_top_before r_top_saved r_top_history r_top_desk r_top_walk r_top_input r_top_orders r_top_written (x1) (top_isSaved) (top_wrongPosition) (φ_forest) k3 r1 hr2) (cwV 1 hts (ws_v q845 q846 q847 q59 q848) rfl rfl rfl hdV_X8_tasteBits (by rw [hR]; exact ⟨Nat.le_of_ble_eq_true rfl, Nat.le_of_ble_eq_true rfl⟩)) hK hN hX hP hD hS hA [2] [0, 1] [1, 2, 0] rfl rfl (by decide) (by decide) rfl (by decide) 0 8 rfl rfl rfl rfl hl.1 rfl (Nat.le_of_ble_eq_true rfl) dL_tasteBits_4 (by rw [hR]; exact ⟨Nat.le_of_ble_eq_true rfl, Nat.le_of_ble_eq_true rfl⟩) (fun hk q9 ce H locs hP hD hS hc1 hc2 hc3 => ?_) (fun hk H locs hP hD hS => ?_)
  · rw [if_neg hk] at h
    by_cases c4 : k3 = 1
    · rw [if_pos c4] at h
      subst c4
      refine vx_catch (own := RL) (name := "java/lang/IndexOutOfBoundsException") (E := exn 1) hown [] ⟨0, 9, 12, 13⟩ [] (by rw [ht]; rfl) (fun z hz => absurd hz List.not_mem_nil) rfl (by decide) (hts _ q388) (va_Nw.use rfl (hX.2.2.2.2.2.2.1 (exn 1, exn 1) (by decide +kernel))) hc1 hc2 hc3 ?_
      refine lv_astore_n (lv' := [(3, .ref q9), (0, .ref (a_top 0)), (1, .int x1), (2, .ref (a_out 0))]) hx hb dL_tasteBits_12 rfl hl (by decide) rfl (fun ls hl => ?_)
      refine lv_iconst (v := (nI 1)) hx hb dL_tasteBits_13 (by decide) ?_
      cases h
      exact px_eWi hA0 hQ hP hD hS hx hb hr hlocks dL_tasteBits_14
    · rw [if_neg c4] at h
      cases h
  rw [if_pos hk] at h
  refine W.eq (g2 := F0 m 7 ls [.int r1, .int (nI 0), .ref (a_out 0)]) rfl ?_
  refine lv_i2l (v := (r1).toInt64) hx hb dL_tasteBits_7 rfl ?_
  refine va_last (f := out_val) hx hb hL.1 hP hD hS 10 3 rfl rfl (inb_in (i := (nI 0)) (n := 1) (by decide)) dL_tasteBits_8 (fun H locs hP hD hS => ?_)
  have hP : va_P E.1 vwCl ([gX8 E a_top (a_forest 0) r_top_before r_top_saved top_isSaved r_top_history r_top_desk r_top_walk r_top_input r_top_orders r_top_written top_wrongPosition, gX1 E a_forest φ_forest, gLO L (a_out 0) (vp_updL out_val ((nI 0)).toNatClampNeg ((r1).toInt64))] : List va_W).flatten H := hP
  have hD : va_D A ([gX8 E a_top (a_forest 0) r_top_before r_top_saved top_isSaved r_top_history r_top_desk r_top_walk r_top_input r_top_orders r_top_written top_wrongPosition, gX1 E a_forest φ_forest, gLO L (a_out 0) (vp_updL out_val ((nI 0)).toNatClampNeg ((r1).toInt64))] : List va_W).flatten := hD
  refine lv_goto (tgt := 15) hx hb dL_tasteBits_9 (by decide) ?_
  refine lv_iconst (v := (nI 0)) hx hb dL_tasteBits_15 (by decide) ?_
  cases h
  exact px_eWi hA0 hQ hP hD hS hx hb hr hlocks dL_tasteBits_16
def fL_tastiest (x1 : Int32) (φ_forest : Fo) (walk_commits : AI) (walk_length : Int32) (out_val : (Nat → Int64)) : Option (Int32 × AI × Int32 × (Nat → Int64)) := ((f8_tastiest (x1) (φ_forest) (walk_commits) (walk_length)).bind fun (k5, r1, w2, w3) => (if k5 = 0 then (some ((nI 0), w2, w3, (vp_updL out_val ((nI 0)).toNatClampNeg ((r1).toInt64)))) else (if k5 = 1 then (some ((nI 1), w2, w3, out_val)) else none)))
set_option maxHeartbeats 4000000 in
set_option maxRecDepth 100000 in
theorem mL_tastiest (l : Launch) (hlt : l.stackTraces = false) (E : PE) (X : PX) (L : LX) (a_top : Nat → Nat) (a_forest : Nat → Nat) (a_walk : Nat → Nat) (a_out : Nat → Nat) (r_top_before : Nat) (r_top_saved : Nat) (r_top_history : Nat) (r_top_desk : Nat) (r_top_input : Nat) (r_top_orders : Nat) (r_top_written : Nat) (x1 : Int32) (top_isSaved : Int32) (top_wrongPosition : Int32) (φ_forest : Fo) (walk_commits : AI) (walk_length : Int32) (walk_looks : Int32) (out_val : (Nat → Int64)) (r : Int32) (z_walk_commits : AI) (z_walk_length : Int32) (z_out_val : (Nat → Int64)) (h : fL_tastiest x1 φ_forest walk_commits walk_length out_val = some (r, z_walk_commits, z_walk_length, z_out_val)) : ML l yL_tastiest cL_tastiest 4 [(0, 9, 12, 13)] { frames := 8, cells := 1, slots := 6, locals := 132 } E X L [.ref (a_top 0), .int x1, .ref (a_out 0)] ([gX8 E a_top (a_forest 0) r_top_before r_top_saved top_isSaved r_top_history r_top_desk (a_walk 0) r_top_input r_top_orders r_top_written top_wrongPosition, gX1 E a_forest φ_forest, gX7 E a_walk walk_commits walk_length walk_looks, gLO L (a_out 0) out_val] : List va_W).flatten 1 6 (some (.int r)) ([gX8 E a_top (a_forest 0) r_top_before r_top_saved top_isSaved r_top_history r_top_desk (a_walk 0) r_top_input r_top_orders r_top_written top_wrongPosition, gX1 E a_forest φ_forest, gX7 E a_walk z_walk_commits z_walk_length walk_looks, gLO L (a_out 0) z_out_val] : List va_W).flatten := by
  refine px_startL (by decide +kernel) (Nat.le_of_ble_eq_true rfl) ?_
  intro p e s m args below meth c R Q A ls hC hX hL hA0 hQ ht
  obtain ⟨hx, hb, hr, hml, hts, hown, hlocks, hR, hK, hN, hP, hD, hA, hl, hin⟩ := hC
  have hl : lv_has ls 4 [(0, .ref (a_top 0)), (1, .int x1), (2, .ref (a_out 0))] := hl
  suffices key : ∀ (H : Heap) (locs : List Loc), va_P E.1 vwCl ([gX8 E a_top (a_forest 0) r_top_before r_top_saved top_isSaved r_top_history r_top_desk (a_walk 0) r_top_input r_top_orders r_top_written top_wrongPosition, gX1 E a_forest φ_forest, gX7 E a_walk walk_commits walk_length walk_looks, gLO L (a_out 0) out_val] : List va_W).flatten H → va_S A s.heap H locs → W p l e R s m args below meth c H locs 0 0 Q (F0 m 0 ls []) from key s.heap [] hP va_S.rf
  unfold fL_tastiest at h
  intro H locs hP hS
  refine lv_aload_n hx hb dL_tastiest_0 rfl (lv_at hl 2 rfl) ?_
  refine lv_iconst (v := (nI 0)) hx hb dL_tastiest_1 (by decide) ?_
  refine lv_aload_n hx hb dL_tastiest_2 rfl (lv_at hl 0 rfl) ?_
  refine lv_iload_n hx hb dL_tastiest_3 rfl (lv_at hl 1 rfl) ?_
  obtain ⟨⟨k5, r1, w2, w3⟩, hr4, h⟩ := ob h
  dsimp only at h
  refine px_VT (As := [.int x1]) (rest := [.int (nI 0), .ref (a_out 0)]) (gs := ([gX8 E a_top (a_forest 0) r_top_before r_top_saved top_isSaved r_top_history r_top_desk (a_walk 0) r_top_input r_top_orders r_top_written top_wrongPosition, gX1 E a_forest φ_forest, gX7 E a_walk walk_commits walk_length walk_looks, gLO L (a_out 0) out_val] : List va_W)) (gr := ([gLO L (a_out 0) out_val] : List va_W)) (gc := ([gX8 E a_top (a_forest 0) r_top_before r_top_saved top_isSaved r_top_history r_top_desk (a_walk 0) r_top_input r_top_orders r_top_written top_wrongPosition, gX1 E a_forest φ_forest, gX7 E a_walk walk_commits walk_length walk_looks] : List va_W)) (g1 := ([gX8 E a_top (a_forest 0) r_top_before r_top_saved top_isSaved r_top_history r_top_desk (a_walk 0) r_top_input r_top_orders r_top_written top_wrongPosition, gX1 E a_forest φ_forest, gX7 E a_walk w2 w3 walk_looks] : List va_W)) (g2 := ([gX8 E a_top (a_forest 0) r_top_before r_top_saved top_isSaved r_top_history r_top_desk (a_walk 0) r_top_input r_top_orders r_top_written top_wrongPosition, gX1 E a_forest φ_forest, gX7 E a_walk w2 w3 walk_looks, gLO L (a_out 0) out_val] : List va_W)) ⟨hx, hb, hml, hown, hts⟩ (c8_tastiest l hlt E X a_top a_forest a_walk r_top_before r_top_saved r_top_history r_top_desk r_top_input r_top_orders r_top_written (x1) (top_isSaved) (top_wrongPosition) (φ_forest) (walk_commits) (walk_length) (walk_looks) k5 r1 w2 w3 hr4) (cwV 1 hts (ws_v q856 q857 q858 q59 q859) rfl rfl rfl hdV_X8_tastiest (by rw [hR]; exact ⟨Nat.le_of_ble_eq_true rfl, Nat.le_of_ble_eq_true rfl⟩)) hK hN hX hP hD hS hA [3] [0, 1, 2] [1, 2, 3, 0] rfl rfl (by decide) (by decide) rfl (by decide) 0 8 rfl rfl rfl rfl hl.1 rfl (Nat.le_of_ble_eq_true rfl) dL_tastiest_4 (by rw [hR]; exact ⟨Nat.le_of_ble_eq_true rfl, Nat.le_of_ble_eq_true rfl⟩) (fun hk q9 ce H locs hP hD hS hc1 hc2 hc3 => ?_) (fun hk H locs hP hD hS => ?_)
  · rw [if_neg hk] at h
    by_cases c6 : k5 = 1
    · rw [if_pos c6] at h
      subst c6
      refine vx_catch (own := RL) (name := "java/lang/IndexOutOfBoundsException") (E := exn 1) hown [] ⟨0, 9, 12, 13⟩ [] (by rw [ht]; rfl) (fun z hz => absurd hz List.not_mem_nil) rfl (by decide) (hts _ q388) (va_Nw.use rfl (hX.2.2.2.2.2.2.1 (exn 1, exn 1) (by decide +kernel))) hc1 hc2 hc3 ?_
      refine lv_astore_n (lv' := [(3, .ref q9), (0, .ref (a_top 0)), (1, .int x1), (2, .ref (a_out 0))]) hx hb dL_tastiest_12 rfl hl (by decide) rfl (fun ls hl => ?_)
      refine lv_iconst (v := (nI 1)) hx hb dL_tastiest_13 (by decide) ?_
      cases h
      exact px_eWi hA0 hQ hP hD hS hx hb hr hlocks dL_tastiest_14
    · rw [if_neg c6] at h
      cases h
  rw [if_pos hk] at h
  refine W.eq (g2 := F0 m 7 ls [.int r1, .int (nI 0), .ref (a_out 0)]) rfl ?_
  refine lv_i2l (v := (r1).toInt64) hx hb dL_tastiest_7 rfl ?_
  refine va_last (f := out_val) hx hb hL.1 hP hD hS 12 3 rfl rfl (inb_in (i := (nI 0)) (n := 1) (by decide)) dL_tastiest_8 (fun H locs hP hD hS => ?_)
  have hP : va_P E.1 vwCl ([gX8 E a_top (a_forest 0) r_top_before r_top_saved top_isSaved r_top_history r_top_desk (a_walk 0) r_top_input r_top_orders r_top_written top_wrongPosition, gX1 E a_forest φ_forest, gX7 E a_walk w2 w3 walk_looks, gLO L (a_out 0) (vp_updL out_val ((nI 0)).toNatClampNeg ((r1).toInt64))] : List va_W).flatten H := hP
  have hD : va_D A ([gX8 E a_top (a_forest 0) r_top_before r_top_saved top_isSaved r_top_history r_top_desk (a_walk 0) r_top_input r_top_orders r_top_written top_wrongPosition, gX1 E a_forest φ_forest, gX7 E a_walk w2 w3 walk_looks, gLO L (a_out 0) (vp_updL out_val ((nI 0)).toNatClampNeg ((r1).toInt64))] : List va_W).flatten := hD
  refine lv_goto (tgt := 15) hx hb dL_tastiest_9 (by decide) ?_
  refine lv_iconst (v := (nI 0)) hx hb dL_tastiest_15 (by decide) ?_
  cases h
  exact px_eWi hA0 hQ hP hD hS hx hb hr hlocks dL_tastiest_16
def fL_bundle (x1 : Int32) (φ_forest : Fo) (φ_before : Fo) (hist_rows : (Nat → Fo)) (hist_next : Int32) (hist_count : Int32) (out_val : (Nat → Int64)) : Option (Int32 × Fo × Fo × (Nat → Fo) × Int32 × Int32 × (Nat → Int64)) := ((f8_bundle (x1) (φ_forest) (φ_before) (hist_rows) (hist_next) (hist_count)).bind fun (k8, r1, w2, w3, w4, w5, w6) => (if k8 = 0 then (some ((nI 0), w2, w3, w4, w5, w6, (vp_updL out_val ((nI 0)).toNatClampNeg ((r1).toInt64)))) else (if k8 = 2 then (some ((nI 1), w2, w3, w4, w5, w6, out_val)) else none)))
set_option maxHeartbeats 4000000 in
set_option maxRecDepth 100000 in
theorem mL_bundle (l : Launch) (hlt : l.stackTraces = false) (E : PE) (X : PX) (L : LX) (a_top : Nat → Nat) (a_desk : Nat → Nat) (a_forest : Nat → Nat) (a_before : Nat → Nat) (a_hist : Nat → Nat) (a_out : Nat → Nat) (r_top_saved : Nat) (r_top_walk : Nat) (r_top_input : Nat) (r_top_orders : Nat) (r_top_written : Nat) (r_desk_mix : Nat) (x1 : Int32) (top_isSaved : Int32) (top_wrongPosition : Int32) (desk_reason : Int32) (desk_detail : Int32) (φ_forest : Fo) (φ_before : Fo) (hist_rows : (Nat → Fo)) (hist_next : Int32) (hist_count : Int32) (out_val : (Nat → Int64)) (r : Int32) (z_forest_φ : Fo) (z_before_φ : Fo) (z_hist_rows : (Nat → Fo)) (z_hist_next : Int32) (z_hist_count : Int32) (z_out_val : (Nat → Int64)) (h : fL_bundle x1 φ_forest φ_before hist_rows hist_next hist_count out_val = some (r, z_forest_φ, z_before_φ, z_hist_rows, z_hist_next, z_hist_count, z_out_val)) : ML l yL_bundle cL_bundle 4 [(0, 9, 12, 15)] { frames := 8, cells := 1, slots := 6, locals := 132 } E X L [.ref (a_top 0), .int x1, .ref (a_out 0)] ([gX8 E a_top (a_forest 0) (a_before 0) r_top_saved top_isSaved (a_hist 0) (a_desk 0) r_top_walk r_top_input r_top_orders r_top_written top_wrongPosition, gX0 E a_desk (a_forest 0) r_desk_mix desk_reason desk_detail, gX1 E a_forest φ_forest, gX1 E a_before φ_before, gX2 E a_hist hist_rows hist_next hist_count, gLO L (a_out 0) out_val] : List va_W).flatten 1 6 (some (.int r)) ([gX8 E a_top (a_forest 0) (a_before 0) r_top_saved top_isSaved (a_hist 0) (a_desk 0) r_top_walk r_top_input r_top_orders r_top_written top_wrongPosition, gX0 E a_desk (a_forest 0) r_desk_mix desk_reason desk_detail, gX1 E a_forest z_forest_φ, gX1 E a_before z_before_φ, gX2 E a_hist z_hist_rows z_hist_next z_hist_count, gLO L (a_out 0) z_out_val] : List va_W).flatten := by
  refine px_startL (by decide +kernel) (Nat.le_of_ble_eq_true rfl) ?_
  intro p e s m args below meth c R Q A ls hC hX hL hA0 hQ ht
  obtain ⟨hx, hb, hr, hml, hts, hown, hlocks, hR, hK, hN, hP, hD, hA, hl, hin⟩ := hC
  have hl : lv_has ls 4 [(0, .ref (a_top 0)), (1, .int x1), (2, .ref (a_out 0))] := hl
  suffices key : ∀ (H : Heap) (locs : List Loc), va_P E.1 vwCl ([gX8 E a_top (a_forest 0) (a_before 0) r_top_saved top_isSaved (a_hist 0) (a_desk 0) r_top_walk r_top_input r_top_orders r_top_written top_wrongPosition, gX0 E a_desk (a_forest 0) r_desk_mix desk_reason desk_detail, gX1 E a_forest φ_forest, gX1 E a_before φ_before, gX2 E a_hist hist_rows hist_next hist_count, gLO L (a_out 0) out_val] : List va_W).flatten H → va_S A s.heap H locs → W p l e R s m args below meth c H locs 0 0 Q (F0 m 0 ls []) from key s.heap [] hP va_S.rf
  unfold fL_bundle at h
  intro H locs hP hS
  refine lv_aload_n hx hb dL_bundle_0 rfl (lv_at hl 2 rfl) ?_
  refine lv_iconst (v := (nI 0)) hx hb dL_bundle_1 (by decide) ?_
  refine lv_aload_n hx hb dL_bundle_2 rfl (lv_at hl 0 rfl) ?_
  refine lv_iload_n hx hb dL_bundle_3 rfl (lv_at hl 1 rfl) ?_
  obtain ⟨⟨k8, r1, w2, w3, w4, w5, w6⟩, hr7, h⟩ := ob h
  dsimp only at h
  refine px_VT (As := [.int x1]) (rest := [.int (nI 0), .ref (a_out 0)]) (gs := ([gX8 E a_top (a_forest 0) (a_before 0) r_top_saved top_isSaved (a_hist 0) (a_desk 0) r_top_walk r_top_input r_top_orders r_top_written top_wrongPosition, gX0 E a_desk (a_forest 0) r_desk_mix desk_reason desk_detail, gX1 E a_forest φ_forest, gX1 E a_before φ_before, gX2 E a_hist hist_rows hist_next hist_count, gLO L (a_out 0) out_val] : List va_W)) (gr := ([gLO L (a_out 0) out_val] : List va_W)) (gc := ([gX8 E a_top (a_forest 0) (a_before 0) r_top_saved top_isSaved (a_hist 0) (a_desk 0) r_top_walk r_top_input r_top_orders r_top_written top_wrongPosition, gX0 E a_desk (a_forest 0) r_desk_mix desk_reason desk_detail, gX1 E a_forest φ_forest, gX1 E a_before φ_before, gX2 E a_hist hist_rows hist_next hist_count] : List va_W)) (g1 := ([gX8 E a_top (a_forest 0) (a_before 0) r_top_saved top_isSaved (a_hist 0) (a_desk 0) r_top_walk r_top_input r_top_orders r_top_written top_wrongPosition, gX0 E a_desk (a_forest 0) r_desk_mix desk_reason desk_detail, gX1 E a_forest w2, gX1 E a_before w3, gX2 E a_hist w4 w5 w6] : List va_W)) (g2 := ([gX8 E a_top (a_forest 0) (a_before 0) r_top_saved top_isSaved (a_hist 0) (a_desk 0) r_top_walk r_top_input r_top_orders r_top_written top_wrongPosition, gX0 E a_desk (a_forest 0) r_desk_mix desk_reason desk_detail, gX1 E a_forest w2, gX1 E a_before w3, gX2 E a_hist w4 w5 w6, gLO L (a_out 0) out_val] : List va_W)) ⟨hx, hb, hml, hown, hts⟩ (c8_bundle l hlt E X a_top a_desk a_forest a_before a_hist r_top_saved r_top_walk r_top_input r_top_orders r_top_written r_desk_mix (x1) (top_isSaved) (top_wrongPosition) (desk_reason) (desk_detail) (φ_forest) (φ_before) (hist_rows) (hist_next) (hist_count) k8 r1 w2 w3 w4 w5 w6 hr7) (cwV 1 hts (ws_v q868 q869 q870 q59 q871) rfl rfl rfl hdV_X8_bundle (by rw [hR]; exact ⟨Nat.le_of_ble_eq_true rfl, Nat.le_of_ble_eq_true rfl⟩)) hK hN hX hP hD hS hA [5] [0, 1, 2, 3, 4] [1, 2, 3, 4, 5, 0] rfl rfl (by decide) (by decide) rfl (by decide) 0 8 rfl rfl rfl rfl hl.1 rfl (Nat.le_of_ble_eq_true rfl) dL_bundle_4 (by rw [hR]; exact ⟨Nat.le_of_ble_eq_true rfl, Nat.le_of_ble_eq_true rfl⟩) (fun hk q9 ce H locs hP hD hS hc1 hc2 hc3 => ?_) (fun hk H locs hP hD hS => ?_)
  · rw [if_neg hk] at h
    by_cases c9 : k8 = 2
    · rw [if_pos c9] at h
      subst c9
      refine vx_catch (own := RL) (name := "java/lang/IllegalArgumentException") (E := exn 2) hown [] ⟨0, 9, 12, 15⟩ [] (by rw [ht]; rfl) (fun z hz => absurd hz List.not_mem_nil) rfl (by decide) (hts _ q389) (va_Nw.use rfl (hX.2.2.2.2.2.2.1 (exn 2, exn 2) (by decide +kernel))) hc1 hc2 hc3 ?_
      refine lv_astore_n (lv' := [(3, .ref q9), (0, .ref (a_top 0)), (1, .int x1), (2, .ref (a_out 0))]) hx hb dL_bundle_12 rfl hl (by decide) rfl (fun ls hl => ?_)
      refine lv_iconst (v := (nI 1)) hx hb dL_bundle_13 (by decide) ?_
      cases h
      exact px_eWi hA0 hQ hP hD hS hx hb hr hlocks dL_bundle_14
    · rw [if_neg c9] at h
      cases h
  rw [if_pos hk] at h
  refine W.eq (g2 := F0 m 7 ls [.int r1, .int (nI 0), .ref (a_out 0)]) rfl ?_
  refine lv_i2l (v := (r1).toInt64) hx hb dL_bundle_7 rfl ?_
  refine va_last (f := out_val) hx hb hL.1 hP hD hS 94 3 rfl rfl (inb_in (i := (nI 0)) (n := 1) (by decide)) dL_bundle_8 (fun H locs hP hD hS => ?_)
  have hP : va_P E.1 vwCl ([gX8 E a_top (a_forest 0) (a_before 0) r_top_saved top_isSaved (a_hist 0) (a_desk 0) r_top_walk r_top_input r_top_orders r_top_written top_wrongPosition, gX0 E a_desk (a_forest 0) r_desk_mix desk_reason desk_detail, gX1 E a_forest w2, gX1 E a_before w3, gX2 E a_hist w4 w5 w6, gLO L (a_out 0) (vp_updL out_val ((nI 0)).toNatClampNeg ((r1).toInt64))] : List va_W).flatten H := hP
  have hD : va_D A ([gX8 E a_top (a_forest 0) (a_before 0) r_top_saved top_isSaved (a_hist 0) (a_desk 0) r_top_walk r_top_input r_top_orders r_top_written top_wrongPosition, gX0 E a_desk (a_forest 0) r_desk_mix desk_reason desk_detail, gX1 E a_forest w2, gX1 E a_before w3, gX2 E a_hist w4 w5 w6, gLO L (a_out 0) (vp_updL out_val ((nI 0)).toNatClampNeg ((r1).toInt64))] : List va_W).flatten := hD
  refine lv_goto (tgt := 15) hx hb dL_bundle_9 (by decide) ?_
  refine lv_iconst (v := (nI 0)) hx hb dL_bundle_15 (by decide) ?_
  cases h
  exact px_eWi hA0 hQ hP hD hS hx hb hr hlocks dL_bundle_16
def fL_put (x1 : Int32) (x2 : Int32) (desk_reason : Int32) (desk_detail : Int32) (φ_forest : Fo) (φ_before : Fo) (hist_rows : (Nat → Fo)) (hist_next : Int32) (hist_count : Int32) (out_val : (Nat → Int64)) : Option (Int32 × Int32 × Int32 × Fo × Fo × (Nat → Fo) × Int32 × Int32 × (Nat → Int64)) := ((f8_put (x1) (x2) (desk_reason) (desk_detail) (φ_forest) (φ_before) (hist_rows) (hist_next) (hist_count)).bind fun (k10, r1, w2, w3, w4, w5, w6, w7, w8) => (if k10 = 0 then (some ((nI 0), w2, w3, w4, w5, w6, w7, w8, (vp_updL out_val ((nI 0)).toNatClampNeg ((r1).toInt64)))) else (if k10 = 1 then (some ((nI 1), w2, w3, w4, w5, w6, w7, w8, out_val)) else (if k10 = 3 then (some ((nI 2), w2, w3, w4, w5, w6, w7, w8, out_val)) else none))))
set_option maxHeartbeats 4000000 in
set_option maxRecDepth 100000 in
theorem mL_put (l : Launch) (hlt : l.stackTraces = false) (E : PE) (X : PX) (L : LX) (a_top : Nat → Nat) (a_desk : Nat → Nat) (a_forest : Nat → Nat) (a_before : Nat → Nat) (a_hist : Nat → Nat) (a_out : Nat → Nat) (r_top_saved : Nat) (r_top_walk : Nat) (r_top_input : Nat) (r_top_orders : Nat) (r_top_written : Nat) (r_desk_mix : Nat) (x1 : Int32) (x2 : Int32) (top_isSaved : Int32) (top_wrongPosition : Int32) (desk_reason : Int32) (desk_detail : Int32) (φ_forest : Fo) (φ_before : Fo) (hist_rows : (Nat → Fo)) (hist_next : Int32) (hist_count : Int32) (out_val : (Nat → Int64)) (r : Int32) (z_desk_reason : Int32) (z_desk_detail : Int32) (z_forest_φ : Fo) (z_before_φ : Fo) (z_hist_rows : (Nat → Fo)) (z_hist_next : Int32) (z_hist_count : Int32) (z_out_val : (Nat → Int64)) (h : fL_put x1 x2 desk_reason desk_detail φ_forest φ_before hist_rows hist_next hist_count out_val = some (r, z_desk_reason, z_desk_detail, z_forest_φ, z_before_φ, z_hist_rows, z_hist_next, z_hist_count, z_out_val)) : ML l yL_put cL_put 5 [(0, 10, 13, 13), (0, 10, 17, 17)] { frames := 8, cells := 1, slots := 6, locals := 133 } E X L [.ref (a_top 0), .int x1, .int x2, .ref (a_out 0)] ([gX8 E a_top (a_forest 0) (a_before 0) r_top_saved top_isSaved (a_hist 0) (a_desk 0) r_top_walk r_top_input r_top_orders r_top_written top_wrongPosition, gX0 E a_desk (a_forest 0) r_desk_mix desk_reason desk_detail, gX1 E a_forest φ_forest, gX1 E a_before φ_before, gX2 E a_hist hist_rows hist_next hist_count, gLO L (a_out 0) out_val] : List va_W).flatten 1 6 (some (.int r)) ([gX8 E a_top (a_forest 0) (a_before 0) r_top_saved top_isSaved (a_hist 0) (a_desk 0) r_top_walk r_top_input r_top_orders r_top_written top_wrongPosition, gX0 E a_desk (a_forest 0) r_desk_mix z_desk_reason z_desk_detail, gX1 E a_forest z_forest_φ, gX1 E a_before z_before_φ, gX2 E a_hist z_hist_rows z_hist_next z_hist_count, gLO L (a_out 0) z_out_val] : List va_W).flatten := by
  refine px_startL (by decide +kernel) (Nat.le_of_ble_eq_true rfl) ?_
  intro p e s m args below meth c R Q A ls hC hX hL hA0 hQ ht
  obtain ⟨hx, hb, hr, hml, hts, hown, hlocks, hR, hK, hN, hP, hD, hA, hl, hin⟩ := hC
  have hl : lv_has ls 5 [(0, .ref (a_top 0)), (1, .int x1), (2, .int x2), (3, .ref (a_out 0))] := hl
  suffices key : ∀ (H : Heap) (locs : List Loc), va_P E.1 vwCl ([gX8 E a_top (a_forest 0) (a_before 0) r_top_saved top_isSaved (a_hist 0) (a_desk 0) r_top_walk r_top_input r_top_orders r_top_written top_wrongPosition, gX0 E a_desk (a_forest 0) r_desk_mix desk_reason desk_detail, gX1 E a_forest φ_forest, gX1 E a_before φ_before, gX2 E a_hist hist_rows hist_next hist_count, gLO L (a_out 0) out_val] : List va_W).flatten H → va_S A s.heap H locs → W p l e R s m args below meth c H locs 0 0 Q (F0 m 0 ls []) from key s.heap [] hP va_S.rf
  unfold fL_put at h
  intro H locs hP hS
  refine lv_aload_n hx hb dL_put_0 rfl (lv_at hl 3 rfl) ?_
  refine lv_iconst (v := (nI 0)) hx hb dL_put_1 (by decide) ?_
  refine lv_aload_n hx hb dL_put_2 rfl (lv_at hl 0 rfl) ?_
  refine lv_iload_n hx hb dL_put_3 rfl (lv_at hl 1 rfl) ?_
  refine lv_iload_n hx hb dL_put_4 rfl (lv_at hl 2 rfl) ?_
  obtain ⟨⟨k10, r1, w2, w3, w4, w5, w6, w7, w8⟩, hr9, h⟩ := ob h
  dsimp only at h
  refine px_VT (As := [.int x1, .int x2]) (rest := [.int (nI 0), .ref (a_out 0)]) (gs := ([gX8 E a_top (a_forest 0) (a_before 0) r_top_saved top_isSaved (a_hist 0) (a_desk 0) r_top_walk r_top_input r_top_orders r_top_written top_wrongPosition, gX0 E a_desk (a_forest 0) r_desk_mix desk_reason desk_detail, gX1 E a_forest φ_forest, gX1 E a_before φ_before, gX2 E a_hist hist_rows hist_next hist_count, gLO L (a_out 0) out_val] : List va_W)) (gr := ([gLO L (a_out 0) out_val] : List va_W)) (gc := ([gX8 E a_top (a_forest 0) (a_before 0) r_top_saved top_isSaved (a_hist 0) (a_desk 0) r_top_walk r_top_input r_top_orders r_top_written top_wrongPosition, gX0 E a_desk (a_forest 0) r_desk_mix desk_reason desk_detail, gX1 E a_forest φ_forest, gX1 E a_before φ_before, gX2 E a_hist hist_rows hist_next hist_count] : List va_W)) (g1 := ([gX8 E a_top (a_forest 0) (a_before 0) r_top_saved top_isSaved (a_hist 0) (a_desk 0) r_top_walk r_top_input r_top_orders r_top_written top_wrongPosition, gX0 E a_desk (a_forest 0) r_desk_mix w2 w3, gX1 E a_forest w4, gX1 E a_before w5, gX2 E a_hist w6 w7 w8] : List va_W)) (g2 := ([gX8 E a_top (a_forest 0) (a_before 0) r_top_saved top_isSaved (a_hist 0) (a_desk 0) r_top_walk r_top_input r_top_orders r_top_written top_wrongPosition, gX0 E a_desk (a_forest 0) r_desk_mix w2 w3, gX1 E a_forest w4, gX1 E a_before w5, gX2 E a_hist w6 w7 w8, gLO L (a_out 0) out_val] : List va_W)) ⟨hx, hb, hml, hown, hts⟩ (c8_put l hlt E X a_top a_desk a_forest a_before a_hist r_top_saved r_top_walk r_top_input r_top_orders r_top_written r_desk_mix (x1) (x2) (top_isSaved) (top_wrongPosition) (desk_reason) (desk_detail) (φ_forest) (φ_before) (hist_rows) (hist_next) (hist_count) k10 r1 w2 w3 w4 w5 w6 w7 w8 hr9) (cwV 2 hts (ws_v q887 q888 q889 q59 q890) rfl rfl rfl hdV_X8_put (by rw [hR]; exact ⟨Nat.le_of_ble_eq_true rfl, Nat.le_of_ble_eq_true rfl⟩)) hK hN hX hP hD hS hA [5] [0, 1, 2, 3, 4] [1, 2, 3, 4, 5, 0] rfl rfl (by decide) (by decide) rfl (by decide) 0 8 rfl rfl rfl rfl hl.1 rfl (Nat.le_of_ble_eq_true rfl) dL_put_5 (by rw [hR]; exact ⟨Nat.le_of_ble_eq_true rfl, Nat.le_of_ble_eq_true rfl⟩) (fun hk q9 ce H locs hP hD hS hc1 hc2 hc3 => ?_) (fun hk H locs hP hD hS => ?_)
  · rw [if_neg hk] at h
    by_cases c11 : k10 = 1
    · rw [if_pos c11] at h
      subst c11
      refine vx_catch (own := RL) (name := "java/lang/IndexOutOfBoundsException") (E := exn 1) hown [] ⟨0, 10, 13, 13⟩ [⟨0, 10, 17, 17⟩] (by rw [ht]; rfl) (fun z hz => absurd hz List.not_mem_nil) rfl (by decide) (hts _ q388) (va_Nw.use rfl (hX.2.2.2.2.2.2.1 (exn 1, exn 1) (by decide +kernel))) hc1 hc2 hc3 ?_
      refine lv_astore (lv' := [(4, .ref q9), (0, .ref (a_top 0)), (1, .int x1), (2, .int x2), (3, .ref (a_out 0))]) hx hb dL_put_13 hl (by decide) rfl (fun ls hl => ?_)
      refine lv_iconst (v := (nI 1)) hx hb dL_put_15 (by decide) ?_
      cases h
      exact px_eWi hA0 hQ hP hD hS hx hb hr hlocks dL_put_16
    · rw [if_neg c11] at h
      by_cases c12 : k10 = 3
      · rw [if_pos c12] at h
        subst c12
        refine vx_catch (own := RL) (name := "java/lang/UnsupportedOperationException") (E := exn 3) hown [⟨0, 10, 13, 13⟩] ⟨0, 10, 17, 17⟩ [] (by rw [ht]; rfl) (List.forall_mem_cons.mpr ⟨Or.inr ⟨by decide, "java/lang/IndexOutOfBoundsException", hts _ q388, hL.2 3 1 (by decide) (by decide) (by decide) (by decide) (by decide)⟩, (fun z hz => absurd hz List.not_mem_nil)⟩) rfl (by decide) (hts _ q390) (va_Nw.use rfl (hX.2.2.2.2.2.2.1 (exn 3, exn 3) (by decide +kernel))) hc1 hc2 hc3 ?_
        refine lv_astore (lv' := [(4, .ref q9), (0, .ref (a_top 0)), (1, .int x1), (2, .int x2), (3, .ref (a_out 0))]) hx hb dL_put_17 hl (by decide) rfl (fun ls hl => ?_)
        refine lv_iconst (v := (nI 2)) hx hb dL_put_19 (by decide) ?_
        cases h
        exact px_eWi hA0 hQ hP hD hS hx hb hr hlocks dL_put_20
      · rw [if_neg c12] at h
        cases h
  rw [if_pos hk] at h
  refine W.eq (g2 := F0 m 8 ls [.int r1, .int (nI 0), .ref (a_out 0)]) rfl ?_
  refine lv_i2l (v := (r1).toInt64) hx hb dL_put_8 rfl ?_
  refine va_last (f := out_val) hx hb hL.1 hP hD hS 94 3 rfl rfl (inb_in (i := (nI 0)) (n := 1) (by decide)) dL_put_9 (fun H locs hP hD hS => ?_)
  have hP : va_P E.1 vwCl ([gX8 E a_top (a_forest 0) (a_before 0) r_top_saved top_isSaved (a_hist 0) (a_desk 0) r_top_walk r_top_input r_top_orders r_top_written top_wrongPosition, gX0 E a_desk (a_forest 0) r_desk_mix w2 w3, gX1 E a_forest w4, gX1 E a_before w5, gX2 E a_hist w6 w7 w8, gLO L (a_out 0) (vp_updL out_val ((nI 0)).toNatClampNeg ((r1).toInt64))] : List va_W).flatten H := hP
  have hD : va_D A ([gX8 E a_top (a_forest 0) (a_before 0) r_top_saved top_isSaved (a_hist 0) (a_desk 0) r_top_walk r_top_input r_top_orders r_top_written top_wrongPosition, gX0 E a_desk (a_forest 0) r_desk_mix w2 w3, gX1 E a_forest w4, gX1 E a_before w5, gX2 E a_hist w6 w7 w8, gLO L (a_out 0) (vp_updL out_val ((nI 0)).toNatClampNeg ((r1).toInt64))] : List va_W).flatten := hD
  refine lv_goto (tgt := 21) hx hb dL_put_10 (by decide) ?_
  refine lv_iconst (v := (nI 0)) hx hb dL_put_21 (by decide) ?_
  cases h
  exact px_eWi hA0 hQ hP hD hS hx hb hr hlocks dL_put_22
def fL_inBundle (x1 : Int32) (φ_forest : Fo) (out_val : (Nat → Int64)) : Option (Int32 × (Nat → Int64)) := ((f8_inBundle (x1) (φ_forest)).bind fun (k3, r1) => (if k3 = 0 then (some ((nI 0), (vp_updL out_val ((nI 0)).toNatClampNeg ((r1).toInt64)))) else (if k3 = 1 then (some ((nI 1), out_val)) else (if k3 = 4 then (some ((nI 2), out_val)) else none))))
set_option maxHeartbeats 4000000 in
set_option maxRecDepth 100000 in
theorem mL_inBundle (l : Launch) (hlt : l.stackTraces = false) (E : PE) (X : PX) (L : LX) (a_top : Nat → Nat) (a_forest : Nat → Nat) (a_out : Nat → Nat) (r_top_before : Nat) (r_top_saved : Nat) (r_top_history : Nat) (r_top_desk : Nat) (r_top_walk : Nat) (r_top_input : Nat) (r_top_orders : Nat) (r_top_written : Nat) (x1 : Int32) (top_isSaved : Int32) (top_wrongPosition : Int32) (φ_forest : Fo) (out_val : (Nat → Int64)) (r : Int32) (z_out_val : (Nat → Int64)) (h : fL_inBundle x1 φ_forest out_val = some (r, z_out_val)) : ML l yL_inBundle cL_inBundle 4 [(0, 9, 12, 13), (0, 9, 15, 64)] { frames := 7, cells := 1, slots := 6, locals := 112 } E X L [.ref (a_top 0), .int x1, .ref (a_out 0)] ([gX8 E a_top (a_forest 0) r_top_before r_top_saved top_isSaved r_top_history r_top_desk r_top_walk r_top_input r_top_orders r_top_written top_wrongPosition, gX1 E a_forest φ_forest, gLO L (a_out 0) out_val] : List va_W).flatten 1 6 (some (.int r)) ([gX8 E a_top (a_forest 0) r_top_before r_top_saved top_isSaved r_top_history r_top_desk r_top_walk r_top_input r_top_orders r_top_written top_wrongPosition, gX1 E a_forest φ_forest, gLO L (a_out 0) z_out_val] : List va_W).flatten := by
  refine px_startL (by decide +kernel) (Nat.le_of_ble_eq_true rfl) ?_
  intro p e s m args below meth c R Q A ls hC hX hL hA0 hQ ht
  obtain ⟨hx, hb, hr, hml, hts, hown, hlocks, hR, hK, hN, hP, hD, hA, hl, hin⟩ := hC
  have hl : lv_has ls 4 [(0, .ref (a_top 0)), (1, .int x1), (2, .ref (a_out 0))] := hl
  suffices key : ∀ (H : Heap) (locs : List Loc), va_P E.1 vwCl ([gX8 E a_top (a_forest 0) r_top_before r_top_saved top_isSaved r_top_history r_top_desk r_top_walk r_top_input r_top_orders r_top_written top_wrongPosition, gX1 E a_forest φ_forest, gLO L (a_out 0) out_val] : List va_W).flatten H → va_S A s.heap H locs → W p l e R s m args below meth c H locs 0 0 Q (F0 m 0 ls []) from key s.heap [] hP va_S.rf
  unfold fL_inBundle at h
  intro H locs hP hS
  refine lv_aload_n hx hb dL_inBundle_0 rfl (lv_at hl 2 rfl) ?_
  refine lv_iconst (v := (nI 0)) hx hb dL_inBundle_1 (by decide) ?_
  refine lv_aload_n hx hb dL_inBundle_2 rfl (lv_at hl 0 rfl) ?_
  refine lv_iload_n hx hb dL_inBundle_3 rfl (lv_at hl 1 rfl) ?_
  obtain ⟨⟨k3, r1⟩, hr2, h⟩ := ob h
  dsimp only at h
  refine px_VT (As := [.int x1]) (rest := [.int (nI 0), .ref (a_out 0)]) (gs := ([gX8 E a_top (a_forest 0) r_top_before r_top_saved top_isSaved r_top_history r_top_desk r_top_walk r_top_input r_top_orders r_top_written top_wrongPosition, gX1 E a_forest φ_forest, gLO L (a_out 0) out_val] : List va_W)) (gr := ([gLO L (a_out 0) out_val] : List va_W)) (gc := ([gX8 E a_top (a_forest 0) r_top_before r_top_saved top_isSaved r_top_history r_top_desk r_top_walk r_top_input r_top_orders r_top_written top_wrongPosition, gX1 E a_forest φ_forest] : List va_W)) (g1 := ([gX8 E a_top (a_forest 0) r_top_before r_top_saved top_isSaved r_top_history r_top_desk r_top_walk r_top_input r_top_orders r_top_written top_wrongPosition, gX1 E a_forest φ_forest] : List va_W)) (g2 := ([gX8 E a_top (a_forest 0) r_top_before r_top_saved top_isSaved r_top_history r_top_desk r_top_walk r_top_input r_top_orders r_top_written top_wrongPosition, gX1 E a_forest φ_forest, gLO L (a_out 0) out_val] : List va_W)) ⟨hx, hb, hml, hown, hts⟩ (c8_inBundle l hlt E X a_top a_forest r_top_before r_top_saved r_top_history r_top_desk r_top_walk r_top_input r_top_orders r_top_written (x1) (top_isSaved) (top_wrongPosition) (φ_forest) k3 r1 hr2) (cwV 1 hts (ws_v q914 q915 q916 q59 q917) rfl rfl rfl hdV_X8_inBundle (by rw [hR]; exact ⟨Nat.le_of_ble_eq_true rfl, Nat.le_of_ble_eq_true rfl⟩)) hK hN hX hP hD hS hA [2] [0, 1] [1, 2, 0] rfl rfl (by decide) (by decide) rfl (by decide) 0 8 rfl rfl rfl rfl hl.1 rfl (Nat.le_of_ble_eq_true rfl) dL_inBundle_4 (by rw [hR]; exact ⟨Nat.le_of_ble_eq_true rfl, Nat.le_of_ble_eq_true rfl⟩) (fun hk q9 ce H locs hP hD hS hc1 hc2 hc3 => ?_) (fun hk H locs hP hD hS => ?_)
  · rw [if_neg hk] at h
    by_cases c4 : k3 = 1
    · rw [if_pos c4] at h
      subst c4
      refine vx_catch (own := RL) (name := "java/lang/IndexOutOfBoundsException") (E := exn 1) hown [] ⟨0, 9, 12, 13⟩ [⟨0, 9, 15, 64⟩] (by rw [ht]; rfl) (fun z hz => absurd hz List.not_mem_nil) rfl (by decide) (hts _ q388) (va_Nw.use rfl (hX.2.2.2.2.2.2.1 (exn 1, exn 1) (by decide +kernel))) hc1 hc2 hc3 ?_
      refine lv_astore_n (lv' := [(3, .ref q9), (0, .ref (a_top 0)), (1, .int x1), (2, .ref (a_out 0))]) hx hb dL_inBundle_12 rfl hl (by decide) rfl (fun ls hl => ?_)
      refine lv_iconst (v := (nI 1)) hx hb dL_inBundle_13 (by decide) ?_
      cases h
      exact px_eWi hA0 hQ hP hD hS hx hb hr hlocks dL_inBundle_14
    · rw [if_neg c4] at h
      by_cases c5 : k3 = 4
      · rw [if_pos c5] at h
        subst c5
        refine vx_catch (own := RL) (name := "java/util/NoSuchElementException") (E := exn 4) hown [⟨0, 9, 12, 13⟩] ⟨0, 9, 15, 64⟩ [] (by rw [ht]; rfl) (List.forall_mem_cons.mpr ⟨Or.inr ⟨by decide, "java/lang/IndexOutOfBoundsException", hts _ q388, hL.2 4 1 (by decide) (by decide) (by decide) (by decide) (by decide)⟩, (fun z hz => absurd hz List.not_mem_nil)⟩) rfl (by decide) (hts _ q758) (va_Nw.use rfl (hX.2.2.2.2.2.2.1 (exn 4, exn 4) (by decide +kernel))) hc1 hc2 hc3 ?_
        refine lv_astore_n (lv' := [(3, .ref q9), (0, .ref (a_top 0)), (1, .int x1), (2, .ref (a_out 0))]) hx hb dL_inBundle_15 rfl hl (by decide) rfl (fun ls hl => ?_)
        refine lv_iconst (v := (nI 2)) hx hb dL_inBundle_16 (by decide) ?_
        cases h
        exact px_eWi hA0 hQ hP hD hS hx hb hr hlocks dL_inBundle_17
      · rw [if_neg c5] at h
        cases h
  rw [if_pos hk] at h
  refine W.eq (g2 := F0 m 7 ls [.int r1, .int (nI 0), .ref (a_out 0)]) rfl ?_
  refine lv_i2l (v := (r1).toInt64) hx hb dL_inBundle_7 rfl ?_
  refine va_last (f := out_val) hx hb hL.1 hP hD hS 10 3 rfl rfl (inb_in (i := (nI 0)) (n := 1) (by decide)) dL_inBundle_8 (fun H locs hP hD hS => ?_)
  have hP : va_P E.1 vwCl ([gX8 E a_top (a_forest 0) r_top_before r_top_saved top_isSaved r_top_history r_top_desk r_top_walk r_top_input r_top_orders r_top_written top_wrongPosition, gX1 E a_forest φ_forest, gLO L (a_out 0) (vp_updL out_val ((nI 0)).toNatClampNeg ((r1).toInt64))] : List va_W).flatten H := hP
  have hD : va_D A ([gX8 E a_top (a_forest 0) r_top_before r_top_saved top_isSaved r_top_history r_top_desk r_top_walk r_top_input r_top_orders r_top_written top_wrongPosition, gX1 E a_forest φ_forest, gLO L (a_out 0) (vp_updL out_val ((nI 0)).toNatClampNeg ((r1).toInt64))] : List va_W).flatten := hD
  refine lv_goto (tgt := 18) hx hb dL_inBundle_9 (by decide) ?_
  refine lv_iconst (v := (nI 0)) hx hb dL_inBundle_18 (by decide) ?_
  cases h
  exact px_eWi hA0 hQ hP hD hS hx hb hr hlocks dL_inBundle_19
def fL_play (x1 : Int32) (x2 : Int32) (desk_reason : Int32) (desk_detail : Int32) (mix_row : AI) (mix_conflictCount : Int32) (mix_lowest : Int32) (φ_forest : Fo) (φ_before : Fo) (hist_rows : (Nat → Fo)) (hist_next : Int32) (hist_count : Int32) (out_val : (Nat → Int64)) : Option (Int32 × Int32 × Int32 × AI × Int32 × Int32 × Fo × Fo × (Nat → Fo) × Int32 × Int32 × (Nat → Int64)) := ((f8_play (x1) (x2) (desk_reason) (desk_detail) (mix_row) (mix_conflictCount) (mix_lowest) (φ_forest) (φ_before) (hist_rows) (hist_next) (hist_count)).bind fun (k13, r1, w2, w3, w4, w5, w6, w7, w8, w9, w10, w11) => (if k13 = 0 then (some ((nI 0), w2, w3, w4, w5, w6, w7, w8, w9, w10, w11, (vp_updL out_val ((nI 0)).toNatClampNeg ((r1).toInt64)))) else (if k13 = 1 then (some ((nI 1), w2, w3, w4, w5, w6, w7, w8, w9, w10, w11, out_val)) else (if k13 = 2 then (some ((nI 2), w2, w3, w4, w5, w6, w7, w8, w9, w10, w11, out_val)) else (if k13 = 3 then (some ((nI 3), w2, w3, w4, w5, w6, w7, w8, w9, w10, w11, out_val)) else none)))))
set_option maxHeartbeats 4000000 in
set_option maxRecDepth 100000 in
theorem mL_play (l : Launch) (hlt : l.stackTraces = false) (E : PE) (X : PX) (L : LX) (a_top : Nat → Nat) (a_desk : Nat → Nat) (a_mix : Nat → Nat) (a_forest : Nat → Nat) (a_before : Nat → Nat) (a_hist : Nat → Nat) (a_out : Nat → Nat) (r_top_saved : Nat) (r_top_walk : Nat) (r_top_input : Nat) (r_top_orders : Nat) (r_top_written : Nat) (x1 : Int32) (x2 : Int32) (top_isSaved : Int32) (top_wrongPosition : Int32) (desk_reason : Int32) (desk_detail : Int32) (mix_row : AI) (mix_conflictCount : Int32) (mix_lowest : Int32) (φ_forest : Fo) (φ_before : Fo) (hist_rows : (Nat → Fo)) (hist_next : Int32) (hist_count : Int32) (out_val : (Nat → Int64)) (r : Int32) (z_desk_reason : Int32) (z_desk_detail : Int32) (z_mix_row : AI) (z_mix_conflictCount : Int32) (z_mix_lowest : Int32) (z_forest_φ : Fo) (z_before_φ : Fo) (z_hist_rows : (Nat → Fo)) (z_hist_next : Int32) (z_hist_count : Int32) (z_out_val : (Nat → Int64)) (h : fL_play x1 x2 desk_reason desk_detail mix_row mix_conflictCount mix_lowest φ_forest φ_before hist_rows hist_next hist_count out_val = some (r, z_desk_reason, z_desk_detail, z_mix_row, z_mix_conflictCount, z_mix_lowest, z_forest_φ, z_before_φ, z_hist_rows, z_hist_next, z_hist_count, z_out_val)) : ML l yL_play cL_play 5 [(0, 10, 13, 13), (0, 10, 17, 15), (0, 10, 21, 17)] { frames := 8, cells := 1, slots := 6, locals := 147 } E X L [.ref (a_top 0), .int x1, .int x2, .ref (a_out 0)] ([gX8 E a_top (a_forest 0) (a_before 0) r_top_saved top_isSaved (a_hist 0) (a_desk 0) r_top_walk r_top_input r_top_orders r_top_written top_wrongPosition, gX0 E a_desk (a_forest 0) (a_mix 0) desk_reason desk_detail, gX5 E a_mix mix_row mix_conflictCount mix_lowest, gX1 E a_forest φ_forest, gX1 E a_before φ_before, gX2 E a_hist hist_rows hist_next hist_count, gLO L (a_out 0) out_val] : List va_W).flatten 1 6 (some (.int r)) ([gX8 E a_top (a_forest 0) (a_before 0) r_top_saved top_isSaved (a_hist 0) (a_desk 0) r_top_walk r_top_input r_top_orders r_top_written top_wrongPosition, gX0 E a_desk (a_forest 0) (a_mix 0) z_desk_reason z_desk_detail, gX5 E a_mix z_mix_row z_mix_conflictCount z_mix_lowest, gX1 E a_forest z_forest_φ, gX1 E a_before z_before_φ, gX2 E a_hist z_hist_rows z_hist_next z_hist_count, gLO L (a_out 0) z_out_val] : List va_W).flatten := by
  refine px_startL (by decide +kernel) (Nat.le_of_ble_eq_true rfl) ?_
  intro p e s m args below meth c R Q A ls hC hX hL hA0 hQ ht
  obtain ⟨hx, hb, hr, hml, hts, hown, hlocks, hR, hK, hN, hP, hD, hA, hl, hin⟩ := hC
  have hl : lv_has ls 5 [(0, .ref (a_top 0)), (1, .int x1), (2, .int x2), (3, .ref (a_out 0))] := hl
  suffices key : ∀ (H : Heap) (locs : List Loc), va_P E.1 vwCl ([gX8 E a_top (a_forest 0) (a_before 0) r_top_saved top_isSaved (a_hist 0) (a_desk 0) r_top_walk r_top_input r_top_orders r_top_written top_wrongPosition, gX0 E a_desk (a_forest 0) (a_mix 0) desk_reason desk_detail, gX5 E a_mix mix_row mix_conflictCount mix_lowest, gX1 E a_forest φ_forest, gX1 E a_before φ_before, gX2 E a_hist hist_rows hist_next hist_count, gLO L (a_out 0) out_val] : List va_W).flatten H → va_S A s.heap H locs → W p l e R s m args below meth c H locs 0 0 Q (F0 m 0 ls []) from key s.heap [] hP va_S.rf
  unfold fL_play at h
  intro H locs hP hS
  refine lv_aload_n hx hb dL_play_0 rfl (lv_at hl 3 rfl) ?_
  refine lv_iconst (v := (nI 0)) hx hb dL_play_1 (by decide) ?_
  refine lv_aload_n hx hb dL_play_2 rfl (lv_at hl 0 rfl) ?_
  refine lv_iload_n hx hb dL_play_3 rfl (lv_at hl 1 rfl) ?_
  refine lv_iload_n hx hb dL_play_4 rfl (lv_at hl 2 rfl) ?_
  obtain ⟨⟨k13, r1, w2, w3, w4, w5, w6, w7, w8, w9, w10, w11⟩, hr12, h⟩ := ob h
  dsimp only at h
  refine px_VT (As := [.int x1, .int x2]) (rest := [.int (nI 0), .ref (a_out 0)]) (gs := ([gX8 E a_top (a_forest 0) (a_before 0) r_top_saved top_isSaved (a_hist 0) (a_desk 0) r_top_walk r_top_input r_top_orders r_top_written top_wrongPosition, gX0 E a_desk (a_forest 0) (a_mix 0) desk_reason desk_detail, gX5 E a_mix mix_row mix_conflictCount mix_lowest, gX1 E a_forest φ_forest, gX1 E a_before φ_before, gX2 E a_hist hist_rows hist_next hist_count, gLO L (a_out 0) out_val] : List va_W)) (gr := ([gLO L (a_out 0) out_val] : List va_W)) (gc := ([gX8 E a_top (a_forest 0) (a_before 0) r_top_saved top_isSaved (a_hist 0) (a_desk 0) r_top_walk r_top_input r_top_orders r_top_written top_wrongPosition, gX0 E a_desk (a_forest 0) (a_mix 0) desk_reason desk_detail, gX5 E a_mix mix_row mix_conflictCount mix_lowest, gX1 E a_forest φ_forest, gX1 E a_before φ_before, gX2 E a_hist hist_rows hist_next hist_count] : List va_W)) (g1 := ([gX8 E a_top (a_forest 0) (a_before 0) r_top_saved top_isSaved (a_hist 0) (a_desk 0) r_top_walk r_top_input r_top_orders r_top_written top_wrongPosition, gX0 E a_desk (a_forest 0) (a_mix 0) w2 w3, gX5 E a_mix w4 w5 w6, gX1 E a_forest w7, gX1 E a_before w8, gX2 E a_hist w9 w10 w11] : List va_W)) (g2 := ([gX8 E a_top (a_forest 0) (a_before 0) r_top_saved top_isSaved (a_hist 0) (a_desk 0) r_top_walk r_top_input r_top_orders r_top_written top_wrongPosition, gX0 E a_desk (a_forest 0) (a_mix 0) w2 w3, gX5 E a_mix w4 w5 w6, gX1 E a_forest w7, gX1 E a_before w8, gX2 E a_hist w9 w10 w11, gLO L (a_out 0) out_val] : List va_W)) ⟨hx, hb, hml, hown, hts⟩ (c8_play l hlt E X a_top a_desk a_mix a_forest a_before a_hist r_top_saved r_top_walk r_top_input r_top_orders r_top_written (x1) (x2) (top_isSaved) (top_wrongPosition) (desk_reason) (desk_detail) (mix_row) (mix_conflictCount) (mix_lowest) (φ_forest) (φ_before) (hist_rows) (hist_next) (hist_count) k13 r1 w2 w3 w4 w5 w6 w7 w8 w9 w10 w11 hr12) (cwV 2 hts (ws_v q927 q928 q929 q59 q930) rfl rfl rfl hdV_X8_play (by rw [hR]; exact ⟨Nat.le_of_ble_eq_true rfl, Nat.le_of_ble_eq_true rfl⟩)) hK hN hX hP hD hS hA [6] [0, 1, 2, 3, 4, 5] [1, 2, 3, 4, 5, 6, 0] rfl rfl (by decide) (by decide) rfl (by decide) 0 8 rfl rfl rfl rfl hl.1 rfl (Nat.le_of_ble_eq_true rfl) dL_play_5 (by rw [hR]; exact ⟨Nat.le_of_ble_eq_true rfl, Nat.le_of_ble_eq_true rfl⟩) (fun hk q9 ce H locs hP hD hS hc1 hc2 hc3 => ?_) (fun hk H locs hP hD hS => ?_)
  · rw [if_neg hk] at h
    by_cases c14 : k13 = 1
    · rw [if_pos c14] at h
      subst c14
      refine vx_catch (own := RL) (name := "java/lang/IndexOutOfBoundsException") (E := exn 1) hown [] ⟨0, 10, 13, 13⟩ [⟨0, 10, 17, 15⟩, ⟨0, 10, 21, 17⟩] (by rw [ht]; rfl) (fun z hz => absurd hz List.not_mem_nil) rfl (by decide) (hts _ q388) (va_Nw.use rfl (hX.2.2.2.2.2.2.1 (exn 1, exn 1) (by decide +kernel))) hc1 hc2 hc3 ?_
      refine lv_astore (lv' := [(4, .ref q9), (0, .ref (a_top 0)), (1, .int x1), (2, .int x2), (3, .ref (a_out 0))]) hx hb dL_play_13 hl (by decide) rfl (fun ls hl => ?_)
      refine lv_iconst (v := (nI 1)) hx hb dL_play_15 (by decide) ?_
      cases h
      exact px_eWi hA0 hQ hP hD hS hx hb hr hlocks dL_play_16
    · rw [if_neg c14] at h
      by_cases c15 : k13 = 2
      · rw [if_pos c15] at h
        subst c15
        refine vx_catch (own := RL) (name := "java/lang/IllegalArgumentException") (E := exn 2) hown [⟨0, 10, 13, 13⟩] ⟨0, 10, 17, 15⟩ [⟨0, 10, 21, 17⟩] (by rw [ht]; rfl) (List.forall_mem_cons.mpr ⟨Or.inr ⟨by decide, "java/lang/IndexOutOfBoundsException", hts _ q388, hL.2 2 1 (by decide) (by decide) (by decide) (by decide) (by decide)⟩, (fun z hz => absurd hz List.not_mem_nil)⟩) rfl (by decide) (hts _ q389) (va_Nw.use rfl (hX.2.2.2.2.2.2.1 (exn 2, exn 2) (by decide +kernel))) hc1 hc2 hc3 ?_
        refine lv_astore (lv' := [(4, .ref q9), (0, .ref (a_top 0)), (1, .int x1), (2, .int x2), (3, .ref (a_out 0))]) hx hb dL_play_17 hl (by decide) rfl (fun ls hl => ?_)
        refine lv_iconst (v := (nI 2)) hx hb dL_play_19 (by decide) ?_
        cases h
        exact px_eWi hA0 hQ hP hD hS hx hb hr hlocks dL_play_20
      · rw [if_neg c15] at h
        by_cases c16 : k13 = 3
        · rw [if_pos c16] at h
          subst c16
          refine vx_catch (own := RL) (name := "java/lang/UnsupportedOperationException") (E := exn 3) hown [⟨0, 10, 13, 13⟩, ⟨0, 10, 17, 15⟩] ⟨0, 10, 21, 17⟩ [] (by rw [ht]; rfl) (List.forall_mem_cons.mpr ⟨Or.inr ⟨by decide, "java/lang/IndexOutOfBoundsException", hts _ q388, hL.2 3 1 (by decide) (by decide) (by decide) (by decide) (by decide)⟩, (List.forall_mem_cons.mpr ⟨Or.inr ⟨by decide, "java/lang/IllegalArgumentException", hts _ q389, hL.2 3 2 (by decide) (by decide) (by decide) (by decide) (by decide)⟩, (fun z hz => absurd hz List.not_mem_nil)⟩)⟩) rfl (by decide) (hts _ q390) (va_Nw.use rfl (hX.2.2.2.2.2.2.1 (exn 3, exn 3) (by decide +kernel))) hc1 hc2 hc3 ?_
          refine lv_astore (lv' := [(4, .ref q9), (0, .ref (a_top 0)), (1, .int x1), (2, .int x2), (3, .ref (a_out 0))]) hx hb dL_play_21 hl (by decide) rfl (fun ls hl => ?_)
          refine lv_iconst (v := (nI 3)) hx hb dL_play_23 (by decide) ?_
          cases h
          exact px_eWi hA0 hQ hP hD hS hx hb hr hlocks dL_play_24
        · rw [if_neg c16] at h
          cases h
  rw [if_pos hk] at h
  refine W.eq (g2 := F0 m 8 ls [.int r1, .int (nI 0), .ref (a_out 0)]) rfl ?_
  refine lv_i2l (v := (r1).toInt64) hx hb dL_play_8 rfl ?_
  refine va_last (f := out_val) hx hb hL.1 hP hD hS 96 3 rfl rfl (inb_in (i := (nI 0)) (n := 1) (by decide)) dL_play_9 (fun H locs hP hD hS => ?_)
  have hP : va_P E.1 vwCl ([gX8 E a_top (a_forest 0) (a_before 0) r_top_saved top_isSaved (a_hist 0) (a_desk 0) r_top_walk r_top_input r_top_orders r_top_written top_wrongPosition, gX0 E a_desk (a_forest 0) (a_mix 0) w2 w3, gX5 E a_mix w4 w5 w6, gX1 E a_forest w7, gX1 E a_before w8, gX2 E a_hist w9 w10 w11, gLO L (a_out 0) (vp_updL out_val ((nI 0)).toNatClampNeg ((r1).toInt64))] : List va_W).flatten H := hP
  have hD : va_D A ([gX8 E a_top (a_forest 0) (a_before 0) r_top_saved top_isSaved (a_hist 0) (a_desk 0) r_top_walk r_top_input r_top_orders r_top_written top_wrongPosition, gX0 E a_desk (a_forest 0) (a_mix 0) w2 w3, gX5 E a_mix w4 w5 w6, gX1 E a_forest w7, gX1 E a_before w8, gX2 E a_hist w9 w10 w11, gLO L (a_out 0) (vp_updL out_val ((nI 0)).toNatClampNeg ((r1).toInt64))] : List va_W).flatten := hD
  refine lv_goto (tgt := 25) hx hb dL_play_10 (by decide) ?_
  refine lv_iconst (v := (nI 0)) hx hb dL_play_25 (by decide) ?_
  cases h
  exact px_eWi hA0 hQ hP hD hS hx hb hr hlocks dL_play_26
def fL_line (x1 : Int32) (φ_forest : Fo) (lin_signs : AI) (lin_length : Int32) (out_val : (Nat → Int64)) : Option (Int32 × AI × Int32 × (Nat → Int64)) := ((f8_line (x1) (φ_forest) (lin_signs) (lin_length)).bind fun (k5, r1, w2, w3) => (if k5 = 0 then (some ((nI 0), w2, w3, (vp_updL out_val ((nI 0)).toNatClampNeg ((r1).toInt64)))) else (if k5 = 1 then (some ((nI 1), w2, w3, out_val)) else none)))
set_option maxHeartbeats 4000000 in
set_option maxRecDepth 100000 in
theorem mL_line (l : Launch) (hlt : l.stackTraces = false) (E : PE) (X : PX) (L : LX) (a_top : Nat → Nat) (a_forest : Nat → Nat) (a_lin : Nat → Nat) (a_out : Nat → Nat) (r_top_before : Nat) (r_top_saved : Nat) (r_top_history : Nat) (r_top_desk : Nat) (r_top_walk : Nat) (r_top_input : Nat) (r_top_orders : Nat) (x1 : Int32) (top_isSaved : Int32) (top_wrongPosition : Int32) (φ_forest : Fo) (lin_signs : AI) (lin_length : Int32) (out_val : (Nat → Int64)) (r : Int32) (z_lin_signs : AI) (z_lin_length : Int32) (z_out_val : (Nat → Int64)) (h : fL_line x1 φ_forest lin_signs lin_length out_val = some (r, z_lin_signs, z_lin_length, z_out_val)) : ML l yL_line cL_line 4 [(0, 9, 12, 13)] { frames := 8, cells := 1, slots := 6, locals := 132 } E X L [.ref (a_top 0), .int x1, .ref (a_out 0)] ([gX8 E a_top (a_forest 0) r_top_before r_top_saved top_isSaved r_top_history r_top_desk r_top_walk r_top_input r_top_orders (a_lin 0) top_wrongPosition, gX1 E a_forest φ_forest, gX4 E a_lin lin_signs lin_length, gLO L (a_out 0) out_val] : List va_W).flatten 1 6 (some (.int r)) ([gX8 E a_top (a_forest 0) r_top_before r_top_saved top_isSaved r_top_history r_top_desk r_top_walk r_top_input r_top_orders (a_lin 0) top_wrongPosition, gX1 E a_forest φ_forest, gX4 E a_lin z_lin_signs z_lin_length, gLO L (a_out 0) z_out_val] : List va_W).flatten := by
  refine px_startL (by decide +kernel) (Nat.le_of_ble_eq_true rfl) ?_
  intro p e s m args below meth c R Q A ls hC hX hL hA0 hQ ht
  obtain ⟨hx, hb, hr, hml, hts, hown, hlocks, hR, hK, hN, hP, hD, hA, hl, hin⟩ := hC
  have hl : lv_has ls 4 [(0, .ref (a_top 0)), (1, .int x1), (2, .ref (a_out 0))] := hl
  suffices key : ∀ (H : Heap) (locs : List Loc), va_P E.1 vwCl ([gX8 E a_top (a_forest 0) r_top_before r_top_saved top_isSaved r_top_history r_top_desk r_top_walk r_top_input r_top_orders (a_lin 0) top_wrongPosition, gX1 E a_forest φ_forest, gX4 E a_lin lin_signs lin_length, gLO L (a_out 0) out_val] : List va_W).flatten H → va_S A s.heap H locs → W p l e R s m args below meth c H locs 0 0 Q (F0 m 0 ls []) from key s.heap [] hP va_S.rf
  unfold fL_line at h
  intro H locs hP hS
  refine lv_aload_n hx hb dL_line_0 rfl (lv_at hl 2 rfl) ?_
  refine lv_iconst (v := (nI 0)) hx hb dL_line_1 (by decide) ?_
  refine lv_aload_n hx hb dL_line_2 rfl (lv_at hl 0 rfl) ?_
  refine lv_iload_n hx hb dL_line_3 rfl (lv_at hl 1 rfl) ?_
  obtain ⟨⟨k5, r1, w2, w3⟩, hr4, h⟩ := ob h
  dsimp only at h
  refine px_VT (As := [.int x1]) (rest := [.int (nI 0), .ref (a_out 0)]) (gs := ([gX8 E a_top (a_forest 0) r_top_before r_top_saved top_isSaved r_top_history r_top_desk r_top_walk r_top_input r_top_orders (a_lin 0) top_wrongPosition, gX1 E a_forest φ_forest, gX4 E a_lin lin_signs lin_length, gLO L (a_out 0) out_val] : List va_W)) (gr := ([gLO L (a_out 0) out_val] : List va_W)) (gc := ([gX8 E a_top (a_forest 0) r_top_before r_top_saved top_isSaved r_top_history r_top_desk r_top_walk r_top_input r_top_orders (a_lin 0) top_wrongPosition, gX1 E a_forest φ_forest, gX4 E a_lin lin_signs lin_length] : List va_W)) (g1 := ([gX8 E a_top (a_forest 0) r_top_before r_top_saved top_isSaved r_top_history r_top_desk r_top_walk r_top_input r_top_orders (a_lin 0) top_wrongPosition, gX1 E a_forest φ_forest, gX4 E a_lin w2 w3] : List va_W)) (g2 := ([gX8 E a_top (a_forest 0) r_top_before r_top_saved top_isSaved r_top_history r_top_desk r_top_walk r_top_input r_top_orders (a_lin 0) top_wrongPosition, gX1 E a_forest φ_forest, gX4 E a_lin w2 w3, gLO L (a_out 0) out_val] : List va_W)) ⟨hx, hb, hml, hown, hts⟩ (c8_line l hlt E X a_top a_forest a_lin r_top_before r_top_saved r_top_history r_top_desk r_top_walk r_top_input r_top_orders (x1) (top_isSaved) (top_wrongPosition) (φ_forest) (lin_signs) (lin_length) k5 r1 w2 w3 hr4) (cwV 1 hts (ws_v q940 q941 q942 q59 q943) rfl rfl rfl hdV_X8_line (by rw [hR]; exact ⟨Nat.le_of_ble_eq_true rfl, Nat.le_of_ble_eq_true rfl⟩)) hK hN hX hP hD hS hA [3] [0, 1, 2] [1, 2, 3, 0] rfl rfl (by decide) (by decide) rfl (by decide) 0 8 rfl rfl rfl rfl hl.1 rfl (Nat.le_of_ble_eq_true rfl) dL_line_4 (by rw [hR]; exact ⟨Nat.le_of_ble_eq_true rfl, Nat.le_of_ble_eq_true rfl⟩) (fun hk q9 ce H locs hP hD hS hc1 hc2 hc3 => ?_) (fun hk H locs hP hD hS => ?_)
  · rw [if_neg hk] at h
    by_cases c6 : k5 = 1
    · rw [if_pos c6] at h
      subst c6
      refine vx_catch (own := RL) (name := "java/lang/IndexOutOfBoundsException") (E := exn 1) hown [] ⟨0, 9, 12, 13⟩ [] (by rw [ht]; rfl) (fun z hz => absurd hz List.not_mem_nil) rfl (by decide) (hts _ q388) (va_Nw.use rfl (hX.2.2.2.2.2.2.1 (exn 1, exn 1) (by decide +kernel))) hc1 hc2 hc3 ?_
      refine lv_astore_n (lv' := [(3, .ref q9), (0, .ref (a_top 0)), (1, .int x1), (2, .ref (a_out 0))]) hx hb dL_line_12 rfl hl (by decide) rfl (fun ls hl => ?_)
      refine lv_iconst (v := (nI 1)) hx hb dL_line_13 (by decide) ?_
      cases h
      exact px_eWi hA0 hQ hP hD hS hx hb hr hlocks dL_line_14
    · rw [if_neg c6] at h
      cases h
  rw [if_pos hk] at h
  refine W.eq (g2 := F0 m 7 ls [.int r1, .int (nI 0), .ref (a_out 0)]) rfl ?_
  refine lv_i2l (v := (r1).toInt64) hx hb dL_line_7 rfl ?_
  refine va_last (f := out_val) hx hb hL.1 hP hD hS 12 3 rfl rfl (inb_in (i := (nI 0)) (n := 1) (by decide)) dL_line_8 (fun H locs hP hD hS => ?_)
  have hP : va_P E.1 vwCl ([gX8 E a_top (a_forest 0) r_top_before r_top_saved top_isSaved r_top_history r_top_desk r_top_walk r_top_input r_top_orders (a_lin 0) top_wrongPosition, gX1 E a_forest φ_forest, gX4 E a_lin w2 w3, gLO L (a_out 0) (vp_updL out_val ((nI 0)).toNatClampNeg ((r1).toInt64))] : List va_W).flatten H := hP
  have hD : va_D A ([gX8 E a_top (a_forest 0) r_top_before r_top_saved top_isSaved r_top_history r_top_desk r_top_walk r_top_input r_top_orders (a_lin 0) top_wrongPosition, gX1 E a_forest φ_forest, gX4 E a_lin w2 w3, gLO L (a_out 0) (vp_updL out_val ((nI 0)).toNatClampNeg ((r1).toInt64))] : List va_W).flatten := hD
  refine lv_goto (tgt := 15) hx hb dL_line_9 (by decide) ?_
  refine lv_iconst (v := (nI 0)) hx hb dL_line_15 (by decide) ?_
  cases h
  exact px_eWi hA0 hQ hP hD hS hx hb hr hlocks dL_line_16
def fL_character (x1 : Int32) (lin_signs : AI) (lin_length : Int32) (out_val : (Nat → Int64)) : Option (Int32 × (Nat → Int64)) := ((f8_character (x1) (lin_signs) (lin_length)).bind fun (k3, r1) => (if k3 = 0 then (some ((nI 0), (vp_updL out_val ((nI 0)).toNatClampNeg (((ch r1)).toInt64)))) else (if k3 = 1 then (some ((nI 1), out_val)) else none)))
set_option maxHeartbeats 4000000 in
set_option maxRecDepth 100000 in
theorem mL_character (l : Launch) (hlt : l.stackTraces = false) (E : PE) (X : PX) (L : LX) (a_top : Nat → Nat) (a_lin : Nat → Nat) (a_out : Nat → Nat) (r_top_forest : Nat) (r_top_before : Nat) (r_top_saved : Nat) (r_top_history : Nat) (r_top_desk : Nat) (r_top_walk : Nat) (r_top_input : Nat) (r_top_orders : Nat) (x1 : Int32) (top_isSaved : Int32) (top_wrongPosition : Int32) (lin_signs : AI) (lin_length : Int32) (out_val : (Nat → Int64)) (r : Int32) (z_out_val : (Nat → Int64)) (h : fL_character x1 lin_signs lin_length out_val = some (r, z_out_val)) : ML l yL_character cL_character 4 [(0, 9, 12, 13)] { frames := 7, cells := 1, slots := 6, locals := 111 } E X L [.ref (a_top 0), .int x1, .ref (a_out 0)] ([gX8 E a_top r_top_forest r_top_before r_top_saved top_isSaved r_top_history r_top_desk r_top_walk r_top_input r_top_orders (a_lin 0) top_wrongPosition, gX4 E a_lin lin_signs lin_length, gLO L (a_out 0) out_val] : List va_W).flatten 1 6 (some (.int r)) ([gX8 E a_top r_top_forest r_top_before r_top_saved top_isSaved r_top_history r_top_desk r_top_walk r_top_input r_top_orders (a_lin 0) top_wrongPosition, gX4 E a_lin lin_signs lin_length, gLO L (a_out 0) z_out_val] : List va_W).flatten := by
  refine px_startL (by decide +kernel) (Nat.le_of_ble_eq_true rfl) ?_
  intro p e s m args below meth c R Q A ls hC hX hL hA0 hQ ht
  obtain ⟨hx, hb, hr, hml, hts, hown, hlocks, hR, hK, hN, hP, hD, hA, hl, hin⟩ := hC
  have hl : lv_has ls 4 [(0, .ref (a_top 0)), (1, .int x1), (2, .ref (a_out 0))] := hl
  suffices key : ∀ (H : Heap) (locs : List Loc), va_P E.1 vwCl ([gX8 E a_top r_top_forest r_top_before r_top_saved top_isSaved r_top_history r_top_desk r_top_walk r_top_input r_top_orders (a_lin 0) top_wrongPosition, gX4 E a_lin lin_signs lin_length, gLO L (a_out 0) out_val] : List va_W).flatten H → va_S A s.heap H locs → W p l e R s m args below meth c H locs 0 0 Q (F0 m 0 ls []) from key s.heap [] hP va_S.rf
  unfold fL_character at h
  intro H locs hP hS
  refine lv_aload_n hx hb dL_character_0 rfl (lv_at hl 2 rfl) ?_
  refine lv_iconst (v := (nI 0)) hx hb dL_character_1 (by decide) ?_
  refine lv_aload_n hx hb dL_character_2 rfl (lv_at hl 0 rfl) ?_
  refine lv_iload_n hx hb dL_character_3 rfl (lv_at hl 1 rfl) ?_
  obtain ⟨⟨k3, r1⟩, hr2, h⟩ := ob h
  dsimp only at h
  refine px_VT (As := [.int x1]) (rest := [.int (nI 0), .ref (a_out 0)]) (gs := ([gX8 E a_top r_top_forest r_top_before r_top_saved top_isSaved r_top_history r_top_desk r_top_walk r_top_input r_top_orders (a_lin 0) top_wrongPosition, gX4 E a_lin lin_signs lin_length, gLO L (a_out 0) out_val] : List va_W)) (gr := ([gLO L (a_out 0) out_val] : List va_W)) (gc := ([gX8 E a_top r_top_forest r_top_before r_top_saved top_isSaved r_top_history r_top_desk r_top_walk r_top_input r_top_orders (a_lin 0) top_wrongPosition, gX4 E a_lin lin_signs lin_length] : List va_W)) (g1 := ([gX8 E a_top r_top_forest r_top_before r_top_saved top_isSaved r_top_history r_top_desk r_top_walk r_top_input r_top_orders (a_lin 0) top_wrongPosition, gX4 E a_lin lin_signs lin_length] : List va_W)) (g2 := ([gX8 E a_top r_top_forest r_top_before r_top_saved top_isSaved r_top_history r_top_desk r_top_walk r_top_input r_top_orders (a_lin 0) top_wrongPosition, gX4 E a_lin lin_signs lin_length, gLO L (a_out 0) out_val] : List va_W)) ⟨hx, hb, hml, hown, hts⟩ (c8_character l hlt E X a_top a_lin r_top_forest r_top_before r_top_saved r_top_history r_top_desk r_top_walk r_top_input r_top_orders (x1) (top_isSaved) (top_wrongPosition) (lin_signs) (lin_length) k3 r1 hr2) (cwV 1 hts (ws_v q964 q965 q966 q59 q967) rfl rfl rfl hdV_X8_character (by rw [hR]; exact ⟨Nat.le_of_ble_eq_true rfl, Nat.le_of_ble_eq_true rfl⟩)) hK hN hX hP hD hS hA [2] [0, 1] [1, 2, 0] rfl rfl (by decide) (by decide) rfl (by decide) 0 8 rfl rfl rfl rfl hl.1 rfl (Nat.le_of_ble_eq_true rfl) dL_character_4 (by rw [hR]; exact ⟨Nat.le_of_ble_eq_true rfl, Nat.le_of_ble_eq_true rfl⟩) (fun hk q9 ce H locs hP hD hS hc1 hc2 hc3 => ?_) (fun hk H locs hP hD hS => ?_)
  · rw [if_neg hk] at h
    by_cases c4 : k3 = 1
    · rw [if_pos c4] at h
      subst c4
      refine vx_catch (own := RL) (name := "java/lang/IndexOutOfBoundsException") (E := exn 1) hown [] ⟨0, 9, 12, 13⟩ [] (by rw [ht]; rfl) (fun z hz => absurd hz List.not_mem_nil) rfl (by decide) (hts _ q388) (va_Nw.use rfl (hX.2.2.2.2.2.2.1 (exn 1, exn 1) (by decide +kernel))) hc1 hc2 hc3 ?_
      refine lv_astore_n (lv' := [(3, .ref q9), (0, .ref (a_top 0)), (1, .int x1), (2, .ref (a_out 0))]) hx hb dL_character_12 rfl hl (by decide) rfl (fun ls hl => ?_)
      refine lv_iconst (v := (nI 1)) hx hb dL_character_13 (by decide) ?_
      cases h
      exact px_eWi hA0 hQ hP hD hS hx hb hr hlocks dL_character_14
    · rw [if_neg c4] at h
      cases h
  rw [if_pos hk] at h
  refine W.eq (g2 := F0 m 7 ls [.int (ch r1), .int (nI 0), .ref (a_out 0)]) rfl ?_
  refine lv_i2l (v := ((ch r1)).toInt64) hx hb dL_character_7 rfl ?_
  refine va_last (f := out_val) hx hb hL.1 hP hD hS 3 3 rfl rfl (inb_in (i := (nI 0)) (n := 1) (by decide)) dL_character_8 (fun H locs hP hD hS => ?_)
  have hP : va_P E.1 vwCl ([gX8 E a_top r_top_forest r_top_before r_top_saved top_isSaved r_top_history r_top_desk r_top_walk r_top_input r_top_orders (a_lin 0) top_wrongPosition, gX4 E a_lin lin_signs lin_length, gLO L (a_out 0) (vp_updL out_val ((nI 0)).toNatClampNeg (((ch r1)).toInt64))] : List va_W).flatten H := hP
  have hD : va_D A ([gX8 E a_top r_top_forest r_top_before r_top_saved top_isSaved r_top_history r_top_desk r_top_walk r_top_input r_top_orders (a_lin 0) top_wrongPosition, gX4 E a_lin lin_signs lin_length, gLO L (a_out 0) (vp_updL out_val ((nI 0)).toNatClampNeg (((ch r1)).toInt64))] : List va_W).flatten := hD
  refine lv_goto (tgt := 15) hx hb dL_character_9 (by decide) ?_
  refine lv_iconst (v := (nI 0)) hx hb dL_character_15 (by decide) ?_
  cases h
  exact px_eWi hA0 hQ hP hD hS hx hb hr hlocks dL_character_16
def fL_append (x1 : Int32) (inp_signs : AI) (inp_length : Int32) (out_val : (Nat → Int64)) : Option (Int32 × AI × Int32 × (Nat → Int64)) := ((f8_append (x1) (inp_signs) (inp_length)).bind fun (k5, r1, w2, w3) => (if k5 = 0 then (some ((nI 0), w2, w3, (vp_updL out_val ((nI 0)).toNatClampNeg ((r1).toInt64)))) else (if k5 = 5 then (some ((nI 1), w2, w3, out_val)) else none)))
set_option maxHeartbeats 4000000 in
set_option maxRecDepth 100000 in
theorem mL_append (l : Launch) (hlt : l.stackTraces = false) (E : PE) (X : PX) (L : LX) (a_top : Nat → Nat) (a_inp : Nat → Nat) (a_out : Nat → Nat) (r_top_forest : Nat) (r_top_before : Nat) (r_top_saved : Nat) (r_top_history : Nat) (r_top_desk : Nat) (r_top_walk : Nat) (r_top_orders : Nat) (r_top_written : Nat) (x1 : Int32) (top_isSaved : Int32) (top_wrongPosition : Int32) (inp_signs : AI) (inp_length : Int32) (out_val : (Nat → Int64)) (r : Int32) (z_inp_signs : AI) (z_inp_length : Int32) (z_out_val : (Nat → Int64)) (h : fL_append x1 inp_signs inp_length out_val = some (r, z_inp_signs, z_inp_length, z_out_val)) : ML l yL_append cL_append 4 [(0, 9, 12, 109)] { frames := 7, cells := 1, slots := 6, locals := 111 } E X L [.ref (a_top 0), .int (ch x1), .ref (a_out 0)] ([gX8 E a_top r_top_forest r_top_before r_top_saved top_isSaved r_top_history r_top_desk r_top_walk (a_inp 0) r_top_orders r_top_written top_wrongPosition, gX3 E a_inp inp_signs inp_length, gLO L (a_out 0) out_val] : List va_W).flatten 1 6 (some (.int r)) ([gX8 E a_top r_top_forest r_top_before r_top_saved top_isSaved r_top_history r_top_desk r_top_walk (a_inp 0) r_top_orders r_top_written top_wrongPosition, gX3 E a_inp z_inp_signs z_inp_length, gLO L (a_out 0) z_out_val] : List va_W).flatten := by
  refine px_startL (by decide +kernel) (Nat.le_of_ble_eq_true rfl) ?_
  intro p e s m args below meth c R Q A ls hC hX hL hA0 hQ ht
  obtain ⟨hx, hb, hr, hml, hts, hown, hlocks, hR, hK, hN, hP, hD, hA, hl, hin⟩ := hC
  have hl : lv_has ls 4 [(0, .ref (a_top 0)), (1, .int (ch x1)), (2, .ref (a_out 0))] := hl
  suffices key : ∀ (H : Heap) (locs : List Loc), va_P E.1 vwCl ([gX8 E a_top r_top_forest r_top_before r_top_saved top_isSaved r_top_history r_top_desk r_top_walk (a_inp 0) r_top_orders r_top_written top_wrongPosition, gX3 E a_inp inp_signs inp_length, gLO L (a_out 0) out_val] : List va_W).flatten H → va_S A s.heap H locs → W p l e R s m args below meth c H locs 0 0 Q (F0 m 0 ls []) from key s.heap [] hP va_S.rf
  unfold fL_append at h
  intro H locs hP hS
  refine lv_aload_n hx hb dL_append_0 rfl (lv_at hl 2 rfl) ?_
  refine lv_iconst (v := (nI 0)) hx hb dL_append_1 (by decide) ?_
  refine lv_aload_n hx hb dL_append_2 rfl (lv_at hl 0 rfl) ?_
  refine lv_iload_n hx hb dL_append_3 rfl (lv_at hl 1 rfl) ?_
  obtain ⟨⟨k5, r1, w2, w3⟩, hr4, h⟩ := ob h
  dsimp only at h
  refine px_VT (As := [.int (ch x1)]) (rest := [.int (nI 0), .ref (a_out 0)]) (gs := ([gX8 E a_top r_top_forest r_top_before r_top_saved top_isSaved r_top_history r_top_desk r_top_walk (a_inp 0) r_top_orders r_top_written top_wrongPosition, gX3 E a_inp inp_signs inp_length, gLO L (a_out 0) out_val] : List va_W)) (gr := ([gLO L (a_out 0) out_val] : List va_W)) (gc := ([gX8 E a_top r_top_forest r_top_before r_top_saved top_isSaved r_top_history r_top_desk r_top_walk (a_inp 0) r_top_orders r_top_written top_wrongPosition, gX3 E a_inp inp_signs inp_length] : List va_W)) (g1 := ([gX8 E a_top r_top_forest r_top_before r_top_saved top_isSaved r_top_history r_top_desk r_top_walk (a_inp 0) r_top_orders r_top_written top_wrongPosition, gX3 E a_inp w2 w3] : List va_W)) (g2 := ([gX8 E a_top r_top_forest r_top_before r_top_saved top_isSaved r_top_history r_top_desk r_top_walk (a_inp 0) r_top_orders r_top_written top_wrongPosition, gX3 E a_inp w2 w3, gLO L (a_out 0) out_val] : List va_W)) ⟨hx, hb, hml, hown, hts⟩ (c8_append l hlt E X a_top a_inp r_top_forest r_top_before r_top_saved r_top_history r_top_desk r_top_walk r_top_orders r_top_written (x1) (top_isSaved) (top_wrongPosition) (inp_signs) (inp_length) k5 r1 w2 w3 hr4) (cwV 1 hts (ws_v q982 q983 q984 q59 q985) rfl rfl rfl hdV_X8_append (by rw [hR]; exact ⟨Nat.le_of_ble_eq_true rfl, Nat.le_of_ble_eq_true rfl⟩)) hK hN hX hP hD hS hA [2] [0, 1] [1, 2, 0] rfl rfl (by decide) (by decide) rfl (by decide) 0 8 rfl rfl rfl rfl hl.1 rfl (Nat.le_of_ble_eq_true rfl) dL_append_4 (by rw [hR]; exact ⟨Nat.le_of_ble_eq_true rfl, Nat.le_of_ble_eq_true rfl⟩) (fun hk q9 ce H locs hP hD hS hc1 hc2 hc3 => ?_) (fun hk H locs hP hD hS => ?_)
  · rw [if_neg hk] at h
    by_cases c6 : k5 = 5
    · rw [if_pos c6] at h
      subst c6
      refine vx_catch (own := RL) (name := "java/lang/IllegalStateException") (E := exn 5) hown [] ⟨0, 9, 12, 109⟩ [] (by rw [ht]; rfl) (fun z hz => absurd hz List.not_mem_nil) rfl (by decide) (hts _ q981) (va_Nw.use rfl (hX.2.2.2.2.2.2.1 (exn 5, exn 5) (by decide +kernel))) hc1 hc2 hc3 ?_
      refine lv_astore_n (lv' := [(3, .ref q9), (0, .ref (a_top 0)), (1, .int (ch x1)), (2, .ref (a_out 0))]) hx hb dL_append_12 rfl hl (by decide) rfl (fun ls hl => ?_)
      refine lv_iconst (v := (nI 1)) hx hb dL_append_13 (by decide) ?_
      cases h
      exact px_eWi hA0 hQ hP hD hS hx hb hr hlocks dL_append_14
    · rw [if_neg c6] at h
      cases h
  rw [if_pos hk] at h
  refine W.eq (g2 := F0 m 7 ls [.int r1, .int (nI 0), .ref (a_out 0)]) rfl ?_
  refine lv_i2l (v := (r1).toInt64) hx hb dL_append_7 rfl ?_
  refine va_last (f := out_val) hx hb hL.1 hP hD hS 3 3 rfl rfl (inb_in (i := (nI 0)) (n := 1) (by decide)) dL_append_8 (fun H locs hP hD hS => ?_)
  have hP : va_P E.1 vwCl ([gX8 E a_top r_top_forest r_top_before r_top_saved top_isSaved r_top_history r_top_desk r_top_walk (a_inp 0) r_top_orders r_top_written top_wrongPosition, gX3 E a_inp w2 w3, gLO L (a_out 0) (vp_updL out_val ((nI 0)).toNatClampNeg ((r1).toInt64))] : List va_W).flatten H := hP
  have hD : va_D A ([gX8 E a_top r_top_forest r_top_before r_top_saved top_isSaved r_top_history r_top_desk r_top_walk (a_inp 0) r_top_orders r_top_written top_wrongPosition, gX3 E a_inp w2 w3, gLO L (a_out 0) (vp_updL out_val ((nI 0)).toNatClampNeg ((r1).toInt64))] : List va_W).flatten := hD
  refine lv_goto (tgt := 15) hx hb dL_append_9 (by decide) ?_
  refine lv_iconst (v := (nI 0)) hx hb dL_append_15 (by decide) ?_
  cases h
  exact px_eWi hA0 hQ hP hD hS hx hb hr hlocks dL_append_16
def fL_read  (top_wrongPosition : Int32) (desk_reason : Int32) (desk_detail : Int32) (mix_row : AI) (mix_conflictCount : Int32) (mix_lowest : Int32) (φ_forest : Fo) (φ_before : Fo) (hist_rows : (Nat → Fo)) (hist_next : Int32) (hist_count : Int32) (inp_signs : AI) (inp_length : Int32) (ord_rows : AI) (ord_count : Int32) (ord_position : Int32) (ord_column : Int32) (out_val : (Nat → Int64)) : Option (Int32 × Int32 × Int32 × Int32 × AI × Int32 × Int32 × Fo × Fo × (Nat → Fo) × Int32 × Int32 × Int32 × AI × Int32 × Int32 × Int32 × (Nat → Int64)) := ((f8_read (top_wrongPosition) (desk_reason) (desk_detail) (mix_row) (mix_conflictCount) (mix_lowest) (φ_forest) (φ_before) (hist_rows) (hist_next) (hist_count) (inp_signs) (inp_length) (ord_rows) (ord_count) (ord_position) (ord_column)).bind fun (k19, r1, w2, w3, w4, w5, w6, w7, w8, w9, w10, w11, w12, w13, w14, w15, w16, w17) => (if k19 = 0 then (some ((nI 0), w2, w3, w4, w5, w6, w7, w8, w9, w10, w11, w12, w13, w14, w15, w16, w17, (vp_updL out_val ((nI 0)).toNatClampNeg ((r1).toInt64)))) else (if k19 = 2 then (some ((nI 1), w2, w3, w4, w5, w6, w7, w8, w9, w10, w11, w12, w13, w14, w15, w16, w17, out_val)) else (if k19 = 3 then (some ((nI 2), w2, w3, w4, w5, w6, w7, w8, w9, w10, w11, w12, w13, w14, w15, w16, w17, out_val)) else none))))
set_option maxHeartbeats 4000000 in
set_option maxRecDepth 100000 in
theorem mL_read (l : Launch) (hlt : l.stackTraces = false) (E : PE) (X : PX) (L : LX) (a_top : Nat → Nat) (a_desk : Nat → Nat) (a_mix : Nat → Nat) (a_forest : Nat → Nat) (a_before : Nat → Nat) (a_hist : Nat → Nat) (a_inp : Nat → Nat) (a_ord : Nat → Nat) (a_out : Nat → Nat) (r_top_saved : Nat) (r_top_walk : Nat) (r_top_written : Nat)  (top_isSaved : Int32) (top_wrongPosition : Int32) (desk_reason : Int32) (desk_detail : Int32) (mix_row : AI) (mix_conflictCount : Int32) (mix_lowest : Int32) (φ_forest : Fo) (φ_before : Fo) (hist_rows : (Nat → Fo)) (hist_next : Int32) (hist_count : Int32) (inp_signs : AI) (inp_length : Int32) (ord_rows : AI) (ord_count : Int32) (ord_position : Int32) (ord_column : Int32) (out_val : (Nat → Int64)) (r : Int32) (z_top_wrongPosition : Int32) (z_desk_reason : Int32) (z_desk_detail : Int32) (z_mix_row : AI) (z_mix_conflictCount : Int32) (z_mix_lowest : Int32) (z_forest_φ : Fo) (z_before_φ : Fo) (z_hist_rows : (Nat → Fo)) (z_hist_next : Int32) (z_hist_count : Int32) (z_inp_length : Int32) (z_ord_rows : AI) (z_ord_count : Int32) (z_ord_position : Int32) (z_ord_column : Int32) (z_out_val : (Nat → Int64)) (h : fL_read top_wrongPosition desk_reason desk_detail mix_row mix_conflictCount mix_lowest φ_forest φ_before hist_rows hist_next hist_count inp_signs inp_length ord_rows ord_count ord_position ord_column out_val = some (r, z_top_wrongPosition, z_desk_reason, z_desk_detail, z_mix_row, z_mix_conflictCount, z_mix_lowest, z_forest_φ, z_before_φ, z_hist_rows, z_hist_next, z_hist_count, z_inp_length, z_ord_rows, z_ord_count, z_ord_position, z_ord_column, z_out_val)) : ML l yL_read cL_read 3 [(0, 8, 11, 15), (0, 8, 14, 17)] { frames := 8, cells := 1, slots := 6, locals := 168 } E X L [.ref (a_top 0), .ref (a_out 0)] ([gX8 E a_top (a_forest 0) (a_before 0) r_top_saved top_isSaved (a_hist 0) (a_desk 0) r_top_walk (a_inp 0) (a_ord 0) r_top_written top_wrongPosition, gX0 E a_desk (a_forest 0) (a_mix 0) desk_reason desk_detail, gX5 E a_mix mix_row mix_conflictCount mix_lowest, gX1 E a_forest φ_forest, gX1 E a_before φ_before, gX2 E a_hist hist_rows hist_next hist_count, gX3 E a_inp inp_signs inp_length, gX6 E a_ord ord_rows ord_count ord_position ord_column, gLO L (a_out 0) out_val] : List va_W).flatten 1 6 (some (.int r)) ([gX8 E a_top (a_forest 0) (a_before 0) r_top_saved top_isSaved (a_hist 0) (a_desk 0) r_top_walk (a_inp 0) (a_ord 0) r_top_written z_top_wrongPosition, gX0 E a_desk (a_forest 0) (a_mix 0) z_desk_reason z_desk_detail, gX5 E a_mix z_mix_row z_mix_conflictCount z_mix_lowest, gX1 E a_forest z_forest_φ, gX1 E a_before z_before_φ, gX2 E a_hist z_hist_rows z_hist_next z_hist_count, gX3 E a_inp inp_signs z_inp_length, gX6 E a_ord z_ord_rows z_ord_count z_ord_position z_ord_column, gLO L (a_out 0) z_out_val] : List va_W).flatten := by
  refine px_startL (by decide +kernel) (Nat.le_of_ble_eq_true rfl) ?_
  intro p e s m args below meth c R Q A ls hC hX hL hA0 hQ ht
  obtain ⟨hx, hb, hr, hml, hts, hown, hlocks, hR, hK, hN, hP, hD, hA, hl, hin⟩ := hC
  have hl : lv_has ls 3 [(0, .ref (a_top 0)), (1, .ref (a_out 0))] := hl
  suffices key : ∀ (H : Heap) (locs : List Loc), va_P E.1 vwCl ([gX8 E a_top (a_forest 0) (a_before 0) r_top_saved top_isSaved (a_hist 0) (a_desk 0) r_top_walk (a_inp 0) (a_ord 0) r_top_written top_wrongPosition, gX0 E a_desk (a_forest 0) (a_mix 0) desk_reason desk_detail, gX5 E a_mix mix_row mix_conflictCount mix_lowest, gX1 E a_forest φ_forest, gX1 E a_before φ_before, gX2 E a_hist hist_rows hist_next hist_count, gX3 E a_inp inp_signs inp_length, gX6 E a_ord ord_rows ord_count ord_position ord_column, gLO L (a_out 0) out_val] : List va_W).flatten H → va_S A s.heap H locs → W p l e R s m args below meth c H locs 0 0 Q (F0 m 0 ls []) from key s.heap [] hP va_S.rf
  unfold fL_read at h
  intro H locs hP hS
  refine lv_aload_n hx hb dL_read_0 rfl (lv_at hl 1 rfl) ?_
  refine lv_iconst (v := (nI 0)) hx hb dL_read_1 (by decide) ?_
  refine lv_aload_n hx hb dL_read_2 rfl (lv_at hl 0 rfl) ?_
  obtain ⟨⟨k19, r1, w2, w3, w4, w5, w6, w7, w8, w9, w10, w11, w12, w13, w14, w15, w16, w17⟩, hr18, h⟩ := ob h
  dsimp only at h
  refine px_VT (As := []) (rest := [.int (nI 0), .ref (a_out 0)]) (gs := ([gX8 E a_top (a_forest 0) (a_before 0) r_top_saved top_isSaved (a_hist 0) (a_desk 0) r_top_walk (a_inp 0) (a_ord 0) r_top_written top_wrongPosition, gX0 E a_desk (a_forest 0) (a_mix 0) desk_reason desk_detail, gX5 E a_mix mix_row mix_conflictCount mix_lowest, gX1 E a_forest φ_forest, gX1 E a_before φ_before, gX2 E a_hist hist_rows hist_next hist_count, gX3 E a_inp inp_signs inp_length, gX6 E a_ord ord_rows ord_count ord_position ord_column, gLO L (a_out 0) out_val] : List va_W)) (gr := ([gLO L (a_out 0) out_val] : List va_W)) (gc := ([gX8 E a_top (a_forest 0) (a_before 0) r_top_saved top_isSaved (a_hist 0) (a_desk 0) r_top_walk (a_inp 0) (a_ord 0) r_top_written top_wrongPosition, gX0 E a_desk (a_forest 0) (a_mix 0) desk_reason desk_detail, gX5 E a_mix mix_row mix_conflictCount mix_lowest, gX1 E a_forest φ_forest, gX1 E a_before φ_before, gX2 E a_hist hist_rows hist_next hist_count, gX3 E a_inp inp_signs inp_length, gX6 E a_ord ord_rows ord_count ord_position ord_column] : List va_W)) (g1 := ([gX8 E a_top (a_forest 0) (a_before 0) r_top_saved top_isSaved (a_hist 0) (a_desk 0) r_top_walk (a_inp 0) (a_ord 0) r_top_written w2, gX0 E a_desk (a_forest 0) (a_mix 0) w3 w4, gX5 E a_mix w5 w6 w7, gX1 E a_forest w8, gX1 E a_before w9, gX2 E a_hist w10 w11 w12, gX3 E a_inp inp_signs w13, gX6 E a_ord w14 w15 w16 w17] : List va_W)) (g2 := ([gX8 E a_top (a_forest 0) (a_before 0) r_top_saved top_isSaved (a_hist 0) (a_desk 0) r_top_walk (a_inp 0) (a_ord 0) r_top_written w2, gX0 E a_desk (a_forest 0) (a_mix 0) w3 w4, gX5 E a_mix w5 w6 w7, gX1 E a_forest w8, gX1 E a_before w9, gX2 E a_hist w10 w11 w12, gX3 E a_inp inp_signs w13, gX6 E a_ord w14 w15 w16 w17, gLO L (a_out 0) out_val] : List va_W)) ⟨hx, hb, hml, hown, hts⟩ (c8_read l hlt E X a_top a_desk a_mix a_forest a_before a_hist a_inp a_ord r_top_saved r_top_walk r_top_written  (top_isSaved) (top_wrongPosition) (desk_reason) (desk_detail) (mix_row) (mix_conflictCount) (mix_lowest) (φ_forest) (φ_before) (hist_rows) (hist_next) (hist_count) (inp_signs) (inp_length) (ord_rows) (ord_count) (ord_position) (ord_column) k19 r1 w2 w3 w4 w5 w6 w7 w8 w9 w10 w11 w12 w13 w14 w15 w16 w17 hr18) (cwV 0 hts (ws_v q1013 q1014 q1015 q59 q1016) rfl rfl rfl hdV_X8_read (by rw [hR]; exact ⟨Nat.le_of_ble_eq_true rfl, Nat.le_of_ble_eq_true rfl⟩)) hK hN hX hP hD hS hA [8] [0, 1, 2, 3, 4, 5, 6, 7] [1, 2, 3, 4, 5, 6, 7, 8, 0] rfl rfl (by decide) (by decide) rfl (by decide) 0 8 rfl rfl rfl rfl hl.1 rfl (Nat.le_of_ble_eq_true rfl) dL_read_3 (by rw [hR]; exact ⟨Nat.le_of_ble_eq_true rfl, Nat.le_of_ble_eq_true rfl⟩) (fun hk q9 ce H locs hP hD hS hc1 hc2 hc3 => ?_) (fun hk H locs hP hD hS => ?_)
  · rw [if_neg hk] at h
    by_cases c20 : k19 = 2
    · rw [if_pos c20] at h
      subst c20
      refine vx_catch (own := RL) (name := "java/lang/IllegalArgumentException") (E := exn 2) hown [] ⟨0, 8, 11, 15⟩ [⟨0, 8, 14, 17⟩] (by rw [ht]; rfl) (fun z hz => absurd hz List.not_mem_nil) rfl (by decide) (hts _ q389) (va_Nw.use rfl (hX.2.2.2.2.2.2.1 (exn 2, exn 2) (by decide +kernel))) hc1 hc2 hc3 ?_
      refine lv_astore_n (lv' := [(2, .ref q9), (0, .ref (a_top 0)), (1, .ref (a_out 0))]) hx hb dL_read_11 rfl hl (by decide) rfl (fun ls hl => ?_)
      refine lv_iconst (v := (nI 1)) hx hb dL_read_12 (by decide) ?_
      cases h
      exact px_eWi hA0 hQ hP hD hS hx hb hr hlocks dL_read_13
    · rw [if_neg c20] at h
      by_cases c21 : k19 = 3
      · rw [if_pos c21] at h
        subst c21
        refine vx_catch (own := RL) (name := "java/lang/UnsupportedOperationException") (E := exn 3) hown [⟨0, 8, 11, 15⟩] ⟨0, 8, 14, 17⟩ [] (by rw [ht]; rfl) (List.forall_mem_cons.mpr ⟨Or.inr ⟨by decide, "java/lang/IllegalArgumentException", hts _ q389, hL.2 3 2 (by decide) (by decide) (by decide) (by decide) (by decide)⟩, (fun z hz => absurd hz List.not_mem_nil)⟩) rfl (by decide) (hts _ q390) (va_Nw.use rfl (hX.2.2.2.2.2.2.1 (exn 3, exn 3) (by decide +kernel))) hc1 hc2 hc3 ?_
        refine lv_astore_n (lv' := [(2, .ref q9), (0, .ref (a_top 0)), (1, .ref (a_out 0))]) hx hb dL_read_14 rfl hl (by decide) rfl (fun ls hl => ?_)
        refine lv_iconst (v := (nI 2)) hx hb dL_read_15 (by decide) ?_
        cases h
        exact px_eWi hA0 hQ hP hD hS hx hb hr hlocks dL_read_16
      · rw [if_neg c21] at h
        cases h
  rw [if_pos hk] at h
  refine W.eq (g2 := F0 m 6 ls [.int r1, .int (nI 0), .ref (a_out 0)]) rfl ?_
  refine lv_i2l (v := (r1).toInt64) hx hb dL_read_6 rfl ?_
  refine va_last (f := out_val) hx hb hL.1 hP hD hS 100 3 rfl rfl (inb_in (i := (nI 0)) (n := 1) (by decide)) dL_read_7 (fun H locs hP hD hS => ?_)
  have hP : va_P E.1 vwCl ([gX8 E a_top (a_forest 0) (a_before 0) r_top_saved top_isSaved (a_hist 0) (a_desk 0) r_top_walk (a_inp 0) (a_ord 0) r_top_written w2, gX0 E a_desk (a_forest 0) (a_mix 0) w3 w4, gX5 E a_mix w5 w6 w7, gX1 E a_forest w8, gX1 E a_before w9, gX2 E a_hist w10 w11 w12, gX3 E a_inp inp_signs w13, gX6 E a_ord w14 w15 w16 w17, gLO L (a_out 0) (vp_updL out_val ((nI 0)).toNatClampNeg ((r1).toInt64))] : List va_W).flatten H := hP
  have hD : va_D A ([gX8 E a_top (a_forest 0) (a_before 0) r_top_saved top_isSaved (a_hist 0) (a_desk 0) r_top_walk (a_inp 0) (a_ord 0) r_top_written w2, gX0 E a_desk (a_forest 0) (a_mix 0) w3 w4, gX5 E a_mix w5 w6 w7, gX1 E a_forest w8, gX1 E a_before w9, gX2 E a_hist w10 w11 w12, gX3 E a_inp inp_signs w13, gX6 E a_ord w14 w15 w16 w17, gLO L (a_out 0) (vp_updL out_val ((nI 0)).toNatClampNeg ((r1).toInt64))] : List va_W).flatten := hD
  refine lv_goto (tgt := 17) hx hb dL_read_8 (by decide) ?_
  refine lv_iconst (v := (nI 0)) hx hb dL_read_17 (by decide) ?_
  cases h
  exact px_eWi hA0 hQ hP hD hS hx hb hr hlocks dL_read_18
def fL_refusal (x1 : Int32) (desk_reason : Int32) (desk_detail : Int32) (out_val : (Nat → Int64)) : Option (Int32 × (Nat → Int64)) := ((f8_refusal (x1) (desk_reason) (desk_detail)).bind fun (k3, r1) => (if k3 = 0 then (some ((nI 0), (vp_updL out_val ((nI 0)).toNatClampNeg ((r1).toInt64)))) else (if k3 = 4 then (some ((nI 1), out_val)) else none)))
set_option maxHeartbeats 4000000 in
set_option maxRecDepth 100000 in
theorem mL_refusal (l : Launch) (hlt : l.stackTraces = false) (E : PE) (X : PX) (L : LX) (a_top : Nat → Nat) (a_desk : Nat → Nat) (a_out : Nat → Nat) (r_top_forest : Nat) (r_top_before : Nat) (r_top_saved : Nat) (r_top_history : Nat) (r_top_walk : Nat) (r_top_input : Nat) (r_top_orders : Nat) (r_top_written : Nat) (r_desk_forest : Nat) (r_desk_mix : Nat) (x1 : Int32) (top_isSaved : Int32) (top_wrongPosition : Int32) (desk_reason : Int32) (desk_detail : Int32) (out_val : (Nat → Int64)) (r : Int32) (z_out_val : (Nat → Int64)) (h : fL_refusal x1 desk_reason desk_detail out_val = some (r, z_out_val)) : ML l yL_refusal cL_refusal 4 [(0, 9, 12, 64)] { frames := 7, cells := 1, slots := 6, locals := 111 } E X L [.ref (a_top 0), .int x1, .ref (a_out 0)] ([gX8 E a_top r_top_forest r_top_before r_top_saved top_isSaved r_top_history (a_desk 0) r_top_walk r_top_input r_top_orders r_top_written top_wrongPosition, gX0 E a_desk r_desk_forest r_desk_mix desk_reason desk_detail, gLO L (a_out 0) out_val] : List va_W).flatten 1 6 (some (.int r)) ([gX8 E a_top r_top_forest r_top_before r_top_saved top_isSaved r_top_history (a_desk 0) r_top_walk r_top_input r_top_orders r_top_written top_wrongPosition, gX0 E a_desk r_desk_forest r_desk_mix desk_reason desk_detail, gLO L (a_out 0) z_out_val] : List va_W).flatten := by
  refine px_startL (by decide +kernel) (Nat.le_of_ble_eq_true rfl) ?_
  intro p e s m args below meth c R Q A ls hC hX hL hA0 hQ ht
  obtain ⟨hx, hb, hr, hml, hts, hown, hlocks, hR, hK, hN, hP, hD, hA, hl, hin⟩ := hC
  have hl : lv_has ls 4 [(0, .ref (a_top 0)), (1, .int x1), (2, .ref (a_out 0))] := hl
  suffices key : ∀ (H : Heap) (locs : List Loc), va_P E.1 vwCl ([gX8 E a_top r_top_forest r_top_before r_top_saved top_isSaved r_top_history (a_desk 0) r_top_walk r_top_input r_top_orders r_top_written top_wrongPosition, gX0 E a_desk r_desk_forest r_desk_mix desk_reason desk_detail, gLO L (a_out 0) out_val] : List va_W).flatten H → va_S A s.heap H locs → W p l e R s m args below meth c H locs 0 0 Q (F0 m 0 ls []) from key s.heap [] hP va_S.rf
  unfold fL_refusal at h
  intro H locs hP hS
  refine lv_aload_n hx hb dL_refusal_0 rfl (lv_at hl 2 rfl) ?_
  refine lv_iconst (v := (nI 0)) hx hb dL_refusal_1 (by decide) ?_
  refine lv_aload_n hx hb dL_refusal_2 rfl (lv_at hl 0 rfl) ?_
  refine lv_iload_n hx hb dL_refusal_3 rfl (lv_at hl 1 rfl) ?_
  obtain ⟨⟨k3, r1⟩, hr2, h⟩ := ob h
  dsimp only at h
  refine px_VT (As := [.int x1]) (rest := [.int (nI 0), .ref (a_out 0)]) (gs := ([gX8 E a_top r_top_forest r_top_before r_top_saved top_isSaved r_top_history (a_desk 0) r_top_walk r_top_input r_top_orders r_top_written top_wrongPosition, gX0 E a_desk r_desk_forest r_desk_mix desk_reason desk_detail, gLO L (a_out 0) out_val] : List va_W)) (gr := ([gLO L (a_out 0) out_val] : List va_W)) (gc := ([gX8 E a_top r_top_forest r_top_before r_top_saved top_isSaved r_top_history (a_desk 0) r_top_walk r_top_input r_top_orders r_top_written top_wrongPosition, gX0 E a_desk r_desk_forest r_desk_mix desk_reason desk_detail] : List va_W)) (g1 := ([gX8 E a_top r_top_forest r_top_before r_top_saved top_isSaved r_top_history (a_desk 0) r_top_walk r_top_input r_top_orders r_top_written top_wrongPosition, gX0 E a_desk r_desk_forest r_desk_mix desk_reason desk_detail] : List va_W)) (g2 := ([gX8 E a_top r_top_forest r_top_before r_top_saved top_isSaved r_top_history (a_desk 0) r_top_walk r_top_input r_top_orders r_top_written top_wrongPosition, gX0 E a_desk r_desk_forest r_desk_mix desk_reason desk_detail, gLO L (a_out 0) out_val] : List va_W)) ⟨hx, hb, hml, hown, hts⟩ (c8_refusal l hlt E X a_top a_desk r_top_forest r_top_before r_top_saved r_top_history r_top_walk r_top_input r_top_orders r_top_written r_desk_forest r_desk_mix (x1) (top_isSaved) (top_wrongPosition) (desk_reason) (desk_detail) k3 r1 hr2) (cwV 1 hts (ws_v q1127 q1128 q1129 q59 q1130) rfl rfl rfl hdV_X8_refusal (by rw [hR]; exact ⟨Nat.le_of_ble_eq_true rfl, Nat.le_of_ble_eq_true rfl⟩)) hK hN hX hP hD hS hA [2] [0, 1] [1, 2, 0] rfl rfl (by decide) (by decide) rfl (by decide) 0 8 rfl rfl rfl rfl hl.1 rfl (Nat.le_of_ble_eq_true rfl) dL_refusal_4 (by rw [hR]; exact ⟨Nat.le_of_ble_eq_true rfl, Nat.le_of_ble_eq_true rfl⟩) (fun hk q9 ce H locs hP hD hS hc1 hc2 hc3 => ?_) (fun hk H locs hP hD hS => ?_)
  · rw [if_neg hk] at h
    by_cases c4 : k3 = 4
    · rw [if_pos c4] at h
      subst c4
      refine vx_catch (own := RL) (name := "java/util/NoSuchElementException") (E := exn 4) hown [] ⟨0, 9, 12, 64⟩ [] (by rw [ht]; rfl) (fun z hz => absurd hz List.not_mem_nil) rfl (by decide) (hts _ q758) (va_Nw.use rfl (hX.2.2.2.2.2.2.1 (exn 4, exn 4) (by decide +kernel))) hc1 hc2 hc3 ?_
      refine lv_astore_n (lv' := [(3, .ref q9), (0, .ref (a_top 0)), (1, .int x1), (2, .ref (a_out 0))]) hx hb dL_refusal_12 rfl hl (by decide) rfl (fun ls hl => ?_)
      refine lv_iconst (v := (nI 1)) hx hb dL_refusal_13 (by decide) ?_
      cases h
      exact px_eWi hA0 hQ hP hD hS hx hb hr hlocks dL_refusal_14
    · rw [if_neg c4] at h
      cases h
  rw [if_pos hk] at h
  refine W.eq (g2 := F0 m 7 ls [.int r1, .int (nI 0), .ref (a_out 0)]) rfl ?_
  refine lv_i2l (v := (r1).toInt64) hx hb dL_refusal_7 rfl ?_
  refine va_last (f := out_val) hx hb hL.1 hP hD hS 2 3 rfl rfl (inb_in (i := (nI 0)) (n := 1) (by decide)) dL_refusal_8 (fun H locs hP hD hS => ?_)
  have hP : va_P E.1 vwCl ([gX8 E a_top r_top_forest r_top_before r_top_saved top_isSaved r_top_history (a_desk 0) r_top_walk r_top_input r_top_orders r_top_written top_wrongPosition, gX0 E a_desk r_desk_forest r_desk_mix desk_reason desk_detail, gLO L (a_out 0) (vp_updL out_val ((nI 0)).toNatClampNeg ((r1).toInt64))] : List va_W).flatten H := hP
  have hD : va_D A ([gX8 E a_top r_top_forest r_top_before r_top_saved top_isSaved r_top_history (a_desk 0) r_top_walk r_top_input r_top_orders r_top_written top_wrongPosition, gX0 E a_desk r_desk_forest r_desk_mix desk_reason desk_detail, gLO L (a_out 0) (vp_updL out_val ((nI 0)).toNatClampNeg ((r1).toInt64))] : List va_W).flatten := hD
  refine lv_goto (tgt := 15) hx hb dL_refusal_9 (by decide) ?_
  refine lv_iconst (v := (nI 0)) hx hb dL_refusal_15 (by decide) ?_
  cases h
  exact px_eWi hA0 hQ hP hD hS hx hb hr hlocks dL_refusal_16
def fL_account (x1 : Int32) (φ_forest : Fo) (hist_count : Int32) (inp_length : Int32) (out_val : (Nat → Int64)) : Option (Int32 × (Nat → Int64)) := ((f8_account (x1) (φ_forest) (hist_count) (inp_length)).bind fun (k3, r1) => (if k3 = 0 then (some ((nI 0), (vp_updL out_val ((nI 0)).toNatClampNeg ((r1).toInt64)))) else (if k3 = 2 then (some ((nI 1), out_val)) else none)))
set_option maxHeartbeats 4000000 in
set_option maxRecDepth 100000 in
theorem mL_account (l : Launch) (hlt : l.stackTraces = false) (E : PE) (X : PX) (L : LX) (a_top : Nat → Nat) (a_forest : Nat → Nat) (a_hist : Nat → Nat) (a_inp : Nat → Nat) (a_out : Nat → Nat) (r_top_before : Nat) (r_top_saved : Nat) (r_top_desk : Nat) (r_top_walk : Nat) (r_top_orders : Nat) (r_top_written : Nat) (x1 : Int32) (top_isSaved : Int32) (top_wrongPosition : Int32) (φ_forest : Fo) (hist_rows : (Nat → Fo)) (hist_next : Int32) (hist_count : Int32) (inp_signs : AI) (inp_length : Int32) (out_val : (Nat → Int64)) (r : Int32) (z_out_val : (Nat → Int64)) (h : fL_account x1 φ_forest hist_count inp_length out_val = some (r, z_out_val)) : ML l yL_account cL_account 4 [(0, 9, 12, 15)] { frames := 7, cells := 1, slots := 6, locals := 111 } E X L [.ref (a_top 0), .int x1, .ref (a_out 0)] ([gX8 E a_top (a_forest 0) r_top_before r_top_saved top_isSaved (a_hist 0) r_top_desk r_top_walk (a_inp 0) r_top_orders r_top_written top_wrongPosition, gX1 E a_forest φ_forest, gX2 E a_hist hist_rows hist_next hist_count, gX3 E a_inp inp_signs inp_length, gLO L (a_out 0) out_val] : List va_W).flatten 1 6 (some (.int r)) ([gX8 E a_top (a_forest 0) r_top_before r_top_saved top_isSaved (a_hist 0) r_top_desk r_top_walk (a_inp 0) r_top_orders r_top_written top_wrongPosition, gX1 E a_forest φ_forest, gX2 E a_hist hist_rows hist_next hist_count, gX3 E a_inp inp_signs inp_length, gLO L (a_out 0) z_out_val] : List va_W).flatten := by
  refine px_startL (by decide +kernel) (Nat.le_of_ble_eq_true rfl) ?_
  intro p e s m args below meth c R Q A ls hC hX hL hA0 hQ ht
  obtain ⟨hx, hb, hr, hml, hts, hown, hlocks, hR, hK, hN, hP, hD, hA, hl, hin⟩ := hC
  have hl : lv_has ls 4 [(0, .ref (a_top 0)), (1, .int x1), (2, .ref (a_out 0))] := hl
  suffices key : ∀ (H : Heap) (locs : List Loc), va_P E.1 vwCl ([gX8 E a_top (a_forest 0) r_top_before r_top_saved top_isSaved (a_hist 0) r_top_desk r_top_walk (a_inp 0) r_top_orders r_top_written top_wrongPosition, gX1 E a_forest φ_forest, gX2 E a_hist hist_rows hist_next hist_count, gX3 E a_inp inp_signs inp_length, gLO L (a_out 0) out_val] : List va_W).flatten H → va_S A s.heap H locs → W p l e R s m args below meth c H locs 0 0 Q (F0 m 0 ls []) from key s.heap [] hP va_S.rf
  unfold fL_account at h
  intro H locs hP hS
  refine lv_aload_n hx hb dL_account_0 rfl (lv_at hl 2 rfl) ?_
  refine lv_iconst (v := (nI 0)) hx hb dL_account_1 (by decide) ?_
  refine lv_aload_n hx hb dL_account_2 rfl (lv_at hl 0 rfl) ?_
  refine lv_iload_n hx hb dL_account_3 rfl (lv_at hl 1 rfl) ?_
  obtain ⟨⟨k3, r1⟩, hr2, h⟩ := ob h
  dsimp only at h
  refine px_VT (As := [.int x1]) (rest := [.int (nI 0), .ref (a_out 0)]) (gs := ([gX8 E a_top (a_forest 0) r_top_before r_top_saved top_isSaved (a_hist 0) r_top_desk r_top_walk (a_inp 0) r_top_orders r_top_written top_wrongPosition, gX1 E a_forest φ_forest, gX2 E a_hist hist_rows hist_next hist_count, gX3 E a_inp inp_signs inp_length, gLO L (a_out 0) out_val] : List va_W)) (gr := ([gLO L (a_out 0) out_val] : List va_W)) (gc := ([gX8 E a_top (a_forest 0) r_top_before r_top_saved top_isSaved (a_hist 0) r_top_desk r_top_walk (a_inp 0) r_top_orders r_top_written top_wrongPosition, gX1 E a_forest φ_forest, gX2 E a_hist hist_rows hist_next hist_count, gX3 E a_inp inp_signs inp_length] : List va_W)) (g1 := ([gX8 E a_top (a_forest 0) r_top_before r_top_saved top_isSaved (a_hist 0) r_top_desk r_top_walk (a_inp 0) r_top_orders r_top_written top_wrongPosition, gX1 E a_forest φ_forest, gX2 E a_hist hist_rows hist_next hist_count, gX3 E a_inp inp_signs inp_length] : List va_W)) (g2 := ([gX8 E a_top (a_forest 0) r_top_before r_top_saved top_isSaved (a_hist 0) r_top_desk r_top_walk (a_inp 0) r_top_orders r_top_written top_wrongPosition, gX1 E a_forest φ_forest, gX2 E a_hist hist_rows hist_next hist_count, gX3 E a_inp inp_signs inp_length, gLO L (a_out 0) out_val] : List va_W)) ⟨hx, hb, hml, hown, hts⟩ (c8_account l hlt E X a_top a_forest a_hist a_inp r_top_before r_top_saved r_top_desk r_top_walk r_top_orders r_top_written (x1) (top_isSaved) (top_wrongPosition) (φ_forest) (hist_rows) (hist_next) (hist_count) (inp_signs) (inp_length) k3 r1 hr2) (cwV 1 hts (ws_v q1143 q1144 q1145 q59 q1146) rfl rfl rfl hdV_X8_account (by rw [hR]; exact ⟨Nat.le_of_ble_eq_true rfl, Nat.le_of_ble_eq_true rfl⟩)) hK hN hX hP hD hS hA [4] [0, 1, 2, 3] [1, 2, 3, 4, 0] rfl rfl (by decide) (by decide) rfl (by decide) 0 8 rfl rfl rfl rfl hl.1 rfl (Nat.le_of_ble_eq_true rfl) dL_account_4 (by rw [hR]; exact ⟨Nat.le_of_ble_eq_true rfl, Nat.le_of_ble_eq_true rfl⟩) (fun hk q9 ce H locs hP hD hS hc1 hc2 hc3 => ?_) (fun hk H locs hP hD hS => ?_)
  · rw [if_neg hk] at h
    by_cases c4 : k3 = 2
    · rw [if_pos c4] at h
      subst c4
      refine vx_catch (own := RL) (name := "java/lang/IllegalArgumentException") (E := exn 2) hown [] ⟨0, 9, 12, 15⟩ [] (by rw [ht]; rfl) (fun z hz => absurd hz List.not_mem_nil) rfl (by decide) (hts _ q389) (va_Nw.use rfl (hX.2.2.2.2.2.2.1 (exn 2, exn 2) (by decide +kernel))) hc1 hc2 hc3 ?_
      refine lv_astore_n (lv' := [(3, .ref q9), (0, .ref (a_top 0)), (1, .int x1), (2, .ref (a_out 0))]) hx hb dL_account_12 rfl hl (by decide) rfl (fun ls hl => ?_)
      refine lv_iconst (v := (nI 1)) hx hb dL_account_13 (by decide) ?_
      cases h
      exact px_eWi hA0 hQ hP hD hS hx hb hr hlocks dL_account_14
    · rw [if_neg c4] at h
      cases h
  rw [if_pos hk] at h
  refine W.eq (g2 := F0 m 7 ls [.int r1, .int (nI 0), .ref (a_out 0)]) rfl ?_
  refine lv_i2l (v := (r1).toInt64) hx hb dL_account_7 rfl ?_
  refine va_last (f := out_val) hx hb hL.1 hP hD hS 86 3 rfl rfl (inb_in (i := (nI 0)) (n := 1) (by decide)) dL_account_8 (fun H locs hP hD hS => ?_)
  have hP : va_P E.1 vwCl ([gX8 E a_top (a_forest 0) r_top_before r_top_saved top_isSaved (a_hist 0) r_top_desk r_top_walk (a_inp 0) r_top_orders r_top_written top_wrongPosition, gX1 E a_forest φ_forest, gX2 E a_hist hist_rows hist_next hist_count, gX3 E a_inp inp_signs inp_length, gLO L (a_out 0) (vp_updL out_val ((nI 0)).toNatClampNeg ((r1).toInt64))] : List va_W).flatten H := hP
  have hD : va_D A ([gX8 E a_top (a_forest 0) r_top_before r_top_saved top_isSaved (a_hist 0) r_top_desk r_top_walk (a_inp 0) r_top_orders r_top_written top_wrongPosition, gX1 E a_forest φ_forest, gX2 E a_hist hist_rows hist_next hist_count, gX3 E a_inp inp_signs inp_length, gLO L (a_out 0) (vp_updL out_val ((nI 0)).toNatClampNeg ((r1).toInt64))] : List va_W).flatten := hD
  refine lv_goto (tgt := 15) hx hb dL_account_9 (by decide) ?_
  refine lv_iconst (v := (nI 0)) hx hb dL_account_15 (by decide) ?_
  cases h
  exact px_eWi hA0 hQ hP hD hS hx hb hr hlocks dL_account_16
def fL_undo  (φ_forest : Fo) (hist_rows : (Nat → Fo)) (hist_next : Int32) (hist_count : Int32) (out_val : (Nat → Int64)) : Option (Int32 × Fo × Int32 × Int32 × (Nat → Int64)) := ((f8_undo (φ_forest) (hist_rows) (hist_next) (hist_count)).bind fun (k6, r1, w2, w3, w4) => (if k6 = 0 then (some ((nI 0), w2, w3, w4, (vp_updL out_val ((nI 0)).toNatClampNeg ((r1).toInt64)))) else (if k6 = 5 then (some ((nI 1), w2, w3, w4, out_val)) else none)))
set_option maxHeartbeats 4000000 in
set_option maxRecDepth 100000 in
theorem mL_undo (l : Launch) (hlt : l.stackTraces = false) (E : PE) (X : PX) (L : LX) (a_top : Nat → Nat) (a_forest : Nat → Nat) (a_hist : Nat → Nat) (a_out : Nat → Nat) (r_top_before : Nat) (r_top_saved : Nat) (r_top_desk : Nat) (r_top_walk : Nat) (r_top_input : Nat) (r_top_orders : Nat) (r_top_written : Nat)  (top_isSaved : Int32) (top_wrongPosition : Int32) (φ_forest : Fo) (hist_rows : (Nat → Fo)) (hist_next : Int32) (hist_count : Int32) (out_val : (Nat → Int64)) (r : Int32) (z_forest_φ : Fo) (z_hist_next : Int32) (z_hist_count : Int32) (z_out_val : (Nat → Int64)) (h : fL_undo φ_forest hist_rows hist_next hist_count out_val = some (r, z_forest_φ, z_hist_next, z_hist_count, z_out_val)) : ML l yL_undo cL_undo 3 [(0, 8, 11, 109)] { frames := 7, cells := 1, slots := 6, locals := 110 } E X L [.ref (a_top 0), .ref (a_out 0)] ([gX8 E a_top (a_forest 0) r_top_before r_top_saved top_isSaved (a_hist 0) r_top_desk r_top_walk r_top_input r_top_orders r_top_written top_wrongPosition, gX1 E a_forest φ_forest, gX2 E a_hist hist_rows hist_next hist_count, gLO L (a_out 0) out_val] : List va_W).flatten 1 6 (some (.int r)) ([gX8 E a_top (a_forest 0) r_top_before r_top_saved top_isSaved (a_hist 0) r_top_desk r_top_walk r_top_input r_top_orders r_top_written top_wrongPosition, gX1 E a_forest z_forest_φ, gX2 E a_hist hist_rows z_hist_next z_hist_count, gLO L (a_out 0) z_out_val] : List va_W).flatten := by
  refine px_startL (by decide +kernel) (Nat.le_of_ble_eq_true rfl) ?_
  intro p e s m args below meth c R Q A ls hC hX hL hA0 hQ ht
  obtain ⟨hx, hb, hr, hml, hts, hown, hlocks, hR, hK, hN, hP, hD, hA, hl, hin⟩ := hC
  have hl : lv_has ls 3 [(0, .ref (a_top 0)), (1, .ref (a_out 0))] := hl
  suffices key : ∀ (H : Heap) (locs : List Loc), va_P E.1 vwCl ([gX8 E a_top (a_forest 0) r_top_before r_top_saved top_isSaved (a_hist 0) r_top_desk r_top_walk r_top_input r_top_orders r_top_written top_wrongPosition, gX1 E a_forest φ_forest, gX2 E a_hist hist_rows hist_next hist_count, gLO L (a_out 0) out_val] : List va_W).flatten H → va_S A s.heap H locs → W p l e R s m args below meth c H locs 0 0 Q (F0 m 0 ls []) from key s.heap [] hP va_S.rf
  unfold fL_undo at h
  intro H locs hP hS
  refine lv_aload_n hx hb dL_undo_0 rfl (lv_at hl 1 rfl) ?_
  refine lv_iconst (v := (nI 0)) hx hb dL_undo_1 (by decide) ?_
  refine lv_aload_n hx hb dL_undo_2 rfl (lv_at hl 0 rfl) ?_
  obtain ⟨⟨k6, r1, w2, w3, w4⟩, hr5, h⟩ := ob h
  dsimp only at h
  refine px_VT (As := []) (rest := [.int (nI 0), .ref (a_out 0)]) (gs := ([gX8 E a_top (a_forest 0) r_top_before r_top_saved top_isSaved (a_hist 0) r_top_desk r_top_walk r_top_input r_top_orders r_top_written top_wrongPosition, gX1 E a_forest φ_forest, gX2 E a_hist hist_rows hist_next hist_count, gLO L (a_out 0) out_val] : List va_W)) (gr := ([gLO L (a_out 0) out_val] : List va_W)) (gc := ([gX8 E a_top (a_forest 0) r_top_before r_top_saved top_isSaved (a_hist 0) r_top_desk r_top_walk r_top_input r_top_orders r_top_written top_wrongPosition, gX1 E a_forest φ_forest, gX2 E a_hist hist_rows hist_next hist_count] : List va_W)) (g1 := ([gX8 E a_top (a_forest 0) r_top_before r_top_saved top_isSaved (a_hist 0) r_top_desk r_top_walk r_top_input r_top_orders r_top_written top_wrongPosition, gX1 E a_forest w2, gX2 E a_hist hist_rows w3 w4] : List va_W)) (g2 := ([gX8 E a_top (a_forest 0) r_top_before r_top_saved top_isSaved (a_hist 0) r_top_desk r_top_walk r_top_input r_top_orders r_top_written top_wrongPosition, gX1 E a_forest w2, gX2 E a_hist hist_rows w3 w4, gLO L (a_out 0) out_val] : List va_W)) ⟨hx, hb, hml, hown, hts⟩ (c8_undo l hlt E X a_top a_forest a_hist r_top_before r_top_saved r_top_desk r_top_walk r_top_input r_top_orders r_top_written  (top_isSaved) (top_wrongPosition) (φ_forest) (hist_rows) (hist_next) (hist_count) k6 r1 w2 w3 w4 hr5) (cwV 0 hts (ws_v q1171 q1172 q1173 q59 q1174) rfl rfl rfl hdV_X8_undo (by rw [hR]; exact ⟨Nat.le_of_ble_eq_true rfl, Nat.le_of_ble_eq_true rfl⟩)) hK hN hX hP hD hS hA [3] [0, 1, 2] [1, 2, 3, 0] rfl rfl (by decide) (by decide) rfl (by decide) 0 8 rfl rfl rfl rfl hl.1 rfl (Nat.le_of_ble_eq_true rfl) dL_undo_3 (by rw [hR]; exact ⟨Nat.le_of_ble_eq_true rfl, Nat.le_of_ble_eq_true rfl⟩) (fun hk q9 ce H locs hP hD hS hc1 hc2 hc3 => ?_) (fun hk H locs hP hD hS => ?_)
  · rw [if_neg hk] at h
    by_cases c7 : k6 = 5
    · rw [if_pos c7] at h
      subst c7
      refine vx_catch (own := RL) (name := "java/lang/IllegalStateException") (E := exn 5) hown [] ⟨0, 8, 11, 109⟩ [] (by rw [ht]; rfl) (fun z hz => absurd hz List.not_mem_nil) rfl (by decide) (hts _ q981) (va_Nw.use rfl (hX.2.2.2.2.2.2.1 (exn 5, exn 5) (by decide +kernel))) hc1 hc2 hc3 ?_
      refine lv_astore_n (lv' := [(2, .ref q9), (0, .ref (a_top 0)), (1, .ref (a_out 0))]) hx hb dL_undo_11 rfl hl (by decide) rfl (fun ls hl => ?_)
      refine lv_iconst (v := (nI 1)) hx hb dL_undo_12 (by decide) ?_
      cases h
      exact px_eWi hA0 hQ hP hD hS hx hb hr hlocks dL_undo_13
    · rw [if_neg c7] at h
      cases h
  rw [if_pos hk] at h
  refine W.eq (g2 := F0 m 6 ls [.int r1, .int (nI 0), .ref (a_out 0)]) rfl ?_
  refine lv_i2l (v := (r1).toInt64) hx hb dL_undo_6 rfl ?_
  refine va_last (f := out_val) hx hb hL.1 hP hD hS 84 3 rfl rfl (inb_in (i := (nI 0)) (n := 1) (by decide)) dL_undo_7 (fun H locs hP hD hS => ?_)
  have hP : va_P E.1 vwCl ([gX8 E a_top (a_forest 0) r_top_before r_top_saved top_isSaved (a_hist 0) r_top_desk r_top_walk r_top_input r_top_orders r_top_written top_wrongPosition, gX1 E a_forest w2, gX2 E a_hist hist_rows w3 w4, gLO L (a_out 0) (vp_updL out_val ((nI 0)).toNatClampNeg ((r1).toInt64))] : List va_W).flatten H := hP
  have hD : va_D A ([gX8 E a_top (a_forest 0) r_top_before r_top_saved top_isSaved (a_hist 0) r_top_desk r_top_walk r_top_input r_top_orders r_top_written top_wrongPosition, gX1 E a_forest w2, gX2 E a_hist hist_rows w3 w4, gLO L (a_out 0) (vp_updL out_val ((nI 0)).toNatClampNeg ((r1).toInt64))] : List va_W).flatten := hD
  refine lv_goto (tgt := 14) hx hb dL_undo_8 (by decide) ?_
  refine lv_iconst (v := (nI 0)) hx hb dL_undo_14 (by decide) ?_
  cases h
  exact px_eWi hA0 hQ hP hD hS hx hb hr hlocks dL_undo_15
def fL_restore  (top_isSaved : Int32) (φ_forest : Fo) (φ_saved : Fo) (hist_count : Int32) (out_val : (Nat → Int64)) : Option (Int32 × Fo × Int32 × (Nat → Int64)) := ((f8_restore (top_isSaved) (φ_forest) (φ_saved) (hist_count)).bind fun (k5, r1, w2, w3) => (if k5 = 0 then (some ((nI 0), w2, w3, (vp_updL out_val ((nI 0)).toNatClampNeg ((r1).toInt64)))) else (if k5 = 5 then (some ((nI 1), w2, w3, out_val)) else none)))
set_option maxHeartbeats 4000000 in
set_option maxRecDepth 100000 in
theorem mL_restore (l : Launch) (hlt : l.stackTraces = false) (E : PE) (X : PX) (L : LX) (a_top : Nat → Nat) (a_forest : Nat → Nat) (a_saved : Nat → Nat) (a_hist : Nat → Nat) (a_out : Nat → Nat) (r_top_before : Nat) (r_top_desk : Nat) (r_top_walk : Nat) (r_top_input : Nat) (r_top_orders : Nat) (r_top_written : Nat)  (top_isSaved : Int32) (top_wrongPosition : Int32) (φ_forest : Fo) (φ_saved : Fo) (hist_rows : (Nat → Fo)) (hist_next : Int32) (hist_count : Int32) (out_val : (Nat → Int64)) (r : Int32) (z_forest_φ : Fo) (z_hist_count : Int32) (z_out_val : (Nat → Int64)) (h : fL_restore top_isSaved φ_forest φ_saved hist_count out_val = some (r, z_forest_φ, z_hist_count, z_out_val)) : ML l yL_restore cL_restore 3 [(0, 8, 11, 109)] { frames := 7, cells := 1, slots := 6, locals := 110 } E X L [.ref (a_top 0), .ref (a_out 0)] ([gX8 E a_top (a_forest 0) r_top_before (a_saved 0) top_isSaved (a_hist 0) r_top_desk r_top_walk r_top_input r_top_orders r_top_written top_wrongPosition, gX1 E a_forest φ_forest, gX1 E a_saved φ_saved, gX2 E a_hist hist_rows hist_next hist_count, gLO L (a_out 0) out_val] : List va_W).flatten 1 6 (some (.int r)) ([gX8 E a_top (a_forest 0) r_top_before (a_saved 0) top_isSaved (a_hist 0) r_top_desk r_top_walk r_top_input r_top_orders r_top_written top_wrongPosition, gX1 E a_forest z_forest_φ, gX1 E a_saved φ_saved, gX2 E a_hist hist_rows hist_next z_hist_count, gLO L (a_out 0) z_out_val] : List va_W).flatten := by
  refine px_startL (by decide +kernel) (Nat.le_of_ble_eq_true rfl) ?_
  intro p e s m args below meth c R Q A ls hC hX hL hA0 hQ ht
  obtain ⟨hx, hb, hr, hml, hts, hown, hlocks, hR, hK, hN, hP, hD, hA, hl, hin⟩ := hC
  have hl : lv_has ls 3 [(0, .ref (a_top 0)), (1, .ref (a_out 0))] := hl
  suffices key : ∀ (H : Heap) (locs : List Loc), va_P E.1 vwCl ([gX8 E a_top (a_forest 0) r_top_before (a_saved 0) top_isSaved (a_hist 0) r_top_desk r_top_walk r_top_input r_top_orders r_top_written top_wrongPosition, gX1 E a_forest φ_forest, gX1 E a_saved φ_saved, gX2 E a_hist hist_rows hist_next hist_count, gLO L (a_out 0) out_val] : List va_W).flatten H → va_S A s.heap H locs → W p l e R s m args below meth c H locs 0 0 Q (F0 m 0 ls []) from key s.heap [] hP va_S.rf
  unfold fL_restore at h
  intro H locs hP hS
  refine lv_aload_n hx hb dL_restore_0 rfl (lv_at hl 1 rfl) ?_
  refine lv_iconst (v := (nI 0)) hx hb dL_restore_1 (by decide) ?_
  refine lv_aload_n hx hb dL_restore_2 rfl (lv_at hl 0 rfl) ?_
  obtain ⟨⟨k5, r1, w2, w3⟩, hr4, h⟩ := ob h
  dsimp only at h
  refine px_VT (As := []) (rest := [.int (nI 0), .ref (a_out 0)]) (gs := ([gX8 E a_top (a_forest 0) r_top_before (a_saved 0) top_isSaved (a_hist 0) r_top_desk r_top_walk r_top_input r_top_orders r_top_written top_wrongPosition, gX1 E a_forest φ_forest, gX1 E a_saved φ_saved, gX2 E a_hist hist_rows hist_next hist_count, gLO L (a_out 0) out_val] : List va_W)) (gr := ([gLO L (a_out 0) out_val] : List va_W)) (gc := ([gX8 E a_top (a_forest 0) r_top_before (a_saved 0) top_isSaved (a_hist 0) r_top_desk r_top_walk r_top_input r_top_orders r_top_written top_wrongPosition, gX1 E a_forest φ_forest, gX1 E a_saved φ_saved, gX2 E a_hist hist_rows hist_next hist_count] : List va_W)) (g1 := ([gX8 E a_top (a_forest 0) r_top_before (a_saved 0) top_isSaved (a_hist 0) r_top_desk r_top_walk r_top_input r_top_orders r_top_written top_wrongPosition, gX1 E a_forest w2, gX1 E a_saved φ_saved, gX2 E a_hist hist_rows hist_next w3] : List va_W)) (g2 := ([gX8 E a_top (a_forest 0) r_top_before (a_saved 0) top_isSaved (a_hist 0) r_top_desk r_top_walk r_top_input r_top_orders r_top_written top_wrongPosition, gX1 E a_forest w2, gX1 E a_saved φ_saved, gX2 E a_hist hist_rows hist_next w3, gLO L (a_out 0) out_val] : List va_W)) ⟨hx, hb, hml, hown, hts⟩ (c8_restore l hlt E X a_top a_forest a_saved a_hist r_top_before r_top_desk r_top_walk r_top_input r_top_orders r_top_written  (top_isSaved) (top_wrongPosition) (φ_forest) (φ_saved) (hist_rows) (hist_next) (hist_count) k5 r1 w2 w3 hr4) (cwV 0 hts (ws_v q1183 q1184 q1185 q59 q1186) rfl rfl rfl hdV_X8_restore (by rw [hR]; exact ⟨Nat.le_of_ble_eq_true rfl, Nat.le_of_ble_eq_true rfl⟩)) hK hN hX hP hD hS hA [4] [0, 1, 2, 3] [1, 2, 3, 4, 0] rfl rfl (by decide) (by decide) rfl (by decide) 0 8 rfl rfl rfl rfl hl.1 rfl (Nat.le_of_ble_eq_true rfl) dL_restore_3 (by rw [hR]; exact ⟨Nat.le_of_ble_eq_true rfl, Nat.le_of_ble_eq_true rfl⟩) (fun hk q9 ce H locs hP hD hS hc1 hc2 hc3 => ?_) (fun hk H locs hP hD hS => ?_)
  · rw [if_neg hk] at h
    by_cases c6 : k5 = 5
    · rw [if_pos c6] at h
      subst c6
      refine vx_catch (own := RL) (name := "java/lang/IllegalStateException") (E := exn 5) hown [] ⟨0, 8, 11, 109⟩ [] (by rw [ht]; rfl) (fun z hz => absurd hz List.not_mem_nil) rfl (by decide) (hts _ q981) (va_Nw.use rfl (hX.2.2.2.2.2.2.1 (exn 5, exn 5) (by decide +kernel))) hc1 hc2 hc3 ?_
      refine lv_astore_n (lv' := [(2, .ref q9), (0, .ref (a_top 0)), (1, .ref (a_out 0))]) hx hb dL_restore_11 rfl hl (by decide) rfl (fun ls hl => ?_)
      refine lv_iconst (v := (nI 1)) hx hb dL_restore_12 (by decide) ?_
      cases h
      exact px_eWi hA0 hQ hP hD hS hx hb hr hlocks dL_restore_13
    · rw [if_neg c6] at h
      cases h
  rw [if_pos hk] at h
  refine W.eq (g2 := F0 m 6 ls [.int r1, .int (nI 0), .ref (a_out 0)]) rfl ?_
  refine lv_i2l (v := (r1).toInt64) hx hb dL_restore_6 rfl ?_
  refine va_last (f := out_val) hx hb hL.1 hP hD hS 93 3 rfl rfl (inb_in (i := (nI 0)) (n := 1) (by decide)) dL_restore_7 (fun H locs hP hD hS => ?_)
  have hP : va_P E.1 vwCl ([gX8 E a_top (a_forest 0) r_top_before (a_saved 0) top_isSaved (a_hist 0) r_top_desk r_top_walk r_top_input r_top_orders r_top_written top_wrongPosition, gX1 E a_forest w2, gX1 E a_saved φ_saved, gX2 E a_hist hist_rows hist_next w3, gLO L (a_out 0) (vp_updL out_val ((nI 0)).toNatClampNeg ((r1).toInt64))] : List va_W).flatten H := hP
  have hD : va_D A ([gX8 E a_top (a_forest 0) r_top_before (a_saved 0) top_isSaved (a_hist 0) r_top_desk r_top_walk r_top_input r_top_orders r_top_written top_wrongPosition, gX1 E a_forest w2, gX1 E a_saved φ_saved, gX2 E a_hist hist_rows hist_next w3, gLO L (a_out 0) (vp_updL out_val ((nI 0)).toNatClampNeg ((r1).toInt64))] : List va_W).flatten := hD
  refine lv_goto (tgt := 14) hx hb dL_restore_8 (by decide) ?_
  refine lv_iconst (v := (nI 0)) hx hb dL_restore_14 (by decide) ?_
  cases h
  exact px_eWi hA0 hQ hP hD hS hx hb hr hlocks dL_restore_15
