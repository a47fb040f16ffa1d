/-! one object: all that lies in it -/
abbrev TO : Type := Int32 × Int32 × Int32 × Int32 × AI × Int32 × Int32 × Fo × Fo × Fo × (Nat → Fo) × Int32 × Int32 × AI × Int32 × Int32 × AI × Int32 × AI × Int32 × Int32 × Int32 × AI × Int32
def t_top_isSaved (τ : TO) : Int32 := τ.1
def t_top_wrongPosition (τ : TO) : Int32 := τ.2.1
def t_desk_reason (τ : TO) : Int32 := τ.2.2.1
def t_desk_detail (τ : TO) : Int32 := τ.2.2.2.1
def t_mix_row (τ : TO) : AI := τ.2.2.2.2.1
def t_mix_conflictCount (τ : TO) : Int32 := τ.2.2.2.2.2.1
def t_mix_lowest (τ : TO) : Int32 := τ.2.2.2.2.2.2.1
def t_forest_f (τ : TO) : Fo := τ.2.2.2.2.2.2.2.1
def t_before_f (τ : TO) : Fo := τ.2.2.2.2.2.2.2.2.1
def t_saved_f (τ : TO) : Fo := τ.2.2.2.2.2.2.2.2.2.1
def t_hist_rows (τ : TO) : (Nat → Fo) := τ.2.2.2.2.2.2.2.2.2.2.1
def t_hist_next (τ : TO) : Int32 := τ.2.2.2.2.2.2.2.2.2.2.2.1
def t_hist_count (τ : TO) : Int32 := τ.2.2.2.2.2.2.2.2.2.2.2.2.1
def t_walk_commits (τ : TO) : AI := τ.2.2.2.2.2.2.2.2.2.2.2.2.2.1
def t_walk_length (τ : TO) : Int32 := τ.2.2.2.2.2.2.2.2.2.2.2.2.2.2.1
def t_walk_looks (τ : TO) : Int32 := τ.2.2.2.2.2.2.2.2.2.2.2.2.2.2.2.1
def t_inp_signs (τ : TO) : AI := τ.2.2.2.2.2.2.2.2.2.2.2.2.2.2.2.2.1
def t_inp_length (τ : TO) : Int32 := τ.2.2.2.2.2.2.2.2.2.2.2.2.2.2.2.2.2.1
def t_ord_rows (τ : TO) : AI := τ.2.2.2.2.2.2.2.2.2.2.2.2.2.2.2.2.2.2.1
def t_ord_count (τ : TO) : Int32 := τ.2.2.2.2.2.2.2.2.2.2.2.2.2.2.2.2.2.2.2.1
def t_ord_position (τ : TO) : Int32 := τ.2.2.2.2.2.2.2.2.2.2.2.2.2.2.2.2.2.2.2.2.1
def t_ord_column (τ : TO) : Int32 := τ.2.2.2.2.2.2.2.2.2.2.2.2.2.2.2.2.2.2.2.2.2.1
def t_lin_signs (τ : TO) : AI := τ.2.2.2.2.2.2.2.2.2.2.2.2.2.2.2.2.2.2.2.2.2.2.1
def t_lin_length (τ : TO) : Int32 := τ.2.2.2.2.2.2.2.2.2.2.2.2.2.2.2.2.2.2.2.2.2.2.2
def gO (E : PE) (b : Nat → Nat → Nat) (τ : TO) : va_W := ([gX8 E (b 0) (b 3 0) (b 4 0) (b 5 0) (t_top_isSaved τ) (b 6 0) (b 1 0) (b 7 0) (b 8 0) (b 9 0) (b 10 0) (t_top_wrongPosition τ), gX0 E (b 1) (b 3 0) (b 2 0) (t_desk_reason τ) (t_desk_detail τ), gX5 E (b 2) (t_mix_row τ) (t_mix_conflictCount τ) (t_mix_lowest τ), gX1 E (b 3) (t_forest_f τ), gX1 E (b 4) (t_before_f τ), gX1 E (b 5) (t_saved_f τ), gX2 E (b 6) (t_hist_rows τ) (t_hist_next τ) (t_hist_count τ), gX7 E (b 7) (t_walk_commits τ) (t_walk_length τ) (t_walk_looks τ), gX3 E (b 8) (t_inp_signs τ) (t_inp_length τ), gX6 E (b 9) (t_ord_rows τ) (t_ord_count τ) (t_ord_position τ) (t_ord_column τ), gX4 E (b 10) (t_lin_signs τ) (t_lin_length τ)] : List va_W).flatten
theorem mW_fr {l : Launch} {y : MethodName} {c : ByteArray} {n mc ms : Nat} {ret : Option FieldType} {rm : Room} {E : PE} {av : List Value} {v : Option Value} {gs gr gc g1 g2 : List va_W} (hM : MW l y c n ret rm E av gc.flatten mc ms v g1.flatten) (iR iC iF : List Nat) (hR : iR.map (fun i => gs[i]?) = gr.map some) (hC : iC.map (fun i => gs[i]?) = gc.map some) (hn : va_nd (iR ++ iC) = true) (hnC : va_nd iC = true) (hF : iF.map (fun i => (gr ++ g1)[i]?) = g2.map some) (hnF : va_nd iF = true) : MW l y c n ret rm E av gs.flatten mc ms v g2.flatten := by
  intro sz
  have hfr : ∀ q, va_A gc.flatten sz q → va_A gs.flatten sz q := by
    intro q h
    rcases px_A_mem.mp h with ⟨x, hx, rfl⟩ | h
    · obtain ⟨g, hg, hqg⟩ := List.mem_flatten.mp hx
      exact px_A_mem.mpr (Or.inl ⟨x, List.mem_flatten.mpr ⟨g, px_pick hC hg, hqg⟩, rfl⟩)
    · exact px_A_mem.mpr (Or.inr h)
  refine Jvm.Free.MetFree.mono (hM sz) (fun a s hp => ?_) (fun _ _ _ _ _ h => h) (fun a s o t hp hq => ?_)
  · obtain ⟨q0, q1, qP, qK, qN, qD⟩ := hp
    exact ⟨q0, q1, g_P qP iC hC, qK, qN, g_D qD iC hnC hC⟩
  · obtain ⟨⟨⟨ho, hP1, hD1⟩, hz, hk⟩, L, hL1, hL2⟩ := hq
    obtain ⟨q0, q1, qP, qK, qN, qD⟩ := hp
    subst q1
    obtain ⟨hP2, hD2⟩ := g_join (A0 := va_A gs.flatten s.heap.size) (H1 := t.heap) qP qD.self iR iC hR hC hn hk hfr hP1 hD1
    exact ⟨⟨⟨ho, g_P hP2 iF hF, g_D hD2 iF hnF hF⟩, hz, fun q h1 h2 => hk q h1 (fun z => h2 (hfr q z))⟩, L, hL1, fun q hq => hfr _ (hL2 q hq)⟩
theorem mP_fr {l : Launch} {y : MethodName} {c : ByteArray} {n : Nat} {ret : Option FieldType} {rm : Room} {E : PE} {av : List Value} {v : Option Value} {gs gc : List va_W} (hM : MP l y c n ret rm E av gc.flatten v) (iC : List Nat) (hC : iC.map (fun i => gs[i]?) = gc.map some) (hnC : va_nd iC = true) : MP l y c n ret rm E av gs.flatten v := by
  intro sz
  refine Jvm.Free.MetFree.mono (hM sz) (fun a s hp => ?_) (fun _ _ _ _ _ h => h) (fun a s o t hp hq => hq)
  obtain ⟨q0, q1, qP, qK, qN, qD⟩ := hp
  exact ⟨q0, q1, g_P qP iC hC, qK, qN, g_D qD iC hnC hC⟩
def t_edit (x1 : Int32) (x2 : Int32) (x3 : Int32) (τ : TO) : Option (Int32 × TO) := (fL_edit x1 x2 x3 (t_desk_reason τ) (t_desk_detail τ) (t_mix_row τ) (t_forest_f τ) (t_before_f τ) (t_hist_rows τ) (t_hist_next τ) (t_hist_count τ)).bind fun (r, w0, w1, w2, w3, w4, w5, w6, w7) => some (r, ((t_top_isSaved τ), (t_top_wrongPosition τ), w0, w1, w2, (t_mix_conflictCount τ), (t_mix_lowest τ), w3, w4, (t_saved_f τ), w5, w6, w7, (t_walk_commits τ), (t_walk_length τ), (t_walk_looks τ), (t_inp_signs τ), (t_inp_length τ), (t_ord_rows τ), (t_ord_count τ), (t_ord_position τ), (t_ord_column τ), (t_lin_signs τ), (t_lin_length τ)))
theorem mT_edit (l : Launch) (hlt : l.stackTraces = false) (E : PE) (X : PX) (L : LX) (b : Nat → Nat → Nat) (x1 : Int32) (x2 : Int32) (x3 : Int32) (τ : TO) (r : Int32) (τ1 : TO) (h : t_edit x1 x2 x3 τ = some (r, τ1)) : ML l yL_edit cL_edit 5 (some .int) [(0, 7, 8, 13), (0, 7, 14, 15), (0, 7, 20, 17)] { frames := 8, cells := 1, slots := 6, locals := 134 } E X L [.ref (b 0 0), .int x1, .int x2, .int x3] ([gO E b τ] : List va_W).flatten 1 6 (some (.int r)) ([gO E b τ1] : List va_W).flatten := by
  unfold t_edit at h
  obtain ⟨⟨r0, w0, w1, w2, w3, w4, w5, w6, w7⟩, hr, h⟩ := ob h
  cases h
  simp only [fl1]
  exact mL_edit l hlt E X L (b 0) (b 1) (b 2) (b 3) (b 4) (b 5) (b 6) (b 7) (b 8) (b 9) (b 10) x1 x2 x3 (t_top_isSaved τ) (t_top_wrongPosition τ) (t_desk_reason τ) (t_desk_detail τ) (t_mix_row τ) (t_mix_conflictCount τ) (t_mix_lowest τ) (t_forest_f τ) (t_before_f τ) (t_saved_f τ) (t_hist_rows τ) (t_hist_next τ) (t_hist_count τ) (t_walk_commits τ) (t_walk_length τ) (t_walk_looks τ) (t_inp_signs τ) (t_inp_length τ) (t_ord_rows τ) (t_ord_count τ) (t_ord_position τ) (t_ord_column τ) (t_lin_signs τ) (t_lin_length τ) r w0 w1 w2 w3 w4 w5 w6 w7 hr
def t_fork (x1 : Int32) (τ : TO) : Option (Int32 × TO) := (fL_fork x1 (t_desk_reason τ) (t_desk_detail τ) (t_forest_f τ) (t_before_f τ) (t_hist_rows τ) (t_hist_next τ) (t_hist_count τ)).bind fun (r, w0, w1, w2, w3, w4, w5, w6) => some (r, ((t_top_isSaved τ), (t_top_wrongPosition τ), w0, w1, (t_mix_row τ), (t_mix_conflictCount τ), (t_mix_lowest τ), w2, w3, (t_saved_f τ), w4, w5, w6, (t_walk_commits τ), (t_walk_length τ), (t_walk_looks τ), (t_inp_signs τ), (t_inp_length τ), (t_ord_rows τ), (t_ord_count τ), (t_ord_position τ), (t_ord_column τ), (t_lin_signs τ), (t_lin_length τ)))
theorem mT_fork (l : Launch) (hlt : l.stackTraces = false) (E : PE) (X : PX) (L : LX) (b : Nat → Nat → Nat) (x1 : Int32) (τ : TO) (r : Int32) (τ1 : TO) (h : t_fork x1 τ = some (r, τ1)) : ML l yL_fork cL_fork 3 (some .int) [(0, 5, 6, 13), (0, 5, 11, 17)] { frames := 8, cells := 1, slots := 6, locals := 132 } E X L [.ref (b 0 0), .int x1] ([gO E b τ] : List va_W).flatten 1 6 (some (.int r)) ([gO E b τ1] : List va_W).flatten := by
  unfold t_fork at h
  obtain ⟨⟨r0, w0, w1, w2, w3, w4, w5, w6⟩, hr, h⟩ := ob h
  cases h
  simp only [fl1]
  exact mL_fork l hlt E X L (b 0) (b 1) (b 2) (b 3) (b 4) (b 5) (b 6) (b 7) (b 8) (b 9) (b 10) x1 (t_top_isSaved τ) (t_top_wrongPosition τ) (t_desk_reason τ) (t_desk_detail τ) (t_mix_row τ) (t_mix_conflictCount τ) (t_mix_lowest τ) (t_forest_f τ) (t_before_f τ) (t_saved_f τ) (t_hist_rows τ) (t_hist_next τ) (t_hist_count τ) (t_walk_commits τ) (t_walk_length τ) (t_walk_looks τ) (t_inp_signs τ) (t_inp_length τ) (t_ord_rows τ) (t_ord_count τ) (t_ord_position τ) (t_ord_column τ) (t_lin_signs τ) (t_lin_length τ) r w0 w1 w2 w3 w4 w5 w6 hr
def t_reset (x1 : Int32) (x2 : Int32) (τ : TO) : Option (Int32 × TO) := (fL_reset x1 x2 (t_desk_reason τ) (t_desk_detail τ) (t_forest_f τ) (t_before_f τ) (t_hist_rows τ) (t_hist_next τ) (t_hist_count τ)).bind fun (r, w0, w1, w2, w3, w4, w5, w6) => some (r, ((t_top_isSaved τ), (t_top_wrongPosition τ), w0, w1, (t_mix_row τ), (t_mix_conflictCount τ), (t_mix_lowest τ), w2, w3, (t_saved_f τ), w4, w5, w6, (t_walk_commits τ), (t_walk_length τ), (t_walk_looks τ), (t_inp_signs τ), (t_inp_length τ), (t_ord_rows τ), (t_ord_count τ), (t_ord_position τ), (t_ord_column τ), (t_lin_signs τ), (t_lin_length τ)))
theorem mT_reset (l : Launch) (hlt : l.stackTraces = false) (E : PE) (X : PX) (L : LX) (b : Nat → Nat → Nat) (x1 : Int32) (x2 : Int32) (τ : TO) (r : Int32) (τ1 : TO) (h : t_reset x1 x2 τ = some (r, τ1)) : ML l yL_reset cL_reset 4 (some .int) [(0, 6, 7, 13), (0, 6, 12, 17)] { frames := 8, cells := 1, slots := 6, locals := 133 } E X L [.ref (b 0 0), .int x1, .int x2] ([gO E b τ] : List va_W).flatten 1 6 (some (.int r)) ([gO E b τ1] : List va_W).flatten := by
  unfold t_reset at h
  obtain ⟨⟨r0, w0, w1, w2, w3, w4, w5, w6⟩, hr, h⟩ := ob h
  cases h
  simp only [fl1]
  exact mL_reset l hlt E X L (b 0) (b 1) (b 2) (b 3) (b 4) (b 5) (b 6) (b 7) (b 8) (b 9) (b 10) x1 x2 (t_top_isSaved τ) (t_top_wrongPosition τ) (t_desk_reason τ) (t_desk_detail τ) (t_mix_row τ) (t_mix_conflictCount τ) (t_mix_lowest τ) (t_forest_f τ) (t_before_f τ) (t_saved_f τ) (t_hist_rows τ) (t_hist_next τ) (t_hist_count τ) (t_walk_commits τ) (t_walk_length τ) (t_walk_looks τ) (t_inp_signs τ) (t_inp_length τ) (t_ord_rows τ) (t_ord_count τ) (t_ord_position τ) (t_ord_column τ) (t_lin_signs τ) (t_lin_length τ) r w0 w1 w2 w3 w4 w5 w6 hr
def t_tip (x1 : Int32) (τ : TO) : Option (Int32 × TO) := (fL_tip x1 (t_forest_f τ)).bind fun r => some (r, τ)
theorem mT_tip (l : Launch) (hlt : l.stackTraces = false) (E : PE) (X : PX) (L : LX) (b : Nat → Nat → Nat) (x1 : Int32) (τ : TO) (r : Int32) (τ1 : TO) (h : t_tip x1 τ = some (r, τ1)) : ML l yL_tip cL_tip 3 (some .int) [(0, 5, 6, 13)] { frames := 8, cells := 1, slots := 6, locals := 132 } E X L [.ref (b 0 0), .int x1] ([gO E b τ] : List va_W).flatten 1 6 (some (.int r)) ([gO E b τ1] : List va_W).flatten := by
  unfold t_tip at h
  obtain ⟨r0, hr, h⟩ := ob h
  cases h
  simp only [fl1]
  exact mL_tip l hlt E X L (b 0) (b 1) (b 2) (b 3) (b 4) (b 5) (b 6) (b 7) (b 8) (b 9) (b 10) x1 (t_top_isSaved τ) (t_top_wrongPosition τ) (t_desk_reason τ) (t_desk_detail τ) (t_mix_row τ) (t_mix_conflictCount τ) (t_mix_lowest τ) (t_forest_f τ) (t_before_f τ) (t_saved_f τ) (t_hist_rows τ) (t_hist_next τ) (t_hist_count τ) (t_walk_commits τ) (t_walk_length τ) (t_walk_looks τ) (t_inp_signs τ) (t_inp_length τ) (t_ord_rows τ) (t_ord_count τ) (t_ord_position τ) (t_ord_column τ) (t_lin_signs τ) (t_lin_length τ) r  hr
def t_amount (x1 : Int32) (x2 : Int32) (τ : TO) : Option (Int32 × TO) := (fL_amount x1 x2 (t_forest_f τ)).bind fun r => some (r, τ)
theorem mT_amount (l : Launch) (hlt : l.stackTraces = false) (E : PE) (X : PX) (L : LX) (b : Nat → Nat → Nat) (x1 : Int32) (x2 : Int32) (τ : TO) (r : Int32) (τ1 : TO) (h : t_amount x1 x2 τ = some (r, τ1)) : ML l yL_amount cL_amount 4 (some .int) [(0, 6, 7, 13)] { frames := 8, cells := 2, slots := 12, locals := 133 } E X L [.ref (b 0 0), .int x1, .int x2] ([gO E b τ] : List va_W).flatten 2 12 (some (.int r)) ([gO E b τ1] : List va_W).flatten := by
  unfold t_amount at h
  obtain ⟨r0, hr, h⟩ := ob h
  cases h
  simp only [fl1]
  exact mL_amount l hlt E X L (b 0) (b 1) (b 2) (b 3) (b 4) (b 5) (b 6) (b 7) (b 8) (b 9) (b 10) x1 x2 (t_top_isSaved τ) (t_top_wrongPosition τ) (t_desk_reason τ) (t_desk_detail τ) (t_mix_row τ) (t_mix_conflictCount τ) (t_mix_lowest τ) (t_forest_f τ) (t_before_f τ) (t_saved_f τ) (t_hist_rows τ) (t_hist_next τ) (t_hist_count τ) (t_walk_commits τ) (t_walk_length τ) (t_walk_looks τ) (t_inp_signs τ) (t_inp_length τ) (t_ord_rows τ) (t_ord_count τ) (t_ord_position τ) (t_ord_column τ) (t_lin_signs τ) (t_lin_length τ) r  hr
def t_commitOf (x1 : Int32) (x2 : Int32) (τ : TO) : Option (Int32 × TO) := (fL_commitOf x1 x2 (t_forest_f τ)).bind fun r => some (r, τ)
theorem mT_commitOf (l : Launch) (hlt : l.stackTraces = false) (E : PE) (X : PX) (L : LX) (b : Nat → Nat → Nat) (x1 : Int32) (x2 : Int32) (τ : TO) (r : Int32) (τ1 : TO) (h : t_commitOf x1 x2 τ = some (r, τ1)) : ML l yL_commitOf cL_commitOf 4 (some .int) [(0, 6, 7, 13), (0, 6, 12, 15)] { frames := 8, cells := 2, slots := 12, locals := 133 } E X L [.ref (b 0 0), .int x1, .int x2] ([gO E b τ] : List va_W).flatten 2 12 (some (.int r)) ([gO E b τ1] : List va_W).flatten := by
  unfold t_commitOf at h
  obtain ⟨r0, hr, h⟩ := ob h
  cases h
  simp only [fl1]
  exact mL_commitOf l hlt E X L (b 0) (b 1) (b 2) (b 3) (b 4) (b 5) (b 6) (b 7) (b 8) (b 9) (b 10) x1 x2 (t_top_isSaved τ) (t_top_wrongPosition τ) (t_desk_reason τ) (t_desk_detail τ) (t_mix_row τ) (t_mix_conflictCount τ) (t_mix_lowest τ) (t_forest_f τ) (t_before_f τ) (t_saved_f τ) (t_hist_rows τ) (t_hist_next τ) (t_hist_count τ) (t_walk_commits τ) (t_walk_length τ) (t_walk_looks τ) (t_inp_signs τ) (t_inp_length τ) (t_ord_rows τ) (t_ord_count τ) (t_ord_position τ) (t_ord_column τ) (t_lin_signs τ) (t_lin_length τ) r  hr
def t_merge (x1 : Int32) (x2 : Int32) (x3 : Int32) (τ : TO) : Option (Int32 × TO) := (fL_merge x1 x2 x3 (t_desk_reason τ) (t_desk_detail τ) (t_mix_row τ) (t_mix_conflictCount τ) (t_mix_lowest τ) (t_forest_f τ) (t_before_f τ) (t_hist_rows τ) (t_hist_next τ) (t_hist_count τ)).bind fun (r, w0, w1, w2, w3, w4, w5, w6, w7, w8, w9) => some (r, ((t_top_isSaved τ), (t_top_wrongPosition τ), w0, w1, w2, w3, w4, w5, w6, (t_saved_f τ), w7, w8, w9, (t_walk_commits τ), (t_walk_length τ), (t_walk_looks τ), (t_inp_signs τ), (t_inp_length τ), (t_ord_rows τ), (t_ord_count τ), (t_ord_position τ), (t_ord_column τ), (t_lin_signs τ), (t_lin_length τ)))
theorem mT_merge (l : Launch) (hlt : l.stackTraces = false) (E : PE) (X : PX) (L : LX) (b : Nat → Nat → Nat) (x1 : Int32) (x2 : Int32) (x3 : Int32) (τ : TO) (r : Int32) (τ1 : TO) (h : t_merge x1 x2 x3 τ = some (r, τ1)) : ML l yL_merge cL_merge 5 (some .int) [(0, 7, 8, 13), (0, 7, 14, 15), (0, 7, 20, 17)] { frames := 8, cells := 1, slots := 6, locals := 134 } E X L [.ref (b 0 0), .int x1, .int x2, .int x3] ([gO E b τ] : List va_W).flatten 1 6 (some (.int r)) ([gO E b τ1] : List va_W).flatten := by
  unfold t_merge at h
  obtain ⟨⟨r0, w0, w1, w2, w3, w4, w5, w6, w7, w8, w9⟩, hr, h⟩ := ob h
  cases h
  simp only [fl1]
  exact mL_merge l hlt E X L (b 0) (b 1) (b 2) (b 3) (b 4) (b 5) (b 6) (b 7) (b 8) (b 9) (b 10) x1 x2 x3 (t_top_isSaved τ) (t_top_wrongPosition τ) (t_desk_reason τ) (t_desk_detail τ) (t_mix_row τ) (t_mix_conflictCount τ) (t_mix_lowest τ) (t_forest_f τ) (t_before_f τ) (t_saved_f τ) (t_hist_rows τ) (t_hist_next τ) (t_hist_count τ) (t_walk_commits τ) (t_walk_length τ) (t_walk_looks τ) (t_inp_signs τ) (t_inp_length τ) (t_ord_rows τ) (t_ord_count τ) (t_ord_position τ) (t_ord_column τ) (t_lin_signs τ) (t_lin_length τ) r w0 w1 w2 w3 w4 w5 w6 w7 w8 w9 hr
def t_pick (x1 : Int32) (x2 : Int32) (x3 : Int32) (τ : TO) : Option (Int32 × TO) := (fL_pick x1 x2 x3 (t_desk_reason τ) (t_desk_detail τ) (t_mix_row τ) (t_mix_conflictCount τ) (t_mix_lowest τ) (t_forest_f τ) (t_before_f τ) (t_hist_rows τ) (t_hist_next τ) (t_hist_count τ)).bind fun (r, w0, w1, w2, w3, w4, w5, w6, w7, w8, w9) => some (r, ((t_top_isSaved τ), (t_top_wrongPosition τ), w0, w1, w2, w3, w4, w5, w6, (t_saved_f τ), w7, w8, w9, (t_walk_commits τ), (t_walk_length τ), (t_walk_looks τ), (t_inp_signs τ), (t_inp_length τ), (t_ord_rows τ), (t_ord_count τ), (t_ord_position τ), (t_ord_column τ), (t_lin_signs τ), (t_lin_length τ)))
theorem mT_pick (l : Launch) (hlt : l.stackTraces = false) (E : PE) (X : PX) (L : LX) (b : Nat → Nat → Nat) (x1 : Int32) (x2 : Int32) (x3 : Int32) (τ : TO) (r : Int32) (τ1 : TO) (h : t_pick x1 x2 x3 τ = some (r, τ1)) : ML l yL_pick cL_pick 5 (some .int) [(0, 7, 8, 13), (0, 7, 14, 15), (0, 7, 20, 17)] { frames := 8, cells := 1, slots := 6, locals := 134 } E X L [.ref (b 0 0), .int x1, .int x2, .int x3] ([gO E b τ] : List va_W).flatten 1 6 (some (.int r)) ([gO E b τ1] : List va_W).flatten := by
  unfold t_pick at h
  obtain ⟨⟨r0, w0, w1, w2, w3, w4, w5, w6, w7, w8, w9⟩, hr, h⟩ := ob h
  cases h
  simp only [fl1]
  exact mL_pick l hlt E X L (b 0) (b 1) (b 2) (b 3) (b 4) (b 5) (b 6) (b 7) (b 8) (b 9) (b 10) x1 x2 x3 (t_top_isSaved τ) (t_top_wrongPosition τ) (t_desk_reason τ) (t_desk_detail τ) (t_mix_row τ) (t_mix_conflictCount τ) (t_mix_lowest τ) (t_forest_f τ) (t_before_f τ) (t_saved_f τ) (t_hist_rows τ) (t_hist_next τ) (t_hist_count τ) (t_walk_commits τ) (t_walk_length τ) (t_walk_looks τ) (t_inp_signs τ) (t_inp_length τ) (t_ord_rows τ) (t_ord_count τ) (t_ord_position τ) (t_ord_column τ) (t_lin_signs τ) (t_lin_length τ) r w0 w1 w2 w3 w4 w5 w6 w7 w8 w9 hr
def t_revert (x1 : Int32) (x2 : Int32) (x3 : Int32) (τ : TO) : Option (Int32 × TO) := (fL_revert x1 x2 x3 (t_desk_reason τ) (t_desk_detail τ) (t_mix_row τ) (t_mix_conflictCount τ) (t_mix_lowest τ) (t_forest_f τ) (t_before_f τ) (t_hist_rows τ) (t_hist_next τ) (t_hist_count τ)).bind fun (r, w0, w1, w2, w3, w4, w5, w6, w7, w8, w9) => some (r, ((t_top_isSaved τ), (t_top_wrongPosition τ), w0, w1, w2, w3, w4, w5, w6, (t_saved_f τ), w7, w8, w9, (t_walk_commits τ), (t_walk_length τ), (t_walk_looks τ), (t_inp_signs τ), (t_inp_length τ), (t_ord_rows τ), (t_ord_count τ), (t_ord_position τ), (t_ord_column τ), (t_lin_signs τ), (t_lin_length τ)))
theorem mT_revert (l : Launch) (hlt : l.stackTraces = false) (E : PE) (X : PX) (L : LX) (b : Nat → Nat → Nat) (x1 : Int32) (x2 : Int32) (x3 : Int32) (τ : TO) (r : Int32) (τ1 : TO) (h : t_revert x1 x2 x3 τ = some (r, τ1)) : ML l yL_revert cL_revert 5 (some .int) [(0, 7, 8, 13), (0, 7, 14, 15), (0, 7, 20, 17)] { frames := 8, cells := 1, slots := 6, locals := 134 } E X L [.ref (b 0 0), .int x1, .int x2, .int x3] ([gO E b τ] : List va_W).flatten 1 6 (some (.int r)) ([gO E b τ1] : List va_W).flatten := by
  unfold t_revert at h
  obtain ⟨⟨r0, w0, w1, w2, w3, w4, w5, w6, w7, w8, w9⟩, hr, h⟩ := ob h
  cases h
  simp only [fl1]
  exact mL_revert l hlt E X L (b 0) (b 1) (b 2) (b 3) (b 4) (b 5) (b 6) (b 7) (b 8) (b 9) (b 10) x1 x2 x3 (t_top_isSaved τ) (t_top_wrongPosition τ) (t_desk_reason τ) (t_desk_detail τ) (t_mix_row τ) (t_mix_conflictCount τ) (t_mix_lowest τ) (t_forest_f τ) (t_before_f τ) (t_saved_f τ) (t_hist_rows τ) (t_hist_next τ) (t_hist_count τ) (t_walk_commits τ) (t_walk_length τ) (t_walk_looks τ) (t_inp_signs τ) (t_inp_length τ) (t_ord_rows τ) (t_ord_count τ) (t_ord_position τ) (t_ord_column τ) (t_lin_signs τ) (t_lin_length τ) r w0 w1 w2 w3 w4 w5 w6 w7 w8 w9 hr
def t_conflicts (x1 : Int32) (x2 : Int32) (τ : TO) : Option (Int32 × TO) := (fL_conflicts x1 x2 (t_mix_row τ) (t_mix_conflictCount τ) (t_mix_lowest τ) (t_forest_f τ)).bind fun (r, w0, w1, w2) => some (r, ((t_top_isSaved τ), (t_top_wrongPosition τ), (t_desk_reason τ), (t_desk_detail τ), w0, w1, w2, (t_forest_f τ), (t_before_f τ), (t_saved_f τ), (t_hist_rows τ), (t_hist_next τ), (t_hist_count τ), (t_walk_commits τ), (t_walk_length τ), (t_walk_looks τ), (t_inp_signs τ), (t_inp_length τ), (t_ord_rows τ), (t_ord_count τ), (t_ord_position τ), (t_ord_column τ), (t_lin_signs τ), (t_lin_length τ)))
theorem mT_conflicts (l : Launch) (hlt : l.stackTraces = false) (E : PE) (X : PX) (L : LX) (b : Nat → Nat → Nat) (x1 : Int32) (x2 : Int32) (τ : TO) (r : Int32) (τ1 : TO) (h : t_conflicts x1 x2 τ = some (r, τ1)) : ML l yL_conflicts cL_conflicts 4 (some .int) [(0, 6, 7, 13)] { frames := 8, cells := 2, slots := 12, locals := 133 } E X L [.ref (b 0 0), .int x1, .int x2] ([gO E b τ] : List va_W).flatten 2 12 (some (.int r)) ([gO E b τ1] : List va_W).flatten := by
  unfold t_conflicts at h
  obtain ⟨⟨r0, w0, w1, w2⟩, hr, h⟩ := ob h
  cases h
  simp only [fl1]
  exact mL_conflicts l hlt E X L (b 0) (b 1) (b 2) (b 3) (b 4) (b 5) (b 6) (b 7) (b 8) (b 9) (b 10) x1 x2 (t_top_isSaved τ) (t_top_wrongPosition τ) (t_desk_reason τ) (t_desk_detail τ) (t_mix_row τ) (t_mix_conflictCount τ) (t_mix_lowest τ) (t_forest_f τ) (t_before_f τ) (t_saved_f τ) (t_hist_rows τ) (t_hist_next τ) (t_hist_count τ) (t_walk_commits τ) (t_walk_length τ) (t_walk_looks τ) (t_inp_signs τ) (t_inp_length τ) (t_ord_rows τ) (t_ord_count τ) (t_ord_position τ) (t_ord_column τ) (t_lin_signs τ) (t_lin_length τ) r w0 w1 w2 hr
def t_in (x1 : Int32) (x2 : Int32) (τ : TO) : Option (Int32 × TO) := (fL_in x1 x2 (t_forest_f τ)).bind fun r => some (r, τ)
theorem mT_in (l : Launch) (hlt : l.stackTraces = false) (E : PE) (X : PX) (L : LX) (b : Nat → Nat → Nat) (x1 : Int32) (x2 : Int32) (τ : TO) (r : Int32) (τ1 : TO) (h : t_in x1 x2 τ = some (r, τ1)) : ML l yL_in cL_in 4 (some .int) [(0, 14, 15, 13)] { frames := 8, cells := 2, slots := 12, locals := 133 } E X L [.ref (b 0 0), .int x1, .int x2] ([gO E b τ] : List va_W).flatten 2 12 (some (.int r)) ([gO E b τ1] : List va_W).flatten := by
  unfold t_in at h
  obtain ⟨r0, hr, h⟩ := ob h
  cases h
  simp only [fl1]
  exact mL_in l hlt E X L (b 0) (b 1) (b 2) (b 3) (b 4) (b 5) (b 6) (b 7) (b 8) (b 9) (b 10) x1 x2 (t_top_isSaved τ) (t_top_wrongPosition τ) (t_desk_reason τ) (t_desk_detail τ) (t_mix_row τ) (t_mix_conflictCount τ) (t_mix_lowest τ) (t_forest_f τ) (t_before_f τ) (t_saved_f τ) (t_hist_rows τ) (t_hist_next τ) (t_hist_count τ) (t_walk_commits τ) (t_walk_length τ) (t_walk_looks τ) (t_inp_signs τ) (t_inp_length τ) (t_ord_rows τ) (t_ord_count τ) (t_ord_position τ) (t_ord_column τ) (t_lin_signs τ) (t_lin_length τ) r  hr
def t_base (x1 : Int32) (x2 : Int32) (τ : TO) : Option (Int32 × TO) := (fL_base x1 x2 (t_forest_f τ)).bind fun r => some (r, τ)
theorem mT_base (l : Launch) (hlt : l.stackTraces = false) (E : PE) (X : PX) (L : LX) (b : Nat → Nat → Nat) (x1 : Int32) (x2 : Int32) (τ : TO) (r : Int32) (τ1 : TO) (h : t_base x1 x2 τ = some (r, τ1)) : ML l yL_base cL_base 4 (some .int) [(0, 6, 7, 13)] { frames := 8, cells := 2, slots := 12, locals := 133 } E X L [.ref (b 0 0), .int x1, .int x2] ([gO E b τ] : List va_W).flatten 2 12 (some (.int r)) ([gO E b τ1] : List va_W).flatten := by
  unfold t_base at h
  obtain ⟨r0, hr, h⟩ := ob h
  cases h
  simp only [fl1]
  exact mL_base l hlt E X L (b 0) (b 1) (b 2) (b 3) (b 4) (b 5) (b 6) (b 7) (b 8) (b 9) (b 10) x1 x2 (t_top_isSaved τ) (t_top_wrongPosition τ) (t_desk_reason τ) (t_desk_detail τ) (t_mix_row τ) (t_mix_conflictCount τ) (t_mix_lowest τ) (t_forest_f τ) (t_before_f τ) (t_saved_f τ) (t_hist_rows τ) (t_hist_next τ) (t_hist_count τ) (t_walk_commits τ) (t_walk_length τ) (t_walk_looks τ) (t_inp_signs τ) (t_inp_length τ) (t_ord_rows τ) (t_ord_count τ) (t_ord_position τ) (t_ord_column τ) (t_lin_signs τ) (t_lin_length τ) r  hr
def t_baseAgain (x1 : Int32) (x2 : Int32) (τ : TO) : Option (Int32 × TO) := (fL_baseAgain x1 x2 (t_forest_f τ)).bind fun r => some (r, τ)
theorem mT_baseAgain (l : Launch) (hlt : l.stackTraces = false) (E : PE) (X : PX) (L : LX) (b : Nat → Nat → Nat) (x1 : Int32) (x2 : Int32) (τ : TO) (r : Int32) (τ1 : TO) (h : t_baseAgain x1 x2 τ = some (r, τ1)) : ML l yL_baseAgain cL_baseAgain 4 (some .int) [(0, 6, 7, 13)] { frames := 8, cells := 2, slots := 12, locals := 133 } E X L [.ref (b 0 0), .int x1, .int x2] ([gO E b τ] : List va_W).flatten 2 12 (some (.int r)) ([gO E b τ1] : List va_W).flatten := by
  unfold t_baseAgain at h
  obtain ⟨r0, hr, h⟩ := ob h
  cases h
  simp only [fl1]
  exact mL_baseAgain l hlt E X L (b 0) (b 1) (b 2) (b 3) (b 4) (b 5) (b 6) (b 7) (b 8) (b 9) (b 10) x1 x2 (t_top_isSaved τ) (t_top_wrongPosition τ) (t_desk_reason τ) (t_desk_detail τ) (t_mix_row τ) (t_mix_conflictCount τ) (t_mix_lowest τ) (t_forest_f τ) (t_before_f τ) (t_saved_f τ) (t_hist_rows τ) (t_hist_next τ) (t_hist_count τ) (t_walk_commits τ) (t_walk_length τ) (t_walk_looks τ) (t_inp_signs τ) (t_inp_length τ) (t_ord_rows τ) (t_ord_count τ) (t_ord_position τ) (t_ord_column τ) (t_lin_signs τ) (t_lin_length τ) r  hr
def t_difference (x1 : Int32) (x2 : Int32) (τ : TO) : Option (Int32 × TO) := (fL_difference x1 x2 (t_forest_f τ)).bind fun r => some (r, τ)
theorem mT_difference (l : Launch) (hlt : l.stackTraces = false) (E : PE) (X : PX) (L : LX) (b : Nat → Nat → Nat) (x1 : Int32) (x2 : Int32) (τ : TO) (r : Int32) (τ1 : TO) (h : t_difference x1 x2 τ = some (r, τ1)) : ML l yL_difference cL_difference 4 (some .int) [(0, 6, 7, 13)] { frames := 8, cells := 2, slots := 12, locals := 135 } E X L [.ref (b 0 0), .int x1, .int x2] ([gO E b τ] : List va_W).flatten 2 12 (some (.int r)) ([gO E b τ1] : List va_W).flatten := by
  unfold t_difference at h
  obtain ⟨r0, hr, h⟩ := ob h
  cases h
  simp only [fl1]
  exact mL_difference l hlt E X L (b 0) (b 1) (b 2) (b 3) (b 4) (b 5) (b 6) (b 7) (b 8) (b 9) (b 10) x1 x2 (t_top_isSaved τ) (t_top_wrongPosition τ) (t_desk_reason τ) (t_desk_detail τ) (t_mix_row τ) (t_mix_conflictCount τ) (t_mix_lowest τ) (t_forest_f τ) (t_before_f τ) (t_saved_f τ) (t_hist_rows τ) (t_hist_next τ) (t_hist_count τ) (t_walk_commits τ) (t_walk_length τ) (t_walk_looks τ) (t_inp_signs τ) (t_inp_length τ) (t_ord_rows τ) (t_ord_count τ) (t_ord_position τ) (t_ord_column τ) (t_lin_signs τ) (t_lin_length τ) r  hr
def t_onLine (x1 : Int32) (x2 : Int32) (τ : TO) : Option (Int32 × TO) := (fL_onLine x1 x2 (t_forest_f τ) (t_walk_commits τ) (t_walk_length τ)).bind fun (r, w0, w1) => some (r, ((t_top_isSaved τ), (t_top_wrongPosition τ), (t_desk_reason τ), (t_desk_detail τ), (t_mix_row τ), (t_mix_conflictCount τ), (t_mix_lowest τ), (t_forest_f τ), (t_before_f τ), (t_saved_f τ), (t_hist_rows τ), (t_hist_next τ), (t_hist_count τ), w0, w1, (t_walk_looks τ), (t_inp_signs τ), (t_inp_length τ), (t_ord_rows τ), (t_ord_count τ), (t_ord_position τ), (t_ord_column τ), (t_lin_signs τ), (t_lin_length τ)))
theorem mT_onLine (l : Launch) (hlt : l.stackTraces = false) (E : PE) (X : PX) (L : LX) (b : Nat → Nat → Nat) (x1 : Int32) (x2 : Int32) (τ : TO) (r : Int32) (τ1 : TO) (h : t_onLine x1 x2 τ = some (r, τ1)) : ML l yL_onLine cL_onLine 4 (some .int) [(0, 6, 7, 13), (0, 6, 12, 64)] { frames := 8, cells := 2, slots := 12, locals := 134 } E X L [.ref (b 0 0), .int x1, .int x2] ([gO E b τ] : List va_W).flatten 2 12 (some (.int r)) ([gO E b τ1] : List va_W).flatten := by
  unfold t_onLine at h
  obtain ⟨⟨r0, w0, w1⟩, hr, h⟩ := ob h
  cases h
  simp only [fl1]
  exact mL_onLine l hlt E X L (b 0) (b 1) (b 2) (b 3) (b 4) (b 5) (b 6) (b 7) (b 8) (b 9) (b 10) x1 x2 (t_top_isSaved τ) (t_top_wrongPosition τ) (t_desk_reason τ) (t_desk_detail τ) (t_mix_row τ) (t_mix_conflictCount τ) (t_mix_lowest τ) (t_forest_f τ) (t_before_f τ) (t_saved_f τ) (t_hist_rows τ) (t_hist_next τ) (t_hist_count τ) (t_walk_commits τ) (t_walk_length τ) (t_walk_looks τ) (t_inp_signs τ) (t_inp_length τ) (t_ord_rows τ) (t_ord_count τ) (t_ord_position τ) (t_ord_column τ) (t_lin_signs τ) (t_lin_length τ) r w0 w1 hr
def t_halve (x1 : Int32) (x2 : Int32) (x3 : Int32) (x4 : Int32) (τ : TO) : Option (Int32 × TO) := (fL_halve x1 x2 x3 x4 (t_forest_f τ) (t_walk_commits τ) (t_walk_length τ) (t_walk_looks τ)).bind fun (r, w0, w1, w2) => some (r, ((t_top_isSaved τ), (t_top_wrongPosition τ), (t_desk_reason τ), (t_desk_detail τ), (t_mix_row τ), (t_mix_conflictCount τ), (t_mix_lowest τ), (t_forest_f τ), (t_before_f τ), (t_saved_f τ), (t_hist_rows τ), (t_hist_next τ), (t_hist_count τ), w0, w1, w2, (t_inp_signs τ), (t_inp_length τ), (t_ord_rows τ), (t_ord_count τ), (t_ord_position τ), (t_ord_column τ), (t_lin_signs τ), (t_lin_length τ)))
theorem mT_halve (l : Launch) (hlt : l.stackTraces = false) (E : PE) (X : PX) (L : LX) (b : Nat → Nat → Nat) (x1 : Int32) (x2 : Int32) (x3 : Int32) (x4 : Int32) (τ : TO) (r : Int32) (τ1 : TO) (h : t_halve x1 x2 x3 x4 τ = some (r, τ1)) : ML l yL_halve cL_halve 6 (some .int) [(0, 9, 10, 13), (0, 9, 16, 15), (0, 9, 22, 64)] { frames := 8, cells := 4, slots := 24, locals := 137 } E X L [.ref (b 0 0), .int x1, .int x2, .int x3, .int x4] ([gO E b τ] : List va_W).flatten 4 24 (some (.int r)) ([gO E b τ1] : List va_W).flatten := by
  unfold t_halve at h
  obtain ⟨⟨r0, w0, w1, w2⟩, hr, h⟩ := ob h
  cases h
  simp only [fl1]
  exact mL_halve l hlt E X L (b 0) (b 1) (b 2) (b 3) (b 4) (b 5) (b 6) (b 7) (b 8) (b 9) (b 10) x1 x2 x3 x4 (t_top_isSaved τ) (t_top_wrongPosition τ) (t_desk_reason τ) (t_desk_detail τ) (t_mix_row τ) (t_mix_conflictCount τ) (t_mix_lowest τ) (t_forest_f τ) (t_before_f τ) (t_saved_f τ) (t_hist_rows τ) (t_hist_next τ) (t_hist_count τ) (t_walk_commits τ) (t_walk_length τ) (t_walk_looks τ) (t_inp_signs τ) (t_inp_length τ) (t_ord_rows τ) (t_ord_count τ) (t_ord_position τ) (t_ord_column τ) (t_lin_signs τ) (t_lin_length τ) r w0 w1 w2 hr
def t_firstBad (x1 : Int32) (x2 : Int32) (x3 : Int32) (τ : TO) : Option (Int32 × TO) := (fL_firstBad x1 x2 x3 (t_forest_f τ) (t_walk_commits τ) (t_walk_length τ)).bind fun (r, w0, w1) => some (r, ((t_top_isSaved τ), (t_top_wrongPosition τ), (t_desk_reason τ), (t_desk_detail τ), (t_mix_row τ), (t_mix_conflictCount τ), (t_mix_lowest τ), (t_forest_f τ), (t_before_f τ), (t_saved_f τ), (t_hist_rows τ), (t_hist_next τ), (t_hist_count τ), w0, w1, (t_walk_looks τ), (t_inp_signs τ), (t_inp_length τ), (t_ord_rows τ), (t_ord_count τ), (t_ord_position τ), (t_ord_column τ), (t_lin_signs τ), (t_lin_length τ)))
theorem mT_firstBad (l : Launch) (hlt : l.stackTraces = false) (E : PE) (X : PX) (L : LX) (b : Nat → Nat → Nat) (x1 : Int32) (x2 : Int32) (x3 : Int32) (τ : TO) (r : Int32) (τ1 : TO) (h : t_firstBad x1 x2 x3 τ = some (r, τ1)) : ML l yL_firstBad cL_firstBad 5 (some .int) [(0, 7, 8, 13), (0, 7, 14, 15), (0, 7, 20, 64)] { frames := 8, cells := 4, slots := 24, locals := 135 } E X L [.ref (b 0 0), .int x1, .int x2, .int x3] ([gO E b τ] : List va_W).flatten 4 24 (some (.int r)) ([gO E b τ1] : List va_W).flatten := by
  unfold t_firstBad at h
  obtain ⟨⟨r0, w0, w1⟩, hr, h⟩ := ob h
  cases h
  simp only [fl1]
  exact mL_firstBad l hlt E X L (b 0) (b 1) (b 2) (b 3) (b 4) (b 5) (b 6) (b 7) (b 8) (b 9) (b 10) x1 x2 x3 (t_top_isSaved τ) (t_top_wrongPosition τ) (t_desk_reason τ) (t_desk_detail τ) (t_mix_row τ) (t_mix_conflictCount τ) (t_mix_lowest τ) (t_forest_f τ) (t_before_f τ) (t_saved_f τ) (t_hist_rows τ) (t_hist_next τ) (t_hist_count τ) (t_walk_commits τ) (t_walk_length τ) (t_walk_looks τ) (t_inp_signs τ) (t_inp_length τ) (t_ord_rows τ) (t_ord_count τ) (t_ord_position τ) (t_ord_column τ) (t_lin_signs τ) (t_lin_length τ) r w0 w1 hr
def t_blame (x1 : Int32) (x2 : Int32) (τ : TO) : Option (Int32 × TO) := (fL_blame x1 x2 (t_forest_f τ) (t_walk_commits τ) (t_walk_length τ)).bind fun (r, w0, w1) => some (r, ((t_top_isSaved τ), (t_top_wrongPosition τ), (t_desk_reason τ), (t_desk_detail τ), (t_mix_row τ), (t_mix_conflictCount τ), (t_mix_lowest τ), (t_forest_f τ), (t_before_f τ), (t_saved_f τ), (t_hist_rows τ), (t_hist_next τ), (t_hist_count τ), w0, w1, (t_walk_looks τ), (t_inp_signs τ), (t_inp_length τ), (t_ord_rows τ), (t_ord_count τ), (t_ord_position τ), (t_ord_column τ), (t_lin_signs τ), (t_lin_length τ)))
theorem mT_blame (l : Launch) (hlt : l.stackTraces = false) (E : PE) (X : PX) (L : LX) (b : Nat → Nat → Nat) (x1 : Int32) (x2 : Int32) (τ : TO) (r : Int32) (τ1 : TO) (h : t_blame x1 x2 τ = some (r, τ1)) : ML l yL_blame cL_blame 4 (some .int) [(0, 6, 7, 13)] { frames := 8, cells := 2, slots := 12, locals := 133 } E X L [.ref (b 0 0), .int x1, .int x2] ([gO E b τ] : List va_W).flatten 2 12 (some (.int r)) ([gO E b τ1] : List va_W).flatten := by
  unfold t_blame at h
  obtain ⟨⟨r0, w0, w1⟩, hr, h⟩ := ob h
  cases h
  simp only [fl1]
  exact mL_blame l hlt E X L (b 0) (b 1) (b 2) (b 3) (b 4) (b 5) (b 6) (b 7) (b 8) (b 9) (b 10) x1 x2 (t_top_isSaved τ) (t_top_wrongPosition τ) (t_desk_reason τ) (t_desk_detail τ) (t_mix_row τ) (t_mix_conflictCount τ) (t_mix_lowest τ) (t_forest_f τ) (t_before_f τ) (t_saved_f τ) (t_hist_rows τ) (t_hist_next τ) (t_hist_count τ) (t_walk_commits τ) (t_walk_length τ) (t_walk_looks τ) (t_inp_signs τ) (t_inp_length τ) (t_ord_rows τ) (t_ord_count τ) (t_ord_position τ) (t_ord_column τ) (t_lin_signs τ) (t_lin_length τ) r w0 w1 hr
def t_taste (x1 : Int32) (τ : TO) : Option (UInt32 × TO) := (fL_taste x1 (t_forest_f τ)).bind fun r => some (r, τ)
theorem mT_taste (l : Launch) (hlt : l.stackTraces = false) (E : PE) (X : PX) (L : LX) (b : Nat → Nat → Nat) (x1 : Int32) (τ : TO) (r : UInt32) (τ1 : TO) (h : t_taste x1 τ = some (r, τ1)) : ML l yL_taste cL_taste 3 (some .float) [(0, 5, 6, 13)] { frames := 8, cells := 1, slots := 6, locals := 132 } E X L [.ref (b 0 0), .int x1] ([gO E b τ] : List va_W).flatten 1 6 (some (.float r)) ([gO E b τ1] : List va_W).flatten := by
  unfold t_taste at h
  obtain ⟨r0, hr, h⟩ := ob h
  cases h
  simp only [fl1]
  exact mL_taste l hlt E X L (b 0) (b 1) (b 2) (b 3) (b 4) (b 5) (b 6) (b 7) (b 8) (b 9) (b 10) x1 (t_top_isSaved τ) (t_top_wrongPosition τ) (t_desk_reason τ) (t_desk_detail τ) (t_mix_row τ) (t_mix_conflictCount τ) (t_mix_lowest τ) (t_forest_f τ) (t_before_f τ) (t_saved_f τ) (t_hist_rows τ) (t_hist_next τ) (t_hist_count τ) (t_walk_commits τ) (t_walk_length τ) (t_walk_looks τ) (t_inp_signs τ) (t_inp_length τ) (t_ord_rows τ) (t_ord_count τ) (t_ord_position τ) (t_ord_column τ) (t_lin_signs τ) (t_lin_length τ) r  hr
def t_tasteBits (x1 : Int32) (τ : TO) : Option (Int32 × TO) := (fL_tasteBits x1 (t_forest_f τ)).bind fun r => some (r, τ)
theorem mT_tasteBits (l : Launch) (hlt : l.stackTraces = false) (E : PE) (X : PX) (L : LX) (b : Nat → Nat → Nat) (x1 : Int32) (τ : TO) (r : Int32) (τ1 : TO) (h : t_tasteBits x1 τ = some (r, τ1)) : ML l yL_tasteBits cL_tasteBits 3 (some .int) [(0, 5, 6, 13)] { frames := 8, cells := 1, slots := 6, locals := 132 } E X L [.ref (b 0 0), .int x1] ([gO E b τ] : List va_W).flatten 1 6 (some (.int r)) ([gO E b τ1] : List va_W).flatten := by
  unfold t_tasteBits at h
  obtain ⟨r0, hr, h⟩ := ob h
  cases h
  simp only [fl1]
  exact mL_tasteBits l hlt E X L (b 0) (b 1) (b 2) (b 3) (b 4) (b 5) (b 6) (b 7) (b 8) (b 9) (b 10) x1 (t_top_isSaved τ) (t_top_wrongPosition τ) (t_desk_reason τ) (t_desk_detail τ) (t_mix_row τ) (t_mix_conflictCount τ) (t_mix_lowest τ) (t_forest_f τ) (t_before_f τ) (t_saved_f τ) (t_hist_rows τ) (t_hist_next τ) (t_hist_count τ) (t_walk_commits τ) (t_walk_length τ) (t_walk_looks τ) (t_inp_signs τ) (t_inp_length τ) (t_ord_rows τ) (t_ord_count τ) (t_ord_position τ) (t_ord_column τ) (t_lin_signs τ) (t_lin_length τ) r  hr
def t_tastiest (x1 : Int32) (τ : TO) : Option (Int32 × TO) := (fL_tastiest x1 (t_forest_f τ) (t_walk_commits τ) (t_walk_length τ)).bind fun (r, w0, w1) => some (r, ((t_top_isSaved τ), (t_top_wrongPosition τ), (t_desk_reason τ), (t_desk_detail τ), (t_mix_row τ), (t_mix_conflictCount τ), (t_mix_lowest τ), (t_forest_f τ), (t_before_f τ), (t_saved_f τ), (t_hist_rows τ), (t_hist_next τ), (t_hist_count τ), w0, w1, (t_walk_looks τ), (t_inp_signs τ), (t_inp_length τ), (t_ord_rows τ), (t_ord_count τ), (t_ord_position τ), (t_ord_column τ), (t_lin_signs τ), (t_lin_length τ)))
theorem mT_tastiest (l : Launch) (hlt : l.stackTraces = false) (E : PE) (X : PX) (L : LX) (b : Nat → Nat → Nat) (x1 : Int32) (τ : TO) (r : Int32) (τ1 : TO) (h : t_tastiest x1 τ = some (r, τ1)) : ML l yL_tastiest cL_tastiest 3 (some .int) [(0, 5, 6, 13)] { frames := 8, cells := 1, slots := 6, locals := 132 } E X L [.ref (b 0 0), .int x1] ([gO E b τ] : List va_W).flatten 1 6 (some (.int r)) ([gO E b τ1] : List va_W).flatten := by
  unfold t_tastiest at h
  obtain ⟨⟨r0, w0, w1⟩, hr, h⟩ := ob h
  cases h
  simp only [fl1]
  exact mL_tastiest l hlt E X L (b 0) (b 1) (b 2) (b 3) (b 4) (b 5) (b 6) (b 7) (b 8) (b 9) (b 10) x1 (t_top_isSaved τ) (t_top_wrongPosition τ) (t_desk_reason τ) (t_desk_detail τ) (t_mix_row τ) (t_mix_conflictCount τ) (t_mix_lowest τ) (t_forest_f τ) (t_before_f τ) (t_saved_f τ) (t_hist_rows τ) (t_hist_next τ) (t_hist_count τ) (t_walk_commits τ) (t_walk_length τ) (t_walk_looks τ) (t_inp_signs τ) (t_inp_length τ) (t_ord_rows τ) (t_ord_count τ) (t_ord_position τ) (t_ord_column τ) (t_lin_signs τ) (t_lin_length τ) r w0 w1 hr
def t_bundle (x1 : Int32) (τ : TO) : Option (Int32 × TO) := (fL_bundle x1 (t_forest_f τ) (t_before_f τ) (t_hist_rows τ) (t_hist_next τ) (t_hist_count τ)).bind fun (r, w0, w1, w2, w3, w4) => some (r, ((t_top_isSaved τ), (t_top_wrongPosition τ), (t_desk_reason τ), (t_desk_detail τ), (t_mix_row τ), (t_mix_conflictCount τ), (t_mix_lowest τ), w0, w1, (t_saved_f τ), w2, w3, w4, (t_walk_commits τ), (t_walk_length τ), (t_walk_looks τ), (t_inp_signs τ), (t_inp_length τ), (t_ord_rows τ), (t_ord_count τ), (t_ord_position τ), (t_ord_column τ), (t_lin_signs τ), (t_lin_length τ)))
theorem mT_bundle (l : Launch) (hlt : l.stackTraces = false) (E : PE) (X : PX) (L : LX) (b : Nat → Nat → Nat) (x1 : Int32) (τ : TO) (r : Int32) (τ1 : TO) (h : t_bundle x1 τ = some (r, τ1)) : ML l yL_bundle cL_bundle 3 (some .int) [(0, 5, 6, 15)] { frames := 8, cells := 1, slots := 6, locals := 132 } E X L [.ref (b 0 0), .int x1] ([gO E b τ] : List va_W).flatten 1 6 (some (.int r)) ([gO E b τ1] : List va_W).flatten := by
  unfold t_bundle at h
  obtain ⟨⟨r0, w0, w1, w2, w3, w4⟩, hr, h⟩ := ob h
  cases h
  simp only [fl1]
  exact mL_bundle l hlt E X L (b 0) (b 1) (b 2) (b 3) (b 4) (b 5) (b 6) (b 7) (b 8) (b 9) (b 10) x1 (t_top_isSaved τ) (t_top_wrongPosition τ) (t_desk_reason τ) (t_desk_detail τ) (t_mix_row τ) (t_mix_conflictCount τ) (t_mix_lowest τ) (t_forest_f τ) (t_before_f τ) (t_saved_f τ) (t_hist_rows τ) (t_hist_next τ) (t_hist_count τ) (t_walk_commits τ) (t_walk_length τ) (t_walk_looks τ) (t_inp_signs τ) (t_inp_length τ) (t_ord_rows τ) (t_ord_count τ) (t_ord_position τ) (t_ord_column τ) (t_lin_signs τ) (t_lin_length τ) r w0 w1 w2 w3 w4 hr
def t_put (x1 : Int32) (x2 : Int32) (τ : TO) : Option (Int32 × TO) := (fL_put x1 x2 (t_desk_reason τ) (t_desk_detail τ) (t_forest_f τ) (t_before_f τ) (t_hist_rows τ) (t_hist_next τ) (t_hist_count τ)).bind fun (r, w0, w1, w2, w3, w4, w5, w6) => some (r, ((t_top_isSaved τ), (t_top_wrongPosition τ), w0, w1, (t_mix_row τ), (t_mix_conflictCount τ), (t_mix_lowest τ), w2, w3, (t_saved_f τ), w4, w5, w6, (t_walk_commits τ), (t_walk_length τ), (t_walk_looks τ), (t_inp_signs τ), (t_inp_length τ), (t_ord_rows τ), (t_ord_count τ), (t_ord_position τ), (t_ord_column τ), (t_lin_signs τ), (t_lin_length τ)))
theorem mT_put (l : Launch) (hlt : l.stackTraces = false) (E : PE) (X : PX) (L : LX) (b : Nat → Nat → Nat) (x1 : Int32) (x2 : Int32) (τ : TO) (r : Int32) (τ1 : TO) (h : t_put x1 x2 τ = some (r, τ1)) : ML l yL_put cL_put 4 (some .int) [(0, 6, 7, 13), (0, 6, 12, 17)] { frames := 8, cells := 1, slots := 6, locals := 133 } E X L [.ref (b 0 0), .int x1, .int x2] ([gO E b τ] : List va_W).flatten 1 6 (some (.int r)) ([gO E b τ1] : List va_W).flatten := by
  unfold t_put at h
  obtain ⟨⟨r0, w0, w1, w2, w3, w4, w5, w6⟩, hr, h⟩ := ob h
  cases h
  simp only [fl1]
  exact mL_put l hlt E X L (b 0) (b 1) (b 2) (b 3) (b 4) (b 5) (b 6) (b 7) (b 8) (b 9) (b 10) x1 x2 (t_top_isSaved τ) (t_top_wrongPosition τ) (t_desk_reason τ) (t_desk_detail τ) (t_mix_row τ) (t_mix_conflictCount τ) (t_mix_lowest τ) (t_forest_f τ) (t_before_f τ) (t_saved_f τ) (t_hist_rows τ) (t_hist_next τ) (t_hist_count τ) (t_walk_commits τ) (t_walk_length τ) (t_walk_looks τ) (t_inp_signs τ) (t_inp_length τ) (t_ord_rows τ) (t_ord_count τ) (t_ord_position τ) (t_ord_column τ) (t_lin_signs τ) (t_lin_length τ) r w0 w1 w2 w3 w4 w5 w6 hr
def t_inBundle (x1 : Int32) (τ : TO) : Option (Int32 × TO) := (fL_inBundle x1 (t_forest_f τ)).bind fun r => some (r, τ)
theorem mT_inBundle (l : Launch) (hlt : l.stackTraces = false) (E : PE) (X : PX) (L : LX) (b : Nat → Nat → Nat) (x1 : Int32) (τ : TO) (r : Int32) (τ1 : TO) (h : t_inBundle x1 τ = some (r, τ1)) : ML l yL_inBundle cL_inBundle 3 (some .int) [(0, 5, 6, 13), (0, 5, 11, 64)] { frames := 7, cells := 1, slots := 6, locals := 112 } E X L [.ref (b 0 0), .int x1] ([gO E b τ] : List va_W).flatten 1 6 (some (.int r)) ([gO E b τ1] : List va_W).flatten := by
  unfold t_inBundle at h
  obtain ⟨r0, hr, h⟩ := ob h
  cases h
  simp only [fl1]
  exact mL_inBundle l hlt E X L (b 0) (b 1) (b 2) (b 3) (b 4) (b 5) (b 6) (b 7) (b 8) (b 9) (b 10) x1 (t_top_isSaved τ) (t_top_wrongPosition τ) (t_desk_reason τ) (t_desk_detail τ) (t_mix_row τ) (t_mix_conflictCount τ) (t_mix_lowest τ) (t_forest_f τ) (t_before_f τ) (t_saved_f τ) (t_hist_rows τ) (t_hist_next τ) (t_hist_count τ) (t_walk_commits τ) (t_walk_length τ) (t_walk_looks τ) (t_inp_signs τ) (t_inp_length τ) (t_ord_rows τ) (t_ord_count τ) (t_ord_position τ) (t_ord_column τ) (t_lin_signs τ) (t_lin_length τ) r  hr
def t_play (x1 : Int32) (x2 : Int32) (τ : TO) : Option (Int32 × TO) := (fL_play x1 x2 (t_desk_reason τ) (t_desk_detail τ) (t_mix_row τ) (t_mix_conflictCount τ) (t_mix_lowest τ) (t_forest_f τ) (t_before_f τ) (t_hist_rows τ) (t_hist_next τ) (t_hist_count τ)).bind fun (r, w0, w1, w2, w3, w4, w5, w6, w7, w8, w9) => some (r, ((t_top_isSaved τ), (t_top_wrongPosition τ), w0, w1, w2, w3, w4, w5, w6, (t_saved_f τ), w7, w8, w9, (t_walk_commits τ), (t_walk_length τ), (t_walk_looks τ), (t_inp_signs τ), (t_inp_length τ), (t_ord_rows τ), (t_ord_count τ), (t_ord_position τ), (t_ord_column τ), (t_lin_signs τ), (t_lin_length τ)))
theorem mT_play (l : Launch) (hlt : l.stackTraces = false) (E : PE) (X : PX) (L : LX) (b : Nat → Nat → Nat) (x1 : Int32) (x2 : Int32) (τ : TO) (r : Int32) (τ1 : TO) (h : t_play x1 x2 τ = some (r, τ1)) : ML l yL_play cL_play 4 (some .int) [(0, 6, 7, 13), (0, 6, 12, 15), (0, 6, 17, 17)] { frames := 8, cells := 1, slots := 6, locals := 147 } E X L [.ref (b 0 0), .int x1, .int x2] ([gO E b τ] : List va_W).flatten 1 6 (some (.int r)) ([gO E b τ1] : List va_W).flatten := by
  unfold t_play at h
  obtain ⟨⟨r0, w0, w1, w2, w3, w4, w5, w6, w7, w8, w9⟩, hr, h⟩ := ob h
  cases h
  simp only [fl1]
  exact mL_play l hlt E X L (b 0) (b 1) (b 2) (b 3) (b 4) (b 5) (b 6) (b 7) (b 8) (b 9) (b 10) x1 x2 (t_top_isSaved τ) (t_top_wrongPosition τ) (t_desk_reason τ) (t_desk_detail τ) (t_mix_row τ) (t_mix_conflictCount τ) (t_mix_lowest τ) (t_forest_f τ) (t_before_f τ) (t_saved_f τ) (t_hist_rows τ) (t_hist_next τ) (t_hist_count τ) (t_walk_commits τ) (t_walk_length τ) (t_walk_looks τ) (t_inp_signs τ) (t_inp_length τ) (t_ord_rows τ) (t_ord_count τ) (t_ord_position τ) (t_ord_column τ) (t_lin_signs τ) (t_lin_length τ) r w0 w1 w2 w3 w4 w5 w6 w7 w8 w9 hr
def t_line (x1 : Int32) (τ : TO) : Option (Int32 × TO) := (fL_line x1 (t_forest_f τ) (t_lin_signs τ) (t_lin_length τ)).bind fun (r, w0, w1) => some (r, ((t_top_isSaved τ), (t_top_wrongPosition τ), (t_desk_reason τ), (t_desk_detail τ), (t_mix_row τ), (t_mix_conflictCount τ), (t_mix_lowest τ), (t_forest_f τ), (t_before_f τ), (t_saved_f τ), (t_hist_rows τ), (t_hist_next τ), (t_hist_count τ), (t_walk_commits τ), (t_walk_length τ), (t_walk_looks τ), (t_inp_signs τ), (t_inp_length τ), (t_ord_rows τ), (t_ord_count τ), (t_ord_position τ), (t_ord_column τ), w0, w1))
theorem mT_line (l : Launch) (hlt : l.stackTraces = false) (E : PE) (X : PX) (L : LX) (b : Nat → Nat → Nat) (x1 : Int32) (τ : TO) (r : Int32) (τ1 : TO) (h : t_line x1 τ = some (r, τ1)) : ML l yL_line cL_line 3 (some .int) [(0, 5, 6, 13)] { frames := 8, cells := 1, slots := 6, locals := 132 } E X L [.ref (b 0 0), .int x1] ([gO E b τ] : List va_W).flatten 1 6 (some (.int r)) ([gO E b τ1] : List va_W).flatten := by
  unfold t_line at h
  obtain ⟨⟨r0, w0, w1⟩, hr, h⟩ := ob h
  cases h
  simp only [fl1]
  exact mL_line l hlt E X L (b 0) (b 1) (b 2) (b 3) (b 4) (b 5) (b 6) (b 7) (b 8) (b 9) (b 10) x1 (t_top_isSaved τ) (t_top_wrongPosition τ) (t_desk_reason τ) (t_desk_detail τ) (t_mix_row τ) (t_mix_conflictCount τ) (t_mix_lowest τ) (t_forest_f τ) (t_before_f τ) (t_saved_f τ) (t_hist_rows τ) (t_hist_next τ) (t_hist_count τ) (t_walk_commits τ) (t_walk_length τ) (t_walk_looks τ) (t_inp_signs τ) (t_inp_length τ) (t_ord_rows τ) (t_ord_count τ) (t_ord_position τ) (t_ord_column τ) (t_lin_signs τ) (t_lin_length τ) r w0 w1 hr
def t_character (x1 : Int32) (τ : TO) : Option (Int32 × TO) := (fL_character x1 (t_lin_signs τ) (t_lin_length τ)).bind fun r => some (r, τ)
theorem mT_character (l : Launch) (hlt : l.stackTraces = false) (E : PE) (X : PX) (L : LX) (b : Nat → Nat → Nat) (x1 : Int32) (τ : TO) (r : Int32) (τ1 : TO) (h : t_character x1 τ = some (r, τ1)) : ML l yL_character cL_character 3 (some .int) [(0, 5, 6, 13)] { frames := 7, cells := 1, slots := 6, locals := 111 } E X L [.ref (b 0 0), .int x1] ([gO E b τ] : List va_W).flatten 1 6 (some (.int r)) ([gO E b τ1] : List va_W).flatten := by
  unfold t_character at h
  obtain ⟨r0, hr, h⟩ := ob h
  cases h
  simp only [fl1]
  exact mL_character l hlt E X L (b 0) (b 1) (b 2) (b 3) (b 4) (b 5) (b 6) (b 7) (b 8) (b 9) (b 10) x1 (t_top_isSaved τ) (t_top_wrongPosition τ) (t_desk_reason τ) (t_desk_detail τ) (t_mix_row τ) (t_mix_conflictCount τ) (t_mix_lowest τ) (t_forest_f τ) (t_before_f τ) (t_saved_f τ) (t_hist_rows τ) (t_hist_next τ) (t_hist_count τ) (t_walk_commits τ) (t_walk_length τ) (t_walk_looks τ) (t_inp_signs τ) (t_inp_length τ) (t_ord_rows τ) (t_ord_count τ) (t_ord_position τ) (t_ord_column τ) (t_lin_signs τ) (t_lin_length τ) r  hr
def t_append (x1 : Int32) (τ : TO) : Option (Int32 × TO) := (fL_append x1 (t_inp_signs τ) (t_inp_length τ)).bind fun (r, w0, w1) => some (r, ((t_top_isSaved τ), (t_top_wrongPosition τ), (t_desk_reason τ), (t_desk_detail τ), (t_mix_row τ), (t_mix_conflictCount τ), (t_mix_lowest τ), (t_forest_f τ), (t_before_f τ), (t_saved_f τ), (t_hist_rows τ), (t_hist_next τ), (t_hist_count τ), (t_walk_commits τ), (t_walk_length τ), (t_walk_looks τ), w0, w1, (t_ord_rows τ), (t_ord_count τ), (t_ord_position τ), (t_ord_column τ), (t_lin_signs τ), (t_lin_length τ)))
theorem mT_append (l : Launch) (hlt : l.stackTraces = false) (E : PE) (X : PX) (L : LX) (b : Nat → Nat → Nat) (x1 : Int32) (τ : TO) (r : Int32) (τ1 : TO) (h : t_append x1 τ = some (r, τ1)) : ML l yL_append cL_append 3 (some .int) [(0, 5, 6, 110)] { frames := 7, cells := 1, slots := 6, locals := 111 } E X L [.ref (b 0 0), .int (ch x1)] ([gO E b τ] : List va_W).flatten 1 6 (some (.int r)) ([gO E b τ1] : List va_W).flatten := by
  unfold t_append at h
  obtain ⟨⟨r0, w0, w1⟩, hr, h⟩ := ob h
  cases h
  simp only [fl1]
  exact mL_append l hlt E X L (b 0) (b 1) (b 2) (b 3) (b 4) (b 5) (b 6) (b 7) (b 8) (b 9) (b 10) x1 (t_top_isSaved τ) (t_top_wrongPosition τ) (t_desk_reason τ) (t_desk_detail τ) (t_mix_row τ) (t_mix_conflictCount τ) (t_mix_lowest τ) (t_forest_f τ) (t_before_f τ) (t_saved_f τ) (t_hist_rows τ) (t_hist_next τ) (t_hist_count τ) (t_walk_commits τ) (t_walk_length τ) (t_walk_looks τ) (t_inp_signs τ) (t_inp_length τ) (t_ord_rows τ) (t_ord_count τ) (t_ord_position τ) (t_ord_column τ) (t_lin_signs τ) (t_lin_length τ) r w0 w1 hr
def t_read  (τ : TO) : Option (Int32 × TO) := (fL_read  (t_top_wrongPosition τ) (t_desk_reason τ) (t_desk_detail τ) (t_mix_row τ) (t_mix_conflictCount τ) (t_mix_lowest τ) (t_forest_f τ) (t_before_f τ) (t_hist_rows τ) (t_hist_next τ) (t_hist_count τ) (t_inp_signs τ) (t_inp_length τ) (t_ord_rows τ) (t_ord_count τ) (t_ord_position τ) (t_ord_column τ)).bind fun (r, w0, w1, w2, w3, w4, w5, w6, w7, w8, w9, w10, w11, w12, w13, w14, w15) => some (r, ((t_top_isSaved τ), w0, w1, w2, w3, w4, w5, w6, w7, (t_saved_f τ), w8, w9, w10, (t_walk_commits τ), (t_walk_length τ), (t_walk_looks τ), (t_inp_signs τ), w11, w12, w13, w14, w15, (t_lin_signs τ), (t_lin_length τ)))
theorem mT_read (l : Launch) (hlt : l.stackTraces = false) (E : PE) (X : PX) (L : LX) (b : Nat → Nat → Nat)  (τ : TO) (r : Int32) (τ1 : TO) (h : t_read  τ = some (r, τ1)) : ML l yL_read cL_read 2 (some .int) [(0, 4, 5, 15), (0, 4, 10, 17)] { frames := 8, cells := 1, slots := 6, locals := 168 } E X L [.ref (b 0 0)] ([gO E b τ] : List va_W).flatten 1 6 (some (.int r)) ([gO E b τ1] : List va_W).flatten := by
  unfold t_read at h
  obtain ⟨⟨r0, w0, w1, w2, w3, w4, w5, w6, w7, w8, w9, w10, w11, w12, w13, w14, w15⟩, hr, h⟩ := ob h
  cases h
  simp only [fl1]
  exact mL_read l hlt E X L (b 0) (b 1) (b 2) (b 3) (b 4) (b 5) (b 6) (b 7) (b 8) (b 9) (b 10)  (t_top_isSaved τ) (t_top_wrongPosition τ) (t_desk_reason τ) (t_desk_detail τ) (t_mix_row τ) (t_mix_conflictCount τ) (t_mix_lowest τ) (t_forest_f τ) (t_before_f τ) (t_saved_f τ) (t_hist_rows τ) (t_hist_next τ) (t_hist_count τ) (t_walk_commits τ) (t_walk_length τ) (t_walk_looks τ) (t_inp_signs τ) (t_inp_length τ) (t_ord_rows τ) (t_ord_count τ) (t_ord_position τ) (t_ord_column τ) (t_lin_signs τ) (t_lin_length τ) r w0 w1 w2 w3 w4 w5 w6 w7 w8 w9 w10 w11 w12 w13 w14 w15 hr
def t_refusal (x1 : Int32) (τ : TO) : Option (Int32 × TO) := (fL_refusal x1 (t_desk_reason τ) (t_desk_detail τ)).bind fun r => some (r, τ)
theorem mT_refusal (l : Launch) (hlt : l.stackTraces = false) (E : PE) (X : PX) (L : LX) (b : Nat → Nat → Nat) (x1 : Int32) (τ : TO) (r : Int32) (τ1 : TO) (h : t_refusal x1 τ = some (r, τ1)) : ML l yL_refusal cL_refusal 3 (some .int) [(0, 5, 6, 64)] { frames := 7, cells := 1, slots := 6, locals := 111 } E X L [.ref (b 0 0), .int x1] ([gO E b τ] : List va_W).flatten 1 6 (some (.int r)) ([gO E b τ1] : List va_W).flatten := by
  unfold t_refusal at h
  obtain ⟨r0, hr, h⟩ := ob h
  cases h
  simp only [fl1]
  exact mL_refusal l hlt E X L (b 0) (b 1) (b 2) (b 3) (b 4) (b 5) (b 6) (b 7) (b 8) (b 9) (b 10) x1 (t_top_isSaved τ) (t_top_wrongPosition τ) (t_desk_reason τ) (t_desk_detail τ) (t_mix_row τ) (t_mix_conflictCount τ) (t_mix_lowest τ) (t_forest_f τ) (t_before_f τ) (t_saved_f τ) (t_hist_rows τ) (t_hist_next τ) (t_hist_count τ) (t_walk_commits τ) (t_walk_length τ) (t_walk_looks τ) (t_inp_signs τ) (t_inp_length τ) (t_ord_rows τ) (t_ord_count τ) (t_ord_position τ) (t_ord_column τ) (t_lin_signs τ) (t_lin_length τ) r  hr
def t_account (x1 : Int32) (τ : TO) : Option (Int32 × TO) := (fL_account x1 (t_forest_f τ) (t_hist_count τ) (t_inp_length τ)).bind fun r => some (r, τ)
theorem mT_account (l : Launch) (hlt : l.stackTraces = false) (E : PE) (X : PX) (L : LX) (b : Nat → Nat → Nat) (x1 : Int32) (τ : TO) (r : Int32) (τ1 : TO) (h : t_account x1 τ = some (r, τ1)) : ML l yL_account cL_account 3 (some .int) [(0, 5, 6, 15)] { frames := 7, cells := 1, slots := 6, locals := 111 } E X L [.ref (b 0 0), .int x1] ([gO E b τ] : List va_W).flatten 1 6 (some (.int r)) ([gO E b τ1] : List va_W).flatten := by
  unfold t_account at h
  obtain ⟨r0, hr, h⟩ := ob h
  cases h
  simp only [fl1]
  exact mL_account l hlt E X L (b 0) (b 1) (b 2) (b 3) (b 4) (b 5) (b 6) (b 7) (b 8) (b 9) (b 10) x1 (t_top_isSaved τ) (t_top_wrongPosition τ) (t_desk_reason τ) (t_desk_detail τ) (t_mix_row τ) (t_mix_conflictCount τ) (t_mix_lowest τ) (t_forest_f τ) (t_before_f τ) (t_saved_f τ) (t_hist_rows τ) (t_hist_next τ) (t_hist_count τ) (t_walk_commits τ) (t_walk_length τ) (t_walk_looks τ) (t_inp_signs τ) (t_inp_length τ) (t_ord_rows τ) (t_ord_count τ) (t_ord_position τ) (t_ord_column τ) (t_lin_signs τ) (t_lin_length τ) r  hr
def t_undo  (τ : TO) : Option (Int32 × TO) := (fL_undo  (t_forest_f τ) (t_hist_rows τ) (t_hist_next τ) (t_hist_count τ)).bind fun (r, w0, w1, w2) => some (r, ((t_top_isSaved τ), (t_top_wrongPosition τ), (t_desk_reason τ), (t_desk_detail τ), (t_mix_row τ), (t_mix_conflictCount τ), (t_mix_lowest τ), w0, (t_before_f τ), (t_saved_f τ), (t_hist_rows τ), w1, w2, (t_walk_commits τ), (t_walk_length τ), (t_walk_looks τ), (t_inp_signs τ), (t_inp_length τ), (t_ord_rows τ), (t_ord_count τ), (t_ord_position τ), (t_ord_column τ), (t_lin_signs τ), (t_lin_length τ)))
theorem mT_undo (l : Launch) (hlt : l.stackTraces = false) (E : PE) (X : PX) (L : LX) (b : Nat → Nat → Nat)  (τ : TO) (r : Int32) (τ1 : TO) (h : t_undo  τ = some (r, τ1)) : ML l yL_undo cL_undo 2 (some .int) [(0, 4, 5, 110)] { frames := 7, cells := 1, slots := 6, locals := 110 } E X L [.ref (b 0 0)] ([gO E b τ] : List va_W).flatten 1 6 (some (.int r)) ([gO E b τ1] : List va_W).flatten := by
  unfold t_undo at h
  obtain ⟨⟨r0, w0, w1, w2⟩, hr, h⟩ := ob h
  cases h
  simp only [fl1]
  exact mL_undo l hlt E X L (b 0) (b 1) (b 2) (b 3) (b 4) (b 5) (b 6) (b 7) (b 8) (b 9) (b 10)  (t_top_isSaved τ) (t_top_wrongPosition τ) (t_desk_reason τ) (t_desk_detail τ) (t_mix_row τ) (t_mix_conflictCount τ) (t_mix_lowest τ) (t_forest_f τ) (t_before_f τ) (t_saved_f τ) (t_hist_rows τ) (t_hist_next τ) (t_hist_count τ) (t_walk_commits τ) (t_walk_length τ) (t_walk_looks τ) (t_inp_signs τ) (t_inp_length τ) (t_ord_rows τ) (t_ord_count τ) (t_ord_position τ) (t_ord_column τ) (t_lin_signs τ) (t_lin_length τ) r w0 w1 w2 hr
def t_restore  (τ : TO) : Option (Int32 × TO) := (fL_restore  (t_top_isSaved τ) (t_forest_f τ) (t_saved_f τ) (t_hist_count τ)).bind fun (r, w0, w1) => some (r, ((t_top_isSaved τ), (t_top_wrongPosition τ), (t_desk_reason τ), (t_desk_detail τ), (t_mix_row τ), (t_mix_conflictCount τ), (t_mix_lowest τ), w0, (t_before_f τ), (t_saved_f τ), (t_hist_rows τ), (t_hist_next τ), w1, (t_walk_commits τ), (t_walk_length τ), (t_walk_looks τ), (t_inp_signs τ), (t_inp_length τ), (t_ord_rows τ), (t_ord_count τ), (t_ord_position τ), (t_ord_column τ), (t_lin_signs τ), (t_lin_length τ)))
theorem mT_restore (l : Launch) (hlt : l.stackTraces = false) (E : PE) (X : PX) (L : LX) (b : Nat → Nat → Nat)  (τ : TO) (r : Int32) (τ1 : TO) (h : t_restore  τ = some (r, τ1)) : ML l yL_restore cL_restore 2 (some .int) [(0, 4, 5, 110)] { frames := 7, cells := 1, slots := 6, locals := 110 } E X L [.ref (b 0 0)] ([gO E b τ] : List va_W).flatten 1 6 (some (.int r)) ([gO E b τ1] : List va_W).flatten := by
  unfold t_restore at h
  obtain ⟨⟨r0, w0, w1⟩, hr, h⟩ := ob h
  cases h
  simp only [fl1]
  exact mL_restore l hlt E X L (b 0) (b 1) (b 2) (b 3) (b 4) (b 5) (b 6) (b 7) (b 8) (b 9) (b 10)  (t_top_isSaved τ) (t_top_wrongPosition τ) (t_desk_reason τ) (t_desk_detail τ) (t_mix_row τ) (t_mix_conflictCount τ) (t_mix_lowest τ) (t_forest_f τ) (t_before_f τ) (t_saved_f τ) (t_hist_rows τ) (t_hist_next τ) (t_hist_count τ) (t_walk_commits τ) (t_walk_length τ) (t_walk_looks τ) (t_inp_signs τ) (t_inp_length τ) (t_ord_rows τ) (t_ord_count τ) (t_ord_position τ) (t_ord_column τ) (t_lin_signs τ) (t_lin_length τ) r w0 w1 hr
def t_meanTaste (τ : TO) : Option (UInt64) := f8_meanTaste (t_forest_f τ)
theorem mV_meanTaste (l : Launch) (E : PE) (b : Nat → Nat → Nat) (τ : TO) (r : UInt64) (h : t_meanTaste τ = some r) : MP l yX8_meanTaste cX8_meanTaste 5 (some .double) { frames := 2, cells := 0, slots := 0, locals := 47 } E [.ref (b 0 0)] ([gO E b τ] : List va_W).flatten (some (.double r)) := by
  simp only [fl1]
  exact mP_fr (c8_meanTaste l E (b 0) (b 3) (b 4 0) (b 5 0) (b 6 0) (b 1 0) (b 7 0) (b 8 0) (b 9 0) (b 10 0) (t_top_isSaved τ) (t_top_wrongPosition τ) (t_forest_f τ) r h) [0, 3] rfl (by decide)
def t_editShare (τ : TO) : Option (UInt32) := f8_editShare (t_forest_f τ)
theorem mV_editShare (l : Launch) (E : PE) (b : Nat → Nat → Nat) (τ : TO) (r : UInt32) (h : t_editShare τ = some r) : MP l yX8_editShare cX8_editShare 2 (some .float) { frames := 2, cells := 0, slots := 0, locals := 44 } E [.ref (b 0 0)] ([gO E b τ] : List va_W).flatten (some (.float r)) := by
  simp only [fl1]
  exact mP_fr (c8_editShare l E (b 0) (b 3) (b 4 0) (b 5 0) (b 6 0) (b 1 0) (b 7 0) (b 8 0) (b 9 0) (b 10 0) (t_top_isSaved τ) (t_top_wrongPosition τ) (t_forest_f τ) r h) [0, 3] rfl (by decide)
def t_isWell (τ : TO) : Option (Bool) := f8_isWell (t_forest_f τ)
theorem mV_isWell (l : Launch) (E : PE) (b : Nat → Nat → Nat) (τ : TO) (r : Bool) (h : t_isWell τ = some r) : MP l yX8_isWell cX8_isWell 2 (some .boolean) { frames := 3, cells := 0, slots := 0, locals := 72 } E [.ref (b 0 0)] ([gO E b τ] : List va_W).flatten (some (.int (b2i r))) := by
  simp only [fl1]
  exact mP_fr (c8_isWell l E (b 0) (b 3) (b 4 0) (b 5 0) (b 6 0) (b 1 0) (b 7 0) (b 8 0) (b 9 0) (b 10 0) (t_top_isSaved τ) (t_top_wrongPosition τ) (t_forest_f τ) r h) [0, 3] rfl (by decide)
def t_errorPosition (τ : TO) : Option (Int32) := f8_errorPosition (t_top_wrongPosition τ)
theorem mV_errorPosition (l : Launch) (E : PE) (b : Nat → Nat → Nat) (τ : TO) (r : Int32) (h : t_errorPosition τ = some r) : MP l yX8_errorPosition cX8_errorPosition 1 (some .int) { frames := 0, cells := 0, slots := 0, locals := 0 } E [.ref (b 0 0)] ([gO E b τ] : List va_W).flatten (some (.int r)) := by
  simp only [fl1]
  exact mP_fr (c8_errorPosition l E (b 0) (b 3 0) (b 4 0) (b 5 0) (b 6 0) (b 1 0) (b 7 0) (b 8 0) (b 9 0) (b 10 0) (t_top_isSaved τ) (t_top_wrongPosition τ) r h) [0] rfl (by decide)
def t_save (τ : TO) : Option (Int32 × TO) := (f8_save (t_top_isSaved τ) (t_forest_f τ) (t_saved_f τ)).bind fun (r, w0, w1) => some (r, (w0, (t_top_wrongPosition τ), (t_desk_reason τ), (t_desk_detail τ), (t_mix_row τ), (t_mix_conflictCount τ), (t_mix_lowest τ), (t_forest_f τ), (t_before_f τ), w1, (t_hist_rows τ), (t_hist_next τ), (t_hist_count τ), (t_walk_commits τ), (t_walk_length τ), (t_walk_looks τ), (t_inp_signs τ), (t_inp_length τ), (t_ord_rows τ), (t_ord_count τ), (t_ord_position τ), (t_ord_column τ), (t_lin_signs τ), (t_lin_length τ)))
theorem mV_save (l : Launch) (E : PE) (b : Nat → Nat → Nat) (τ : TO) (r : Int32) (τ1 : TO) (h : t_save τ = some (r, τ1)) : MW l yX8_save cX8_save 1 (some .int) { frames := 2, cells := 0, slots := 0, locals := 45 } E [.ref (b 0 0)] ([gO E b τ] : List va_W).flatten 0 0 (some (.int r)) ([gO E b τ1] : List va_W).flatten := by
  unfold t_save at h
  obtain ⟨⟨r0, w0, w1⟩, hr, h⟩ := ob h
  cases h
  simp only [fl1]
  exact mW_fr (gr := ([gX0 E (b 1) (b 3 0) (b 2 0) (t_desk_reason τ) (t_desk_detail τ), gX5 E (b 2) (t_mix_row τ) (t_mix_conflictCount τ) (t_mix_lowest τ), gX1 E (b 4) (t_before_f τ), gX2 E (b 6) (t_hist_rows τ) (t_hist_next τ) (t_hist_count τ), gX7 E (b 7) (t_walk_commits τ) (t_walk_length τ) (t_walk_looks τ), gX3 E (b 8) (t_inp_signs τ) (t_inp_length τ), gX6 E (b 9) (t_ord_rows τ) (t_ord_count τ) (t_ord_position τ) (t_ord_column τ), gX4 E (b 10) (t_lin_signs τ) (t_lin_length τ)] : List va_W)) (c8_save l E (b 0) (b 3) (b 5) (b 4 0) (b 6 0) (b 1 0) (b 7 0) (b 8 0) (b 9 0) (b 10 0) (t_top_isSaved τ) (t_top_wrongPosition τ) (t_forest_f τ) (t_saved_f τ) r w0 w1 hr) [1, 2, 4, 6, 7, 8, 9, 10] [0, 3, 5] [8, 0, 1, 9, 2, 10, 3, 4, 5, 6, 7] rfl rfl (by decide) (by decide) rfl (by decide)
