set_option maxRecDepth 20000 in
theorem q887 : (Jvm.Cond.codeWith ({ cls := "RecipeForestsLaw", name := "undo", desc := "(LRecipeForests;)I" } : Jvm.MethodName) method_35_code (2 : Nat) (Option.some Jvm.ClassFile.FieldType.int) [((0 : Nat), (4 : Nat), (5 : Nat), (110 : Nat))]) ∈ lw_all := lw_in 887 rfl rfl
set_option maxRecDepth 20000 in
theorem q899 : (Jvm.Cond.codeWith ({ cls := "RecipeForestsLaw", name := "restore", desc := "(LRecipeForests;)I" } : Jvm.MethodName) method_36_code (2 : Nat) (Option.some Jvm.ClassFile.FieldType.int) [((0 : Nat), (4 : Nat), (5 : Nat), (110 : Nat))]) ∈ lw_all := lw_in 899 rfl rfl
/-! the law's body in three pieces -/
def gLW (L9 : ClassId) (q : Nat) (f : Nat → Int64) : va_W := [(q, .inl (L9, 11, .inr (.inl f)))]
section LWS
variable {p : Program} {l : Launch} {e : Env} {R : Room} {s : State} {m : MethodId} {args : Array Value} {below : List Frame} {meth : Method} {c : Code} {H : Heap} {locs : List Loc} {ce sl : Nat} {Q : State → Prop} {ls : Array Slot} {E : PE} {X : PX} {L : LX} {L9 : ClassId} {A : Nat → Prop}
def fw_e_L157  : Nat → Int32 → TO → Option (TO)
  | 0, _, _ => none
  | n + 1, x2, τ_e => (if (nI 5) ≤ x2 then ((t_edit ((nI 0)) ((nI 0)) ((nI 5)) (τ_e)).bind fun (r47, w48) => (if r47 = (-1003 : Int32) then ((fL_is ((nI 1)) ((nI 24)) (w48)).bind fun (r51, w52) => (if (b2i r51) = 0 then none else ((t_edit ((nI 0)) ((nI 0)) ((nI 23)) (w52)).bind fun (r55, w56) => (if r55 = (-1003 : Int32) then ((fL_is ((nI 2)) ((nI 23)) (w56)).bind fun (r59, w60) => (if (b2i r59) = 0 then none else ((t_fork ((nI 0)) (w60)).bind fun (r63, w64) => (if r63 = (-1002 : Int32) then ((fL_is ((nI 1)) ((nI 5)) (w64)).bind fun (r67, w68) => (if (b2i r67) = 0 then none else ((t_halve ((nI 4)) ((nI 0)) ((nI 0)) ((nI 0)) (w68)).bind fun (r71, w72) => (if r71 = (nI 1) then ((t_halve ((nI 4)) ((nI 0)) ((nI 0)) ((nI 1)) (w72)).bind fun (r75, w76) => (if r75 = (nI 5) then ((t_halve ((nI 4)) ((nI 0)) ((nI 22)) ((nI 0)) (w76)).bind fun (r79, w80) => (if r79 = (nI 23) then ((t_firstBad ((nI 4)) ((nI 0)) ((nI 10)) (w80)).bind fun (r83, w84) => (if r83 = (nI 11) then ((t_commitOf ((nI 23)) ((nI 5)) (w84)).bind fun (r87, w88) => (if r87 = (nI 23) then ((t_commitOf ((nI 23)) ((nI 4)) (w88)).bind fun (r91, w92) => (if r91 = (nI 23) then ((t_revert ((nI 0)) ((nI 23)) ((nI 0)) (w92)).bind fun (r95, w96) => (if r95 = (-1003 : Int32) then ((fL_is ((nI 1)) ((nI 24)) (w96)).bind fun (r99, w100) => (if (b2i r99) = 0 then none else ((t_revert ((nI 0)) ((nI 5)) ((nI 0)) (w100)).bind fun (r103, w104) => (if r103 = (-1003 : Int32) then ((fL_is ((nI 5)) ((nI 0)) (w104)).bind fun (r107, w108) => (if (b2i r107) = 0 then none else ((t_revert ((nI 0)) ((nI 5)) ((nI 1)) (w108)).bind fun (r111, w112) => (if r111 = (-1003 : Int32) then ((fL_is ((nI 7)) ((nI 23)) (w112)).bind fun (r115, w116) => (if (b2i r115) = 0 then none else ((t_account ((nI 10)) (w116)).bind fun (r119, w120) => (if r119 = (nI 8) then ((t_reset ((nI 1)) ((nI 3)) (w120)).bind fun (r123, w124) => (if r123 = (nI 23) then ((t_merge ((nI 1)) ((nI 0)) ((nI 0)) (w124)).bind fun (r127, w128) => (if r127 = (nI 23) then ((t_account ((nI 0)) (w128)).bind fun (r131, w132) => (if r131 = (nI 24) then ((t_undo (w132)).bind fun (r135, w136) => (if r135 = (nI 7) then ((t_tip ((nI 1)) (w136)).bind fun (r139, w140) => (if r139 = (nI 3) then ((t_undo (w140)).bind fun (r143, w144) => (if r143 = (nI 6) then ((t_tip ((nI 1)) (w144)).bind fun (r147, w148) => (if r147 = (nI 23) then ((t_undo (w148)).bind fun (r151, w152) => (if r151 = (nI 5) then ((t_account ((nI 1)) (w152)).bind fun (r155, w156) => (if r155 = (nI 4) then ((t_undo (w156)).bind fun (r159, w160) => (if r159 = (nI 4) then ((t_undo (w160)).bind fun (r163, w164) => (if r163 = (nI 3) then ((t_undo (w164)).bind fun (r167, w168) => (if r167 = (nI 2) then ((t_account ((nI 1)) (w168)).bind fun (r171, w172) => (if r171 = (nI 1) then ((t_undo (w172)).bind fun (r175, w176) => (if r175 = (nI 1) then ((t_tip ((nI 0)) (w176)).bind fun (r179, w180) => (if r179 = (nI 22) then ((t_account ((nI 0)) (w180)).bind fun (r183, w184) => (if r183 = (nI 23) then ((t_undo (w184)).bind fun (r187, w188) => (if r187 = 0 then ((t_undo (w188)).bind fun (r191, w192) => (if r191 = (-1001 : Int32) then ((t_account ((nI 0)) (w192)).bind fun (r195, w196) => (if r195 = (nI 22) then ((t_restore (w196)).bind fun (r199, w200) => (if r199 = (nI 1) then ((t_account ((nI 0)) (w200)).bind fun (r203, w204) => (if r203 = (nI 1) then ((t_account ((nI 6)) (w204)).bind fun (r207, w208) => (if r207 = (-1 : Int32) then ((t_undo (w208)).bind fun (r211, w212) => (if r211 = (-1001 : Int32) then (some w212) else none)) else none)) else none)) else none)) else none)) else none)) else none)) else none)) else none)) else none)) else none)) else none)) else none)) else none)) else none)) else none)) else none)) else none)) else none)) else none)) else none)) else none)) else none)) else none)))) else none)))) else none)))) else none)) else none)) else none)) else none)) else none)) else none)) else none)))) else none)))) else none)))) else none)) else ((t_fork ((x2 - (nI 1))) (τ_e)).bind fun (r215, w216) => (if r215 = x2 then (fw_e_L157 n ((x2 + nI 1)) (w216)) else none)))
def fw_e_L130  : Nat → Int32 → TO → Option (TO)
  | 0, _, _ => none
  | n + 1, x2, τ_e => (if (nI 24) ≤ x2 then (fw_e_L157 6 ((nI 1)) (τ_e)) else ((t_edit ((nI 0)) ((nI 0)) (x2) (τ_e)).bind fun (r42, w43) => (if r42 = x2 then (fw_e_L130 n ((x2 + nI 1)) (w43)) else none)))
def fw_e_L48  : Nat → Int32 → TO → Option (TO)
  | 0, _, _ => none
  | n + 1, x2, τ_e => (if (nI 60) ≤ x2 then ((t_append ((nI 102)) (τ_e)).bind fun (r18, w19) => (if r18 = (-1001 : Int32) then ((t_account ((nI 9)) (w19)).bind fun (r22, w23) => (if r22 = (nI 60) then ((t_read (w23)).bind fun (r26, w27) => (if r26 = (-1001 : Int32) then ((t_errorPosition (w27)).bind fun r30 => (if r30 = 0 then ((t_account ((nI 9)) (w27)).bind fun (r33, w34) => (if r33 = 0 then (fw_e_L130 25 ((nI 1)) (w34)) else none)) else none)) else none)) else none)) else none)) else ((t_append (((nI 65) + x2)) (τ_e)).bind fun (r37, w38) => (if r37 = (x2 + (nI 1)) then (fw_e_L48 n ((x2 + nI 1)) (w38)) else none)))
def fw_e  (τ_e : TO) : Option (TO) := ((t_undo (τ_e)).bind fun (r1, w2) => (if r1 = (-1001 : Int32) then ((t_restore (w2)).bind fun (r5, w6) => (if r5 = (-1001 : Int32) then ((t_save (w6)).bind fun (r9, w10) => (if r9 = (nI 1) then ((t_bundle ((nI 0)) (w10)).bind fun (r13, w14) => (if r13 = 0 then (fw_e_L48 62 ((nI 0)) (w14)) else none)) else none)) else none)) else none))
set_option maxHeartbeats 8000000 in
set_option maxRecDepth 100000 in
theorem lw_e (hlt : l.stackTraces = false) (hx : p.tables.exec = Jvm.exec) (hb : c.code = cL_law) (hml : c.maxLocals = 11) (hts : ∀ w ∈ lw_all, w.before args s = true) (hown : s.vm.findClass RL = some m.cls) (hR : R = room_1) (hK : va_K E.1 vwCl (tyE E) s) (hKL : va_K E.1 vwCl (tyE E ++ [(L9, .long)]) s) (hN : px_N s) (hX : px_X X A s s.heap) (hL : px_L E L A s s.heap) (hA : ∀ q, s.heap.size ≤ q → A q) (b_e : Nat → Nat → Nat)  (τ_e : TO) (z_e_τ : TO) (h : fw_e τ_e = some z_e_τ) (hce : ce + 162 ≤ 977054) (hsl : sl + 972 ≤ 6170461)
    (hP : va_P E.1 vwCl ([gO E b_e τ_e] : List va_W).flatten H) (hD : va_D A ([gO E b_e τ_e] : List va_W).flatten) (hS : va_S A s.heap H locs) (hl : lv_has ls 11 [(0, .ref L.1.1), (1, .ref (b_e 0 0))]) (kk : ∀ (H : Heap) (locs : List Loc) (ls : Array Slot), va_P E.1 vwCl ([gO E b_e z_e_τ] : List va_W).flatten H → va_D A ([gO E b_e z_e_τ] : List va_W).flatten → va_S A s.heap H locs → lv_has ls 11 [(0, .ref L.1.1), (1, .ref (b_e 0 0))] → W p l e R s m args below meth c H locs (ce + 162) (sl + 972) Q (F0 m 622 ls [])) : W p l e R s m args below meth c H locs ce sl Q (F0 m 8 ls []) := by
  have hR : R = { frames := 2048, cells := 977054, slots := 6170461, locals := 84000 } := hR
  unfold fw_e at h
  have L157 : ∀ (n : Nat) (x2 : Int32) (τ_e : TO) (cc ss : Nat), cc + n * 1 + 62 ≤ ce + 162 → ss + n * 6 + 372 ≤ sl + 972 → ∀ (H : Heap) (locs : List Loc) (ls : Array Slot), va_P E.1 vwCl ([gO E b_e τ_e] : List va_W).flatten H → va_D A ([gO E b_e τ_e] : List va_W).flatten → va_S A s.heap H locs → lv_has ls 11 [(0, .ref L.1.1), (1, .ref (b_e 0 0)), (2, .int x2)] → fw_e_L157 n x2 τ_e = some z_e_τ → W p l e R s m args below meth c H locs cc ss Q (F0 m 157 ls []) := by
    intro n
    induction n with
    | zero =>
      intro x2 τ_e cc ss hcc hss H locs ls hP hD hS hl h
      unfold fw_e_L157 at h; cases h
    | succ n ih =>
      intro x2 τ_e cc ss hcc hss H locs ls hP hD hS hl h
      unfold fw_e_L157 at h
      refine lv_iload_n hx hb dL_law_157 rfl (lv_at hl 2 rfl) ?_
      refine lv_iconst (v := (nI 5)) hx hb dL_law_158 (by decide) ?_
      refine lv_icmp_ge (tgt := 181) hx hb dL_law_159 (by decide) (fun c46 => ?_) (fun c46 => ?_)
      · rw [if_pos c46] at h
        refine lv_aload_n hx hb dL_law_181 rfl (lv_at hl 1 rfl) ?_
        refine lv_iconst (v := (nI 0)) hx hb dL_law_182 (by decide) ?_
        refine lv_iconst (v := (nI 0)) hx hb dL_law_183 (by decide) ?_
        refine lv_iconst (v := (nI 5)) hx hb dL_law_184 (by decide) ?_
        obtain ⟨⟨r47, w48⟩, hr49, h⟩ := ob h
        dsimp only at h
        refine px_SL (As := [.ref (b_e 0 0), .int (nI 0), .int (nI 0), .int (nI 5)]) (rest := []) (gs := ([gO E b_e τ_e] : List va_W)) (gr := ([] : List va_W)) (gc := ([gO E b_e τ_e] : List va_W)) (g1 := ([gO E b_e w48] : List va_W)) (g2 := ([gO E b_e w48] : List va_W)) ⟨hx, hb, hml, hown, hts⟩ (mT_edit l hlt E X L b_e ((nI 0)) ((nI 0)) ((nI 5))  (τ_e) r47 w48 hr49) (vx_cwSW 4 hts (wsw_s q270 q271 q17 q272) rfl rfl rfl hdS_L_edit (by rw [hR]; first | exact ⟨Nat.le_of_ble_eq_true rfl, Nat.le_of_ble_eq_true rfl⟩ | exact ⟨by show _ ≤ (977054 : Nat); omega, by show _ ≤ (6170461 : Nat); omega⟩)) hK hN hX hL hP hD hS hA [] [0] [0] rfl rfl (by decide) (by decide) rfl (by decide) rfl hl.1 rfl (Nat.le_of_ble_eq_true rfl) dL_law_185 (by rw [hR]; first | exact ⟨Nat.le_of_ble_eq_true rfl, Nat.le_of_ble_eq_true rfl⟩ | exact ⟨by show _ ≤ (977054 : Nat); omega, by show _ ≤ (6170461 : Nat); omega⟩) (fun H locs hP hD hS => ?_)
        refine W.eq (g2 := F0 m 188 ls [.int r47]) rfl ?_
        refine lv_sipush (v := (-1003 : Int32)) hx hb dL_law_188 (by decide) ?_
        refine lv_icmp_ne (tgt := 404) hx hb dL_law_191 (by decide) (fun c50 => ?_) (fun c50 => ?_)
        · rw [if_neg c50] at h
          refine lv_iconst (v := (nI 0)) hx hb dL_law_404 (by decide) ?_
          cases h
        · rw [if_pos c50] at h
          refine lv_aload_n hx hb dL_law_194 rfl (lv_at hl 1 rfl) ?_
          refine lv_iconst (v := (nI 1)) hx hb dL_law_195 (by decide) ?_
          refine lv_bipush (v := (nI 24)) hx hb dL_law_196 (by decide) ?_
          obtain ⟨⟨r51, w52⟩, hr53, h⟩ := ob h
          dsimp only at h
          refine px_SZ (As := [.ref (b_e 0 0), .int (nI 1), .int (nI 24)]) (rest := []) (gs := ([gO E b_e w48] : List va_W)) (gr := ([] : List va_W)) (gc := ([gO E b_e w48] : List va_W)) (g1 := ([gO E b_e w52] : List va_W)) (g2 := ([gO E b_e w52] : List va_W)) ⟨hx, hb, hml, hown, hts⟩ (mL_is l hlt E X L b_e ((nI 1)) ((nI 24))  (w48) r51 w52 hr53) (va_cwS 3 hts (ws_s q909 q910 q17 q911) rfl rfl rfl hdS_L_is (by rw [hR]; first | exact ⟨Nat.le_of_ble_eq_true rfl, Nat.le_of_ble_eq_true rfl⟩ | exact ⟨by show _ ≤ (977054 : Nat); omega, by show _ ≤ (6170461 : Nat); omega⟩)) hK hN hX hL hP hD hS hA [] [0] [0] rfl rfl (by decide) (by decide) rfl (by decide) rfl hl.1 rfl (Nat.le_of_ble_eq_true rfl) dL_law_198 (by rw [hR]; first | exact ⟨Nat.le_of_ble_eq_true rfl, Nat.le_of_ble_eq_true rfl⟩ | exact ⟨by show _ ≤ (977054 : Nat); omega, by show _ ≤ (6170461 : Nat); omega⟩) (fun H locs hP hD hS => ?_)
          refine W.eq (g2 := F0 m 201 ls [.int (b2i r51)]) rfl ?_
          refine lv_if_eq (tgt := 404) hx hb dL_law_201 (by decide) (fun c54 => ?_) (fun c54 => ?_)
          · rw [if_pos c54] at h
            refine lv_iconst (v := (nI 0)) hx hb dL_law_404 (by decide) ?_
            cases h
          · rw [if_neg c54] at h
            refine lv_aload_n hx hb dL_law_204 rfl (lv_at hl 1 rfl) ?_
            refine lv_iconst (v := (nI 0)) hx hb dL_law_205 (by decide) ?_
            refine lv_iconst (v := (nI 0)) hx hb dL_law_206 (by decide) ?_
            refine lv_bipush (v := (nI 23)) hx hb dL_law_207 (by decide) ?_
            obtain ⟨⟨r55, w56⟩, hr57, h⟩ := ob h
            dsimp only at h
            refine px_SL (As := [.ref (b_e 0 0), .int (nI 0), .int (nI 0), .int (nI 23)]) (rest := []) (gs := ([gO E b_e w52] : List va_W)) (gr := ([] : List va_W)) (gc := ([gO E b_e w52] : List va_W)) (g1 := ([gO E b_e w56] : List va_W)) (g2 := ([gO E b_e w56] : List va_W)) ⟨hx, hb, hml, hown, hts⟩ (mT_edit l hlt E X L b_e ((nI 0)) ((nI 0)) ((nI 23))  (w52) r55 w56 hr57) (vx_cwSW 4 hts (wsw_s q270 q271 q17 q272) rfl rfl rfl hdS_L_edit (by rw [hR]; first | exact ⟨Nat.le_of_ble_eq_true rfl, Nat.le_of_ble_eq_true rfl⟩ | exact ⟨by show _ ≤ (977054 : Nat); omega, by show _ ≤ (6170461 : Nat); omega⟩)) hK hN hX hL hP hD hS hA [] [0] [0] rfl rfl (by decide) (by decide) rfl (by decide) rfl hl.1 rfl (Nat.le_of_ble_eq_true rfl) dL_law_209 (by rw [hR]; first | exact ⟨Nat.le_of_ble_eq_true rfl, Nat.le_of_ble_eq_true rfl⟩ | exact ⟨by show _ ≤ (977054 : Nat); omega, by show _ ≤ (6170461 : Nat); omega⟩) (fun H locs hP hD hS => ?_)
            refine W.eq (g2 := F0 m 212 ls [.int r55]) rfl ?_
            refine lv_sipush (v := (-1003 : Int32)) hx hb dL_law_212 (by decide) ?_
            refine lv_icmp_ne (tgt := 404) hx hb dL_law_215 (by decide) (fun c58 => ?_) (fun c58 => ?_)
            · rw [if_neg c58] at h
              refine lv_iconst (v := (nI 0)) hx hb dL_law_404 (by decide) ?_
              cases h
            · rw [if_pos c58] at h
              refine lv_aload_n hx hb dL_law_218 rfl (lv_at hl 1 rfl) ?_
              refine lv_iconst (v := (nI 2)) hx hb dL_law_219 (by decide) ?_
              refine lv_bipush (v := (nI 23)) hx hb dL_law_220 (by decide) ?_
              obtain ⟨⟨r59, w60⟩, hr61, h⟩ := ob h
              dsimp only at h
              refine px_SZ (As := [.ref (b_e 0 0), .int (nI 2), .int (nI 23)]) (rest := []) (gs := ([gO E b_e w56] : List va_W)) (gr := ([] : List va_W)) (gc := ([gO E b_e w56] : List va_W)) (g1 := ([gO E b_e w60] : List va_W)) (g2 := ([gO E b_e w60] : List va_W)) ⟨hx, hb, hml, hown, hts⟩ (mL_is l hlt E X L b_e ((nI 2)) ((nI 23))  (w56) r59 w60 hr61) (va_cwS 3 hts (ws_s q909 q910 q17 q911) rfl rfl rfl hdS_L_is (by rw [hR]; first | exact ⟨Nat.le_of_ble_eq_true rfl, Nat.le_of_ble_eq_true rfl⟩ | exact ⟨by show _ ≤ (977054 : Nat); omega, by show _ ≤ (6170461 : Nat); omega⟩)) hK hN hX hL hP hD hS hA [] [0] [0] rfl rfl (by decide) (by decide) rfl (by decide) rfl hl.1 rfl (Nat.le_of_ble_eq_true rfl) dL_law_222 (by rw [hR]; first | exact ⟨Nat.le_of_ble_eq_true rfl, Nat.le_of_ble_eq_true rfl⟩ | exact ⟨by show _ ≤ (977054 : Nat); omega, by show _ ≤ (6170461 : Nat); omega⟩) (fun H locs hP hD hS => ?_)
              refine W.eq (g2 := F0 m 225 ls [.int (b2i r59)]) rfl ?_
              refine lv_if_eq (tgt := 404) hx hb dL_law_225 (by decide) (fun c62 => ?_) (fun c62 => ?_)
              · rw [if_pos c62] at h
                refine lv_iconst (v := (nI 0)) hx hb dL_law_404 (by decide) ?_
                cases h
              · rw [if_neg c62] at h
                refine lv_aload_n hx hb dL_law_228 rfl (lv_at hl 1 rfl) ?_
                refine lv_iconst (v := (nI 0)) hx hb dL_law_229 (by decide) ?_
                obtain ⟨⟨r63, w64⟩, hr65, h⟩ := ob h
                dsimp only at h
                refine px_SL (As := [.ref (b_e 0 0), .int (nI 0)]) (rest := []) (gs := ([gO E b_e w60] : List va_W)) (gr := ([] : List va_W)) (gc := ([gO E b_e w60] : List va_W)) (g1 := ([gO E b_e w64] : List va_W)) (g2 := ([gO E b_e w64] : List va_W)) ⟨hx, hb, hml, hown, hts⟩ (mT_fork l hlt E X L b_e ((nI 0))  (w60) r63 w64 hr65) (vx_cwSW 2 hts (wsw_s q456 q457 q17 q458) rfl rfl rfl hdS_L_fork (by rw [hR]; first | exact ⟨Nat.le_of_ble_eq_true rfl, Nat.le_of_ble_eq_true rfl⟩ | exact ⟨by show _ ≤ (977054 : Nat); omega, by show _ ≤ (6170461 : Nat); omega⟩)) hK hN hX hL hP hD hS hA [] [0] [0] rfl rfl (by decide) (by decide) rfl (by decide) rfl hl.1 rfl (Nat.le_of_ble_eq_true rfl) dL_law_230 (by rw [hR]; first | exact ⟨Nat.le_of_ble_eq_true rfl, Nat.le_of_ble_eq_true rfl⟩ | exact ⟨by show _ ≤ (977054 : Nat); omega, by show _ ≤ (6170461 : Nat); omega⟩) (fun H locs hP hD hS => ?_)
                refine W.eq (g2 := F0 m 233 ls [.int r63]) rfl ?_
                refine lv_sipush (v := (-1002 : Int32)) hx hb dL_law_233 (by decide) ?_
                refine lv_icmp_ne (tgt := 404) hx hb dL_law_236 (by decide) (fun c66 => ?_) (fun c66 => ?_)
                · rw [if_neg c66] at h
                  refine lv_iconst (v := (nI 0)) hx hb dL_law_404 (by decide) ?_
                  cases h
                · rw [if_pos c66] at h
                  refine lv_aload_n hx hb dL_law_239 rfl (lv_at hl 1 rfl) ?_
                  refine lv_iconst (v := (nI 1)) hx hb dL_law_240 (by decide) ?_
                  refine lv_iconst (v := (nI 5)) hx hb dL_law_241 (by decide) ?_
                  obtain ⟨⟨r67, w68⟩, hr69, h⟩ := ob h
                  dsimp only at h
                  refine px_SZ (As := [.ref (b_e 0 0), .int (nI 1), .int (nI 5)]) (rest := []) (gs := ([gO E b_e w64] : List va_W)) (gr := ([] : List va_W)) (gc := ([gO E b_e w64] : List va_W)) (g1 := ([gO E b_e w68] : List va_W)) (g2 := ([gO E b_e w68] : List va_W)) ⟨hx, hb, hml, hown, hts⟩ (mL_is l hlt E X L b_e ((nI 1)) ((nI 5))  (w64) r67 w68 hr69) (va_cwS 3 hts (ws_s q909 q910 q17 q911) rfl rfl rfl hdS_L_is (by rw [hR]; first | exact ⟨Nat.le_of_ble_eq_true rfl, Nat.le_of_ble_eq_true rfl⟩ | exact ⟨by show _ ≤ (977054 : Nat); omega, by show _ ≤ (6170461 : Nat); omega⟩)) hK hN hX hL hP hD hS hA [] [0] [0] rfl rfl (by decide) (by decide) rfl (by decide) rfl hl.1 rfl (Nat.le_of_ble_eq_true rfl) dL_law_242 (by rw [hR]; first | exact ⟨Nat.le_of_ble_eq_true rfl, Nat.le_of_ble_eq_true rfl⟩ | exact ⟨by show _ ≤ (977054 : Nat); omega, by show _ ≤ (6170461 : Nat); omega⟩) (fun H locs hP hD hS => ?_)
                  refine W.eq (g2 := F0 m 245 ls [.int (b2i r67)]) rfl ?_
                  refine lv_if_eq (tgt := 404) hx hb dL_law_245 (by decide) (fun c70 => ?_) (fun c70 => ?_)
                  · rw [if_pos c70] at h
                    refine lv_iconst (v := (nI 0)) hx hb dL_law_404 (by decide) ?_
                    cases h
                  · rw [if_neg c70] at h
                    refine lv_aload_n hx hb dL_law_248 rfl (lv_at hl 1 rfl) ?_
                    refine lv_iconst (v := (nI 4)) hx hb dL_law_249 (by decide) ?_
                    refine lv_iconst (v := (nI 0)) hx hb dL_law_250 (by decide) ?_
                    refine lv_iconst (v := (nI 0)) hx hb dL_law_251 (by decide) ?_
                    refine lv_iconst (v := (nI 0)) hx hb dL_law_252 (by decide) ?_
                    obtain ⟨⟨r71, w72⟩, hr73, h⟩ := ob h
                    dsimp only at h
                    refine px_SL (As := [.ref (b_e 0 0), .int (nI 4), .int (nI 0), .int (nI 0), .int (nI 0)]) (rest := []) (gs := ([gO E b_e w68] : List va_W)) (gr := ([] : List va_W)) (gc := ([gO E b_e w68] : List va_W)) (g1 := ([gO E b_e w72] : List va_W)) (g2 := ([gO E b_e w72] : List va_W)) ⟨hx, hb, hml, hown, hts⟩ (mT_halve l hlt E X L b_e ((nI 4)) ((nI 0)) ((nI 0)) ((nI 0))  (w68) r71 w72 hr73) (vx_cwSW 5 hts (wsw_s q613 q614 q17 q615) rfl rfl rfl hdS_L_halve (by rw [hR]; first | exact ⟨Nat.le_of_ble_eq_true rfl, Nat.le_of_ble_eq_true rfl⟩ | exact ⟨by show _ ≤ (977054 : Nat); omega, by show _ ≤ (6170461 : Nat); omega⟩)) hK hN hX hL hP hD hS hA [] [0] [0] rfl rfl (by decide) (by decide) rfl (by decide) rfl hl.1 rfl (Nat.le_of_ble_eq_true rfl) dL_law_253 (by rw [hR]; first | exact ⟨Nat.le_of_ble_eq_true rfl, Nat.le_of_ble_eq_true rfl⟩ | exact ⟨by show _ ≤ (977054 : Nat); omega, by show _ ≤ (6170461 : Nat); omega⟩) (fun H locs hP hD hS => ?_)
                    refine W.eq (g2 := F0 m 256 ls [.int r71]) rfl ?_
                    refine lv_iconst (v := (nI 1)) hx hb dL_law_256 (by decide) ?_
                    refine lv_icmp_ne (tgt := 404) hx hb dL_law_257 (by decide) (fun c74 => ?_) (fun c74 => ?_)
                    · rw [if_neg c74] at h
                      refine lv_iconst (v := (nI 0)) hx hb dL_law_404 (by decide) ?_
                      cases h
                    · rw [if_pos c74] at h
                      refine lv_aload_n hx hb dL_law_260 rfl (lv_at hl 1 rfl) ?_
                      refine lv_iconst (v := (nI 4)) hx hb dL_law_261 (by decide) ?_
                      refine lv_iconst (v := (nI 0)) hx hb dL_law_262 (by decide) ?_
                      refine lv_iconst (v := (nI 0)) hx hb dL_law_263 (by decide) ?_
                      refine lv_iconst (v := (nI 1)) hx hb dL_law_264 (by decide) ?_
                      obtain ⟨⟨r75, w76⟩, hr77, h⟩ := ob h
                      dsimp only at h
                      refine px_SL (As := [.ref (b_e 0 0), .int (nI 4), .int (nI 0), .int (nI 0), .int (nI 1)]) (rest := []) (gs := ([gO E b_e w72] : List va_W)) (gr := ([] : List va_W)) (gc := ([gO E b_e w72] : List va_W)) (g1 := ([gO E b_e w76] : List va_W)) (g2 := ([gO E b_e w76] : List va_W)) ⟨hx, hb, hml, hown, hts⟩ (mT_halve l hlt E X L b_e ((nI 4)) ((nI 0)) ((nI 0)) ((nI 1))  (w72) r75 w76 hr77) (vx_cwSW 5 hts (wsw_s q613 q614 q17 q615) rfl rfl rfl hdS_L_halve (by rw [hR]; first | exact ⟨Nat.le_of_ble_eq_true rfl, Nat.le_of_ble_eq_true rfl⟩ | exact ⟨by show _ ≤ (977054 : Nat); omega, by show _ ≤ (6170461 : Nat); omega⟩)) hK hN hX hL hP hD hS hA [] [0] [0] rfl rfl (by decide) (by decide) rfl (by decide) rfl hl.1 rfl (Nat.le_of_ble_eq_true rfl) dL_law_265 (by rw [hR]; first | exact ⟨Nat.le_of_ble_eq_true rfl, Nat.le_of_ble_eq_true rfl⟩ | exact ⟨by show _ ≤ (977054 : Nat); omega, by show _ ≤ (6170461 : Nat); omega⟩) (fun H locs hP hD hS => ?_)
                      refine W.eq (g2 := F0 m 268 ls [.int r75]) rfl ?_
                      refine lv_iconst (v := (nI 5)) hx hb dL_law_268 (by decide) ?_
                      refine lv_icmp_ne (tgt := 404) hx hb dL_law_269 (by decide) (fun c78 => ?_) (fun c78 => ?_)
                      · rw [if_neg c78] at h
                        refine lv_iconst (v := (nI 0)) hx hb dL_law_404 (by decide) ?_
                        cases h
                      · rw [if_pos c78] at h
                        refine lv_aload_n hx hb dL_law_272 rfl (lv_at hl 1 rfl) ?_
                        refine lv_iconst (v := (nI 4)) hx hb dL_law_273 (by decide) ?_
                        refine lv_iconst (v := (nI 0)) hx hb dL_law_274 (by decide) ?_
                        refine lv_bipush (v := (nI 22)) hx hb dL_law_275 (by decide) ?_
                        refine lv_iconst (v := (nI 0)) hx hb dL_law_277 (by decide) ?_
                        obtain ⟨⟨r79, w80⟩, hr81, h⟩ := ob h
                        dsimp only at h
                        refine px_SL (As := [.ref (b_e 0 0), .int (nI 4), .int (nI 0), .int (nI 22), .int (nI 0)]) (rest := []) (gs := ([gO E b_e w76] : List va_W)) (gr := ([] : List va_W)) (gc := ([gO E b_e w76] : List va_W)) (g1 := ([gO E b_e w80] : List va_W)) (g2 := ([gO E b_e w80] : List va_W)) ⟨hx, hb, hml, hown, hts⟩ (mT_halve l hlt E X L b_e ((nI 4)) ((nI 0)) ((nI 22)) ((nI 0))  (w76) r79 w80 hr81) (vx_cwSW 5 hts (wsw_s q613 q614 q17 q615) rfl rfl rfl hdS_L_halve (by rw [hR]; first | exact ⟨Nat.le_of_ble_eq_true rfl, Nat.le_of_ble_eq_true rfl⟩ | exact ⟨by show _ ≤ (977054 : Nat); omega, by show _ ≤ (6170461 : Nat); omega⟩)) hK hN hX hL hP hD hS hA [] [0] [0] rfl rfl (by decide) (by decide) rfl (by decide) rfl hl.1 rfl (Nat.le_of_ble_eq_true rfl) dL_law_278 (by rw [hR]; first | exact ⟨Nat.le_of_ble_eq_true rfl, Nat.le_of_ble_eq_true rfl⟩ | exact ⟨by show _ ≤ (977054 : Nat); omega, by show _ ≤ (6170461 : Nat); omega⟩) (fun H locs hP hD hS => ?_)
                        refine W.eq (g2 := F0 m 281 ls [.int r79]) rfl ?_
                        refine lv_bipush (v := (nI 23)) hx hb dL_law_281 (by decide) ?_
                        refine lv_icmp_ne (tgt := 404) hx hb dL_law_283 (by decide) (fun c82 => ?_) (fun c82 => ?_)
                        · rw [if_neg c82] at h
                          refine lv_iconst (v := (nI 0)) hx hb dL_law_404 (by decide) ?_
                          cases h
                        · rw [if_pos c82] at h
                          refine lv_aload_n hx hb dL_law_286 rfl (lv_at hl 1 rfl) ?_
                          refine lv_iconst (v := (nI 4)) hx hb dL_law_287 (by decide) ?_
                          refine lv_iconst (v := (nI 0)) hx hb dL_law_288 (by decide) ?_
                          refine lv_bipush (v := (nI 10)) hx hb dL_law_289 (by decide) ?_
                          obtain ⟨⟨r83, w84⟩, hr85, h⟩ := ob h
                          dsimp only at h
                          refine px_SL (As := [.ref (b_e 0 0), .int (nI 4), .int (nI 0), .int (nI 10)]) (rest := []) (gs := ([gO E b_e w80] : List va_W)) (gr := ([] : List va_W)) (gc := ([gO E b_e w80] : List va_W)) (g1 := ([gO E b_e w84] : List va_W)) (g2 := ([gO E b_e w84] : List va_W)) ⟨hx, hb, hml, hown, hts⟩ (mT_firstBad l hlt E X L b_e ((nI 4)) ((nI 0)) ((nI 10))  (w80) r83 w84 hr85) (vx_cwSW 4 hts (wsw_s q668 q669 q17 q670) rfl rfl rfl hdS_L_firstBad (by rw [hR]; first | exact ⟨Nat.le_of_ble_eq_true rfl, Nat.le_of_ble_eq_true rfl⟩ | exact ⟨by show _ ≤ (977054 : Nat); omega, by show _ ≤ (6170461 : Nat); omega⟩)) hK hN hX hL hP hD hS hA [] [0] [0] rfl rfl (by decide) (by decide) rfl (by decide) rfl hl.1 rfl (Nat.le_of_ble_eq_true rfl) dL_law_291 (by rw [hR]; first | exact ⟨Nat.le_of_ble_eq_true rfl, Nat.le_of_ble_eq_true rfl⟩ | exact ⟨by show _ ≤ (977054 : Nat); omega, by show _ ≤ (6170461 : Nat); omega⟩) (fun H locs hP hD hS => ?_)
                          refine W.eq (g2 := F0 m 294 ls [.int r83]) rfl ?_
                          refine lv_bipush (v := (nI 11)) hx hb dL_law_294 (by decide) ?_
                          refine lv_icmp_ne (tgt := 404) hx hb dL_law_296 (by decide) (fun c86 => ?_) (fun c86 => ?_)
                          · rw [if_neg c86] at h
                            refine lv_iconst (v := (nI 0)) hx hb dL_law_404 (by decide) ?_
                            cases h
                          · rw [if_pos c86] at h
                            refine lv_aload_n hx hb dL_law_299 rfl (lv_at hl 1 rfl) ?_
                            refine lv_bipush (v := (nI 23)) hx hb dL_law_300 (by decide) ?_
                            refine lv_iconst (v := (nI 5)) hx hb dL_law_302 (by decide) ?_
                            obtain ⟨⟨r87, w88⟩, hr89, h⟩ := ob h
                            dsimp only at h
                            refine px_SL (As := [.ref (b_e 0 0), .int (nI 23), .int (nI 5)]) (rest := []) (gs := ([gO E b_e w84] : List va_W)) (gr := ([] : List va_W)) (gc := ([gO E b_e w84] : List va_W)) (g1 := ([gO E b_e w88] : List va_W)) (g2 := ([gO E b_e w88] : List va_W)) ⟨hx, hb, hml, hown, hts⟩ (mT_commitOf l hlt E X L b_e ((nI 23)) ((nI 5))  (w84) r87 w88 hr89) (vx_cwSW 3 hts (wsw_s q508 q509 q17 q510) rfl rfl rfl hdS_L_commitOf (by rw [hR]; first | exact ⟨Nat.le_of_ble_eq_true rfl, Nat.le_of_ble_eq_true rfl⟩ | exact ⟨by show _ ≤ (977054 : Nat); omega, by show _ ≤ (6170461 : Nat); omega⟩)) hK hN hX hL hP hD hS hA [] [0] [0] rfl rfl (by decide) (by decide) rfl (by decide) rfl hl.1 rfl (Nat.le_of_ble_eq_true rfl) dL_law_303 (by rw [hR]; first | exact ⟨Nat.le_of_ble_eq_true rfl, Nat.le_of_ble_eq_true rfl⟩ | exact ⟨by show _ ≤ (977054 : Nat); omega, by show _ ≤ (6170461 : Nat); omega⟩) (fun H locs hP hD hS => ?_)
                            refine W.eq (g2 := F0 m 306 ls [.int r87]) rfl ?_
                            refine lv_bipush (v := (nI 23)) hx hb dL_law_306 (by decide) ?_
                            refine lv_icmp_ne (tgt := 404) hx hb dL_law_308 (by decide) (fun c90 => ?_) (fun c90 => ?_)
                            · rw [if_neg c90] at h
                              refine lv_iconst (v := (nI 0)) hx hb dL_law_404 (by decide) ?_
                              cases h
                            · rw [if_pos c90] at h
                              refine lv_aload_n hx hb dL_law_311 rfl (lv_at hl 1 rfl) ?_
                              refine lv_bipush (v := (nI 23)) hx hb dL_law_312 (by decide) ?_
                              refine lv_iconst (v := (nI 4)) hx hb dL_law_314 (by decide) ?_
                              obtain ⟨⟨r91, w92⟩, hr93, h⟩ := ob h
                              dsimp only at h
                              refine px_SL (As := [.ref (b_e 0 0), .int (nI 23), .int (nI 4)]) (rest := []) (gs := ([gO E b_e w88] : List va_W)) (gr := ([] : List va_W)) (gc := ([gO E b_e w88] : List va_W)) (g1 := ([gO E b_e w92] : List va_W)) (g2 := ([gO E b_e w92] : List va_W)) ⟨hx, hb, hml, hown, hts⟩ (mT_commitOf l hlt E X L b_e ((nI 23)) ((nI 4))  (w88) r91 w92 hr93) (vx_cwSW 3 hts (wsw_s q508 q509 q17 q510) rfl rfl rfl hdS_L_commitOf (by rw [hR]; first | exact ⟨Nat.le_of_ble_eq_true rfl, Nat.le_of_ble_eq_true rfl⟩ | exact ⟨by show _ ≤ (977054 : Nat); omega, by show _ ≤ (6170461 : Nat); omega⟩)) hK hN hX hL hP hD hS hA [] [0] [0] rfl rfl (by decide) (by decide) rfl (by decide) rfl hl.1 rfl (Nat.le_of_ble_eq_true rfl) dL_law_315 (by rw [hR]; first | exact ⟨Nat.le_of_ble_eq_true rfl, Nat.le_of_ble_eq_true rfl⟩ | exact ⟨by show _ ≤ (977054 : Nat); omega, by show _ ≤ (6170461 : Nat); omega⟩) (fun H locs hP hD hS => ?_)
                              refine W.eq (g2 := F0 m 318 ls [.int r91]) rfl ?_
                              refine lv_bipush (v := (nI 23)) hx hb dL_law_318 (by decide) ?_
                              refine lv_icmp_ne (tgt := 404) hx hb dL_law_320 (by decide) (fun c94 => ?_) (fun c94 => ?_)
                              · rw [if_neg c94] at h
                                refine lv_iconst (v := (nI 0)) hx hb dL_law_404 (by decide) ?_
                                cases h
                              · rw [if_pos c94] at h
                                refine lv_aload_n hx hb dL_law_323 rfl (lv_at hl 1 rfl) ?_
                                refine lv_iconst (v := (nI 0)) hx hb dL_law_324 (by decide) ?_
                                refine lv_bipush (v := (nI 23)) hx hb dL_law_325 (by decide) ?_
                                refine lv_iconst (v := (nI 0)) hx hb dL_law_327 (by decide) ?_
                                obtain ⟨⟨r95, w96⟩, hr97, h⟩ := ob h
                                dsimp only at h
                                refine px_SL (As := [.ref (b_e 0 0), .int (nI 0), .int (nI 23), .int (nI 0)]) (rest := []) (gs := ([gO E b_e w92] : List va_W)) (gr := ([] : List va_W)) (gc := ([gO E b_e w92] : List va_W)) (g1 := ([gO E b_e w96] : List va_W)) (g2 := ([gO E b_e w96] : List va_W)) ⟨hx, hb, hml, hown, hts⟩ (mT_revert l hlt E X L b_e ((nI 0)) ((nI 23)) ((nI 0))  (w92) r95 w96 hr97) (vx_cwSW 4 hts (wsw_s q593 q594 q17 q595) rfl rfl rfl hdS_L_revert (by rw [hR]; first | exact ⟨Nat.le_of_ble_eq_true rfl, Nat.le_of_ble_eq_true rfl⟩ | exact ⟨by show _ ≤ (977054 : Nat); omega, by show _ ≤ (6170461 : Nat); omega⟩)) hK hN hX hL hP hD hS hA [] [0] [0] rfl rfl (by decide) (by decide) rfl (by decide) rfl hl.1 rfl (Nat.le_of_ble_eq_true rfl) dL_law_328 (by rw [hR]; first | exact ⟨Nat.le_of_ble_eq_true rfl, Nat.le_of_ble_eq_true rfl⟩ | exact ⟨by show _ ≤ (977054 : Nat); omega, by show _ ≤ (6170461 : Nat); omega⟩) (fun H locs hP hD hS => ?_)
                                refine W.eq (g2 := F0 m 331 ls [.int r95]) rfl ?_
                                refine lv_sipush (v := (-1003 : Int32)) hx hb dL_law_331 (by decide) ?_
                                refine lv_icmp_ne (tgt := 404) hx hb dL_law_334 (by decide) (fun c98 => ?_) (fun c98 => ?_)
                                · rw [if_neg c98] at h
                                  refine lv_iconst (v := (nI 0)) hx hb dL_law_404 (by decide) ?_
                                  cases h
                                · rw [if_pos c98] at h
                                  refine lv_aload_n hx hb dL_law_337 rfl (lv_at hl 1 rfl) ?_
                                  refine lv_iconst (v := (nI 1)) hx hb dL_law_338 (by decide) ?_
                                  refine lv_bipush (v := (nI 24)) hx hb dL_law_339 (by decide) ?_
                                  obtain ⟨⟨r99, w100⟩, hr101, h⟩ := ob h
                                  dsimp only at h
                                  refine px_SZ (As := [.ref (b_e 0 0), .int (nI 1), .int (nI 24)]) (rest := []) (gs := ([gO E b_e w96] : List va_W)) (gr := ([] : List va_W)) (gc := ([gO E b_e w96] : List va_W)) (g1 := ([gO E b_e w100] : List va_W)) (g2 := ([gO E b_e w100] : List va_W)) ⟨hx, hb, hml, hown, hts⟩ (mL_is l hlt E X L b_e ((nI 1)) ((nI 24))  (w96) r99 w100 hr101) (va_cwS 3 hts (ws_s q909 q910 q17 q911) rfl rfl rfl hdS_L_is (by rw [hR]; first | exact ⟨Nat.le_of_ble_eq_true rfl, Nat.le_of_ble_eq_true rfl⟩ | exact ⟨by show _ ≤ (977054 : Nat); omega, by show _ ≤ (6170461 : Nat); omega⟩)) hK hN hX hL hP hD hS hA [] [0] [0] rfl rfl (by decide) (by decide) rfl (by decide) rfl hl.1 rfl (Nat.le_of_ble_eq_true rfl) dL_law_341 (by rw [hR]; first | exact ⟨Nat.le_of_ble_eq_true rfl, Nat.le_of_ble_eq_true rfl⟩ | exact ⟨by show _ ≤ (977054 : Nat); omega, by show _ ≤ (6170461 : Nat); omega⟩) (fun H locs hP hD hS => ?_)
                                  refine W.eq (g2 := F0 m 344 ls [.int (b2i r99)]) rfl ?_
                                  refine lv_if_eq (tgt := 404) hx hb dL_law_344 (by decide) (fun c102 => ?_) (fun c102 => ?_)
                                  · rw [if_pos c102] at h
                                    refine lv_iconst (v := (nI 0)) hx hb dL_law_404 (by decide) ?_
                                    cases h
                                  · rw [if_neg c102] at h
                                    refine lv_aload_n hx hb dL_law_347 rfl (lv_at hl 1 rfl) ?_
                                    refine lv_iconst (v := (nI 0)) hx hb dL_law_348 (by decide) ?_
                                    refine lv_iconst (v := (nI 5)) hx hb dL_law_349 (by decide) ?_
                                    refine lv_iconst (v := (nI 0)) hx hb dL_law_350 (by decide) ?_
                                    obtain ⟨⟨r103, w104⟩, hr105, h⟩ := ob h
                                    dsimp only at h
                                    refine px_SL (As := [.ref (b_e 0 0), .int (nI 0), .int (nI 5), .int (nI 0)]) (rest := []) (gs := ([gO E b_e w100] : List va_W)) (gr := ([] : List va_W)) (gc := ([gO E b_e w100] : List va_W)) (g1 := ([gO E b_e w104] : List va_W)) (g2 := ([gO E b_e w104] : List va_W)) ⟨hx, hb, hml, hown, hts⟩ (mT_revert l hlt E X L b_e ((nI 0)) ((nI 5)) ((nI 0))  (w100) r103 w104 hr105) (vx_cwSW 4 hts (wsw_s q593 q594 q17 q595) rfl rfl rfl hdS_L_revert (by rw [hR]; first | exact ⟨Nat.le_of_ble_eq_true rfl, Nat.le_of_ble_eq_true rfl⟩ | exact ⟨by show _ ≤ (977054 : Nat); omega, by show _ ≤ (6170461 : Nat); omega⟩)) hK hN hX hL hP hD hS hA [] [0] [0] rfl rfl (by decide) (by decide) rfl (by decide) rfl hl.1 rfl (Nat.le_of_ble_eq_true rfl) dL_law_351 (by rw [hR]; first | exact ⟨Nat.le_of_ble_eq_true rfl, Nat.le_of_ble_eq_true rfl⟩ | exact ⟨by show _ ≤ (977054 : Nat); omega, by show _ ≤ (6170461 : Nat); omega⟩) (fun H locs hP hD hS => ?_)
                                    refine W.eq (g2 := F0 m 354 ls [.int r103]) rfl ?_
                                    refine lv_sipush (v := (-1003 : Int32)) hx hb dL_law_354 (by decide) ?_
                                    refine lv_icmp_ne (tgt := 404) hx hb dL_law_357 (by decide) (fun c106 => ?_) (fun c106 => ?_)
                                    · rw [if_neg c106] at h
                                      refine lv_iconst (v := (nI 0)) hx hb dL_law_404 (by decide) ?_
                                      cases h
                                    · rw [if_pos c106] at h
                                      refine lv_aload_n hx hb dL_law_360 rfl (lv_at hl 1 rfl) ?_
                                      refine lv_iconst (v := (nI 5)) hx hb dL_law_361 (by decide) ?_
                                      refine lv_iconst (v := (nI 0)) hx hb dL_law_362 (by decide) ?_
                                      obtain ⟨⟨r107, w108⟩, hr109, h⟩ := ob h
                                      dsimp only at h
                                      refine px_SZ (As := [.ref (b_e 0 0), .int (nI 5), .int (nI 0)]) (rest := []) (gs := ([gO E b_e w104] : List va_W)) (gr := ([] : List va_W)) (gc := ([gO E b_e w104] : List va_W)) (g1 := ([gO E b_e w108] : List va_W)) (g2 := ([gO E b_e w108] : List va_W)) ⟨hx, hb, hml, hown, hts⟩ (mL_is l hlt E X L b_e ((nI 5)) ((nI 0))  (w104) r107 w108 hr109) (va_cwS 3 hts (ws_s q909 q910 q17 q911) rfl rfl rfl hdS_L_is (by rw [hR]; first | exact ⟨Nat.le_of_ble_eq_true rfl, Nat.le_of_ble_eq_true rfl⟩ | exact ⟨by show _ ≤ (977054 : Nat); omega, by show _ ≤ (6170461 : Nat); omega⟩)) hK hN hX hL hP hD hS hA [] [0] [0] rfl rfl (by decide) (by decide) rfl (by decide) rfl hl.1 rfl (Nat.le_of_ble_eq_true rfl) dL_law_363 (by rw [hR]; first | exact ⟨Nat.le_of_ble_eq_true rfl, Nat.le_of_ble_eq_true rfl⟩ | exact ⟨by show _ ≤ (977054 : Nat); omega, by show _ ≤ (6170461 : Nat); omega⟩) (fun H locs hP hD hS => ?_)
                                      refine W.eq (g2 := F0 m 366 ls [.int (b2i r107)]) rfl ?_
                                      refine lv_if_eq (tgt := 404) hx hb dL_law_366 (by decide) (fun c110 => ?_) (fun c110 => ?_)
                                      · rw [if_pos c110] at h
                                        refine lv_iconst (v := (nI 0)) hx hb dL_law_404 (by decide) ?_
                                        cases h
                                      · rw [if_neg c110] at h
                                        refine lv_aload_n hx hb dL_law_369 rfl (lv_at hl 1 rfl) ?_
                                        refine lv_iconst (v := (nI 0)) hx hb dL_law_370 (by decide) ?_
                                        refine lv_iconst (v := (nI 5)) hx hb dL_law_371 (by decide) ?_
                                        refine lv_iconst (v := (nI 1)) hx hb dL_law_372 (by decide) ?_
                                        obtain ⟨⟨r111, w112⟩, hr113, h⟩ := ob h
                                        dsimp only at h
                                        refine px_SL (As := [.ref (b_e 0 0), .int (nI 0), .int (nI 5), .int (nI 1)]) (rest := []) (gs := ([gO E b_e w108] : List va_W)) (gr := ([] : List va_W)) (gc := ([gO E b_e w108] : List va_W)) (g1 := ([gO E b_e w112] : List va_W)) (g2 := ([gO E b_e w112] : List va_W)) ⟨hx, hb, hml, hown, hts⟩ (mT_revert l hlt E X L b_e ((nI 0)) ((nI 5)) ((nI 1))  (w108) r111 w112 hr113) (vx_cwSW 4 hts (wsw_s q593 q594 q17 q595) rfl rfl rfl hdS_L_revert (by rw [hR]; first | exact ⟨Nat.le_of_ble_eq_true rfl, Nat.le_of_ble_eq_true rfl⟩ | exact ⟨by show _ ≤ (977054 : Nat); omega, by show _ ≤ (6170461 : Nat); omega⟩)) hK hN hX hL hP hD hS hA [] [0] [0] rfl rfl (by decide) (by decide) rfl (by decide) rfl hl.1 rfl (Nat.le_of_ble_eq_true rfl) dL_law_373 (by rw [hR]; first | exact ⟨Nat.le_of_ble_eq_true rfl, Nat.le_of_ble_eq_true rfl⟩ | exact ⟨by show _ ≤ (977054 : Nat); omega, by show _ ≤ (6170461 : Nat); omega⟩) (fun H locs hP hD hS => ?_)
                                        refine W.eq (g2 := F0 m 376 ls [.int r111]) rfl ?_
                                        refine lv_sipush (v := (-1003 : Int32)) hx hb dL_law_376 (by decide) ?_
                                        refine lv_icmp_ne (tgt := 404) hx hb dL_law_379 (by decide) (fun c114 => ?_) (fun c114 => ?_)
                                        · rw [if_neg c114] at h
                                          refine lv_iconst (v := (nI 0)) hx hb dL_law_404 (by decide) ?_
                                          cases h
                                        · rw [if_pos c114] at h
                                          refine lv_aload_n hx hb dL_law_382 rfl (lv_at hl 1 rfl) ?_
                                          refine lv_bipush (v := (nI 7)) hx hb dL_law_383 (by decide) ?_
                                          refine lv_bipush (v := (nI 23)) hx hb dL_law_385 (by decide) ?_
                                          obtain ⟨⟨r115, w116⟩, hr117, h⟩ := ob h
                                          dsimp only at h
                                          refine px_SZ (As := [.ref (b_e 0 0), .int (nI 7), .int (nI 23)]) (rest := []) (gs := ([gO E b_e w112] : List va_W)) (gr := ([] : List va_W)) (gc := ([gO E b_e w112] : List va_W)) (g1 := ([gO E b_e w116] : List va_W)) (g2 := ([gO E b_e w116] : List va_W)) ⟨hx, hb, hml, hown, hts⟩ (mL_is l hlt E X L b_e ((nI 7)) ((nI 23))  (w112) r115 w116 hr117) (va_cwS 3 hts (ws_s q909 q910 q17 q911) rfl rfl rfl hdS_L_is (by rw [hR]; first | exact ⟨Nat.le_of_ble_eq_true rfl, Nat.le_of_ble_eq_true rfl⟩ | exact ⟨by show _ ≤ (977054 : Nat); omega, by show _ ≤ (6170461 : Nat); omega⟩)) hK hN hX hL hP hD hS hA [] [0] [0] rfl rfl (by decide) (by decide) rfl (by decide) rfl hl.1 rfl (Nat.le_of_ble_eq_true rfl) dL_law_387 (by rw [hR]; first | exact ⟨Nat.le_of_ble_eq_true rfl, Nat.le_of_ble_eq_true rfl⟩ | exact ⟨by show _ ≤ (977054 : Nat); omega, by show _ ≤ (6170461 : Nat); omega⟩) (fun H locs hP hD hS => ?_)
                                          refine W.eq (g2 := F0 m 390 ls [.int (b2i r115)]) rfl ?_
                                          refine lv_if_eq (tgt := 404) hx hb dL_law_390 (by decide) (fun c118 => ?_) (fun c118 => ?_)
                                          · rw [if_pos c118] at h
                                            refine lv_iconst (v := (nI 0)) hx hb dL_law_404 (by decide) ?_
                                            cases h
                                          · rw [if_neg c118] at h
                                            refine lv_aload_n hx hb dL_law_393 rfl (lv_at hl 1 rfl) ?_
                                            refine lv_bipush (v := (nI 10)) hx hb dL_law_394 (by decide) ?_
                                            obtain ⟨⟨r119, w120⟩, hr121, h⟩ := ob h
                                            dsimp only at h
                                            refine px_SL (As := [.ref (b_e 0 0), .int (nI 10)]) (rest := []) (gs := ([gO E b_e w116] : List va_W)) (gr := ([] : List va_W)) (gc := ([gO E b_e w116] : List va_W)) (g1 := ([gO E b_e w120] : List va_W)) (g2 := ([gO E b_e w120] : List va_W)) ⟨hx, hb, hml, hown, hts⟩ (mT_account l hlt E X L b_e ((nI 10))  (w116) r119 w120 hr121) (vx_cwSW 2 hts (wsw_s q848 q849 q17 q850) rfl rfl rfl hdS_L_account (by rw [hR]; first | exact ⟨Nat.le_of_ble_eq_true rfl, Nat.le_of_ble_eq_true rfl⟩ | exact ⟨by show _ ≤ (977054 : Nat); omega, by show _ ≤ (6170461 : Nat); omega⟩)) hK hN hX hL hP hD hS hA [] [0] [0] rfl rfl (by decide) (by decide) rfl (by decide) rfl hl.1 rfl (Nat.le_of_ble_eq_true rfl) dL_law_396 (by rw [hR]; first | exact ⟨Nat.le_of_ble_eq_true rfl, Nat.le_of_ble_eq_true rfl⟩ | exact ⟨by show _ ≤ (977054 : Nat); omega, by show _ ≤ (6170461 : Nat); omega⟩) (fun H locs hP hD hS => ?_)
                                            refine W.eq (g2 := F0 m 399 ls [.int r119]) rfl ?_
                                            refine lv_bipush (v := (nI 8)) hx hb dL_law_399 (by decide) ?_
                                            refine lv_icmp_eq (tgt := 406) hx hb dL_law_401 (by decide) (fun c122 => ?_) (fun c122 => ?_)
                                            · rw [if_pos c122] at h
                                              refine lv_aload_n hx hb dL_law_406 rfl (lv_at hl 1 rfl) ?_
                                              refine lv_iconst (v := (nI 1)) hx hb dL_law_407 (by decide) ?_
                                              refine lv_iconst (v := (nI 3)) hx hb dL_law_408 (by decide) ?_
                                              obtain ⟨⟨r123, w124⟩, hr125, h⟩ := ob h
                                              dsimp only at h
                                              refine px_SL (As := [.ref (b_e 0 0), .int (nI 1), .int (nI 3)]) (rest := []) (gs := ([gO E b_e w120] : List va_W)) (gr := ([] : List va_W)) (gc := ([gO E b_e w120] : List va_W)) (g1 := ([gO E b_e w124] : List va_W)) (g2 := ([gO E b_e w124] : List va_W)) ⟨hx, hb, hml, hown, hts⟩ (mT_reset l hlt E X L b_e ((nI 1)) ((nI 3))  (w120) r123 w124 hr125) (vx_cwSW 3 hts (wsw_s q475 q476 q17 q477) rfl rfl rfl hdS_L_reset (by rw [hR]; first | exact ⟨Nat.le_of_ble_eq_true rfl, Nat.le_of_ble_eq_true rfl⟩ | exact ⟨by show _ ≤ (977054 : Nat); omega, by show _ ≤ (6170461 : Nat); omega⟩)) hK hN hX hL hP hD hS hA [] [0] [0] rfl rfl (by decide) (by decide) rfl (by decide) rfl hl.1 rfl (Nat.le_of_ble_eq_true rfl) dL_law_409 (by rw [hR]; first | exact ⟨Nat.le_of_ble_eq_true rfl, Nat.le_of_ble_eq_true rfl⟩ | exact ⟨by show _ ≤ (977054 : Nat); omega, by show _ ≤ (6170461 : Nat); omega⟩) (fun H locs hP hD hS => ?_)
                                              refine W.eq (g2 := F0 m 412 ls [.int r123]) rfl ?_
                                              refine lv_bipush (v := (nI 23)) hx hb dL_law_412 (by decide) ?_
                                              refine lv_icmp_ne (tgt := 581) hx hb dL_law_414 (by decide) (fun c126 => ?_) (fun c126 => ?_)
                                              · rw [if_neg c126] at h
                                                refine lv_iconst (v := (nI 0)) hx hb dL_law_581 (by decide) ?_
                                                cases h
                                              · rw [if_pos c126] at h
                                                refine lv_aload_n hx hb dL_law_417 rfl (lv_at hl 1 rfl) ?_
                                                refine lv_iconst (v := (nI 1)) hx hb dL_law_418 (by decide) ?_
                                                refine lv_iconst (v := (nI 0)) hx hb dL_law_419 (by decide) ?_
                                                refine lv_iconst (v := (nI 0)) hx hb dL_law_420 (by decide) ?_
                                                obtain ⟨⟨r127, w128⟩, hr129, h⟩ := ob h
                                                dsimp only at h
                                                refine px_SL (As := [.ref (b_e 0 0), .int (nI 1), .int (nI 0), .int (nI 0)]) (rest := []) (gs := ([gO E b_e w124] : List va_W)) (gr := ([] : List va_W)) (gc := ([gO E b_e w124] : List va_W)) (g1 := ([gO E b_e w128] : List va_W)) (g2 := ([gO E b_e w128] : List va_W)) ⟨hx, hb, hml, hown, hts⟩ (mT_merge l hlt E X L b_e ((nI 1)) ((nI 0)) ((nI 0))  (w124) r127 w128 hr129) (vx_cwSW 4 hts (wsw_s q548 q549 q17 q550) rfl rfl rfl hdS_L_merge (by rw [hR]; first | exact ⟨Nat.le_of_ble_eq_true rfl, Nat.le_of_ble_eq_true rfl⟩ | exact ⟨by show _ ≤ (977054 : Nat); omega, by show _ ≤ (6170461 : Nat); omega⟩)) hK hN hX hL hP hD hS hA [] [0] [0] rfl rfl (by decide) (by decide) rfl (by decide) rfl hl.1 rfl (Nat.le_of_ble_eq_true rfl) dL_law_421 (by rw [hR]; first | exact ⟨Nat.le_of_ble_eq_true rfl, Nat.le_of_ble_eq_true rfl⟩ | exact ⟨by show _ ≤ (977054 : Nat); omega, by show _ ≤ (6170461 : Nat); omega⟩) (fun H locs hP hD hS => ?_)
                                                refine W.eq (g2 := F0 m 424 ls [.int r127]) rfl ?_
                                                refine lv_bipush (v := (nI 23)) hx hb dL_law_424 (by decide) ?_
                                                refine lv_icmp_ne (tgt := 581) hx hb dL_law_426 (by decide) (fun c130 => ?_) (fun c130 => ?_)
                                                · rw [if_neg c130] at h
                                                  refine lv_iconst (v := (nI 0)) hx hb dL_law_581 (by decide) ?_
                                                  cases h
                                                · rw [if_pos c130] at h
                                                  refine lv_aload_n hx hb dL_law_429 rfl (lv_at hl 1 rfl) ?_
                                                  refine lv_iconst (v := (nI 0)) hx hb dL_law_430 (by decide) ?_
                                                  obtain ⟨⟨r131, w132⟩, hr133, h⟩ := ob h
                                                  dsimp only at h
                                                  refine px_SL (As := [.ref (b_e 0 0), .int (nI 0)]) (rest := []) (gs := ([gO E b_e w128] : List va_W)) (gr := ([] : List va_W)) (gc := ([gO E b_e w128] : List va_W)) (g1 := ([gO E b_e w132] : List va_W)) (g2 := ([gO E b_e w132] : List va_W)) ⟨hx, hb, hml, hown, hts⟩ (mT_account l hlt E X L b_e ((nI 0))  (w128) r131 w132 hr133) (vx_cwSW 2 hts (wsw_s q848 q849 q17 q850) rfl rfl rfl hdS_L_account (by rw [hR]; first | exact ⟨Nat.le_of_ble_eq_true rfl, Nat.le_of_ble_eq_true rfl⟩ | exact ⟨by show _ ≤ (977054 : Nat); omega, by show _ ≤ (6170461 : Nat); omega⟩)) hK hN hX hL hP hD hS hA [] [0] [0] rfl rfl (by decide) (by decide) rfl (by decide) rfl hl.1 rfl (Nat.le_of_ble_eq_true rfl) dL_law_431 (by rw [hR]; first | exact ⟨Nat.le_of_ble_eq_true rfl, Nat.le_of_ble_eq_true rfl⟩ | exact ⟨by show _ ≤ (977054 : Nat); omega, by show _ ≤ (6170461 : Nat); omega⟩) (fun H locs hP hD hS => ?_)
                                                  refine W.eq (g2 := F0 m 434 ls [.int r131]) rfl ?_
                                                  refine lv_bipush (v := (nI 24)) hx hb dL_law_434 (by decide) ?_
                                                  refine lv_icmp_ne (tgt := 581) hx hb dL_law_436 (by decide) (fun c134 => ?_) (fun c134 => ?_)
                                                  · rw [if_neg c134] at h
                                                    refine lv_iconst (v := (nI 0)) hx hb dL_law_581 (by decide) ?_
                                                    cases h
                                                  · rw [if_pos c134] at h
                                                    refine lv_aload_n hx hb dL_law_439 rfl (lv_at hl 1 rfl) ?_
                                                    obtain ⟨⟨r135, w136⟩, hr137, h⟩ := ob h
                                                    dsimp only at h
                                                    refine px_SL (As := [.ref (b_e 0 0)]) (rest := []) (gs := ([gO E b_e w132] : List va_W)) (gr := ([] : List va_W)) (gc := ([gO E b_e w132] : List va_W)) (g1 := ([gO E b_e w136] : List va_W)) (g2 := ([gO E b_e w136] : List va_W)) ⟨hx, hb, hml, hown, hts⟩ (mT_undo l hlt E X L b_e   (w132) r135 w136 hr137) (vx_cwSW 1 hts (wsw_s q885 q886 q17 q887) rfl rfl rfl hdS_L_undo (by rw [hR]; first | exact ⟨Nat.le_of_ble_eq_true rfl, Nat.le_of_ble_eq_true rfl⟩ | exact ⟨by show _ ≤ (977054 : Nat); omega, by show _ ≤ (6170461 : Nat); omega⟩)) hK hN hX hL hP hD hS hA [] [0] [0] rfl rfl (by decide) (by decide) rfl (by decide) rfl hl.1 rfl (Nat.le_of_ble_eq_true rfl) dL_law_440 (by rw [hR]; first | exact ⟨Nat.le_of_ble_eq_true rfl, Nat.le_of_ble_eq_true rfl⟩ | exact ⟨by show _ ≤ (977054 : Nat); omega, by show _ ≤ (6170461 : Nat); omega⟩) (fun H locs hP hD hS => ?_)
                                                    refine W.eq (g2 := F0 m 443 ls [.int r135]) rfl ?_
                                                    refine lv_bipush (v := (nI 7)) hx hb dL_law_443 (by decide) ?_
                                                    refine lv_icmp_ne (tgt := 581) hx hb dL_law_445 (by decide) (fun c138 => ?_) (fun c138 => ?_)
                                                    · rw [if_neg c138] at h
                                                      refine lv_iconst (v := (nI 0)) hx hb dL_law_581 (by decide) ?_
                                                      cases h
                                                    · rw [if_pos c138] at h
                                                      refine lv_aload_n hx hb dL_law_448 rfl (lv_at hl 1 rfl) ?_
                                                      refine lv_iconst (v := (nI 1)) hx hb dL_law_449 (by decide) ?_
                                                      obtain ⟨⟨r139, w140⟩, hr141, h⟩ := ob h
                                                      dsimp only at h
                                                      refine px_SL (As := [.ref (b_e 0 0), .int (nI 1)]) (rest := []) (gs := ([gO E b_e w136] : List va_W)) (gr := ([] : List va_W)) (gc := ([gO E b_e w136] : List va_W)) (g1 := ([gO E b_e w140] : List va_W)) (g2 := ([gO E b_e w140] : List va_W)) ⟨hx, hb, hml, hown, hts⟩ (mT_tip l hlt E X L b_e ((nI 1))  (w136) r139 w140 hr141) (vx_cwSW 2 hts (wsw_s q494 q495 q17 q496) rfl rfl rfl hdS_L_tip (by rw [hR]; first | exact ⟨Nat.le_of_ble_eq_true rfl, Nat.le_of_ble_eq_true rfl⟩ | exact ⟨by show _ ≤ (977054 : Nat); omega, by show _ ≤ (6170461 : Nat); omega⟩)) hK hN hX hL hP hD hS hA [] [0] [0] rfl rfl (by decide) (by decide) rfl (by decide) rfl hl.1 rfl (Nat.le_of_ble_eq_true rfl) dL_law_450 (by rw [hR]; first | exact ⟨Nat.le_of_ble_eq_true rfl, Nat.le_of_ble_eq_true rfl⟩ | exact ⟨by show _ ≤ (977054 : Nat); omega, by show _ ≤ (6170461 : Nat); omega⟩) (fun H locs hP hD hS => ?_)
                                                      refine W.eq (g2 := F0 m 453 ls [.int r139]) rfl ?_
                                                      refine lv_iconst (v := (nI 3)) hx hb dL_law_453 (by decide) ?_
                                                      refine lv_icmp_ne (tgt := 581) hx hb dL_law_454 (by decide) (fun c142 => ?_) (fun c142 => ?_)
                                                      · rw [if_neg c142] at h
                                                        refine lv_iconst (v := (nI 0)) hx hb dL_law_581 (by decide) ?_
                                                        cases h
                                                      · rw [if_pos c142] at h
                                                        refine lv_aload_n hx hb dL_law_457 rfl (lv_at hl 1 rfl) ?_
                                                        obtain ⟨⟨r143, w144⟩, hr145, h⟩ := ob h
                                                        dsimp only at h
                                                        refine px_SL (As := [.ref (b_e 0 0)]) (rest := []) (gs := ([gO E b_e w140] : List va_W)) (gr := ([] : List va_W)) (gc := ([gO E b_e w140] : List va_W)) (g1 := ([gO E b_e w144] : List va_W)) (g2 := ([gO E b_e w144] : List va_W)) ⟨hx, hb, hml, hown, hts⟩ (mT_undo l hlt E X L b_e   (w140) r143 w144 hr145) (vx_cwSW 1 hts (wsw_s q885 q886 q17 q887) rfl rfl rfl hdS_L_undo (by rw [hR]; first | exact ⟨Nat.le_of_ble_eq_true rfl, Nat.le_of_ble_eq_true rfl⟩ | exact ⟨by show _ ≤ (977054 : Nat); omega, by show _ ≤ (6170461 : Nat); omega⟩)) hK hN hX hL hP hD hS hA [] [0] [0] rfl rfl (by decide) (by decide) rfl (by decide) rfl hl.1 rfl (Nat.le_of_ble_eq_true rfl) dL_law_458 (by rw [hR]; first | exact ⟨Nat.le_of_ble_eq_true rfl, Nat.le_of_ble_eq_true rfl⟩ | exact ⟨by show _ ≤ (977054 : Nat); omega, by show _ ≤ (6170461 : Nat); omega⟩) (fun H locs hP hD hS => ?_)
                                                        refine W.eq (g2 := F0 m 461 ls [.int r143]) rfl ?_
                                                        refine lv_bipush (v := (nI 6)) hx hb dL_law_461 (by decide) ?_
                                                        refine lv_icmp_ne (tgt := 581) hx hb dL_law_463 (by decide) (fun c146 => ?_) (fun c146 => ?_)
                                                        · rw [if_neg c146] at h
                                                          refine lv_iconst (v := (nI 0)) hx hb dL_law_581 (by decide) ?_
                                                          cases h
                                                        · rw [if_pos c146] at h
                                                          refine lv_aload_n hx hb dL_law_466 rfl (lv_at hl 1 rfl) ?_
                                                          refine lv_iconst (v := (nI 1)) hx hb dL_law_467 (by decide) ?_
                                                          obtain ⟨⟨r147, w148⟩, hr149, h⟩ := ob h
                                                          dsimp only at h
                                                          refine px_SL (As := [.ref (b_e 0 0), .int (nI 1)]) (rest := []) (gs := ([gO E b_e w144] : List va_W)) (gr := ([] : List va_W)) (gc := ([gO E b_e w144] : List va_W)) (g1 := ([gO E b_e w148] : List va_W)) (g2 := ([gO E b_e w148] : List va_W)) ⟨hx, hb, hml, hown, hts⟩ (mT_tip l hlt E X L b_e ((nI 1))  (w144) r147 w148 hr149) (vx_cwSW 2 hts (wsw_s q494 q495 q17 q496) rfl rfl rfl hdS_L_tip (by rw [hR]; first | exact ⟨Nat.le_of_ble_eq_true rfl, Nat.le_of_ble_eq_true rfl⟩ | exact ⟨by show _ ≤ (977054 : Nat); omega, by show _ ≤ (6170461 : Nat); omega⟩)) hK hN hX hL hP hD hS hA [] [0] [0] rfl rfl (by decide) (by decide) rfl (by decide) rfl hl.1 rfl (Nat.le_of_ble_eq_true rfl) dL_law_468 (by rw [hR]; first | exact ⟨Nat.le_of_ble_eq_true rfl, Nat.le_of_ble_eq_true rfl⟩ | exact ⟨by show _ ≤ (977054 : Nat); omega, by show _ ≤ (6170461 : Nat); omega⟩) (fun H locs hP hD hS => ?_)
                                                          refine W.eq (g2 := F0 m 471 ls [.int r147]) rfl ?_
                                                          refine lv_bipush (v := (nI 23)) hx hb dL_law_471 (by decide) ?_
                                                          refine lv_icmp_ne (tgt := 581) hx hb dL_law_473 (by decide) (fun c150 => ?_) (fun c150 => ?_)
                                                          · rw [if_neg c150] at h
                                                            refine lv_iconst (v := (nI 0)) hx hb dL_law_581 (by decide) ?_
                                                            cases h
                                                          · rw [if_pos c150] at h
                                                            refine lv_aload_n hx hb dL_law_476 rfl (lv_at hl 1 rfl) ?_
                                                            obtain ⟨⟨r151, w152⟩, hr153, h⟩ := ob h
                                                            dsimp only at h
                                                            refine px_SL (As := [.ref (b_e 0 0)]) (rest := []) (gs := ([gO E b_e w148] : List va_W)) (gr := ([] : List va_W)) (gc := ([gO E b_e w148] : List va_W)) (g1 := ([gO E b_e w152] : List va_W)) (g2 := ([gO E b_e w152] : List va_W)) ⟨hx, hb, hml, hown, hts⟩ (mT_undo l hlt E X L b_e   (w148) r151 w152 hr153) (vx_cwSW 1 hts (wsw_s q885 q886 q17 q887) rfl rfl rfl hdS_L_undo (by rw [hR]; first | exact ⟨Nat.le_of_ble_eq_true rfl, Nat.le_of_ble_eq_true rfl⟩ | exact ⟨by show _ ≤ (977054 : Nat); omega, by show _ ≤ (6170461 : Nat); omega⟩)) hK hN hX hL hP hD hS hA [] [0] [0] rfl rfl (by decide) (by decide) rfl (by decide) rfl hl.1 rfl (Nat.le_of_ble_eq_true rfl) dL_law_477 (by rw [hR]; first | exact ⟨Nat.le_of_ble_eq_true rfl, Nat.le_of_ble_eq_true rfl⟩ | exact ⟨by show _ ≤ (977054 : Nat); omega, by show _ ≤ (6170461 : Nat); omega⟩) (fun H locs hP hD hS => ?_)
                                                            refine W.eq (g2 := F0 m 480 ls [.int r151]) rfl ?_
                                                            refine lv_iconst (v := (nI 5)) hx hb dL_law_480 (by decide) ?_
                                                            refine lv_icmp_ne (tgt := 581) hx hb dL_law_481 (by decide) (fun c154 => ?_) (fun c154 => ?_)
                                                            · rw [if_neg c154] at h
                                                              refine lv_iconst (v := (nI 0)) hx hb dL_law_581 (by decide) ?_
                                                              cases h
                                                            · rw [if_pos c154] at h
                                                              refine lv_aload_n hx hb dL_law_484 rfl (lv_at hl 1 rfl) ?_
                                                              refine lv_iconst (v := (nI 1)) hx hb dL_law_485 (by decide) ?_
                                                              obtain ⟨⟨r155, w156⟩, hr157, h⟩ := ob h
                                                              dsimp only at h
                                                              refine px_SL (As := [.ref (b_e 0 0), .int (nI 1)]) (rest := []) (gs := ([gO E b_e w152] : List va_W)) (gr := ([] : List va_W)) (gc := ([gO E b_e w152] : List va_W)) (g1 := ([gO E b_e w156] : List va_W)) (g2 := ([gO E b_e w156] : List va_W)) ⟨hx, hb, hml, hown, hts⟩ (mT_account l hlt E X L b_e ((nI 1))  (w152) r155 w156 hr157) (vx_cwSW 2 hts (wsw_s q848 q849 q17 q850) rfl rfl rfl hdS_L_account (by rw [hR]; first | exact ⟨Nat.le_of_ble_eq_true rfl, Nat.le_of_ble_eq_true rfl⟩ | exact ⟨by show _ ≤ (977054 : Nat); omega, by show _ ≤ (6170461 : Nat); omega⟩)) hK hN hX hL hP hD hS hA [] [0] [0] rfl rfl (by decide) (by decide) rfl (by decide) rfl hl.1 rfl (Nat.le_of_ble_eq_true rfl) dL_law_486 (by rw [hR]; first | exact ⟨Nat.le_of_ble_eq_true rfl, Nat.le_of_ble_eq_true rfl⟩ | exact ⟨by show _ ≤ (977054 : Nat); omega, by show _ ≤ (6170461 : Nat); omega⟩) (fun H locs hP hD hS => ?_)
                                                              refine W.eq (g2 := F0 m 489 ls [.int r155]) rfl ?_
                                                              refine lv_iconst (v := (nI 4)) hx hb dL_law_489 (by decide) ?_
                                                              refine lv_icmp_ne (tgt := 581) hx hb dL_law_490 (by decide) (fun c158 => ?_) (fun c158 => ?_)
                                                              · rw [if_neg c158] at h
                                                                refine lv_iconst (v := (nI 0)) hx hb dL_law_581 (by decide) ?_
                                                                cases h
                                                              · rw [if_pos c158] at h
                                                                refine lv_aload_n hx hb dL_law_493 rfl (lv_at hl 1 rfl) ?_
                                                                obtain ⟨⟨r159, w160⟩, hr161, h⟩ := ob h
                                                                dsimp only at h
                                                                refine px_SL (As := [.ref (b_e 0 0)]) (rest := []) (gs := ([gO E b_e w156] : List va_W)) (gr := ([] : List va_W)) (gc := ([gO E b_e w156] : List va_W)) (g1 := ([gO E b_e w160] : List va_W)) (g2 := ([gO E b_e w160] : List va_W)) ⟨hx, hb, hml, hown, hts⟩ (mT_undo l hlt E X L b_e   (w156) r159 w160 hr161) (vx_cwSW 1 hts (wsw_s q885 q886 q17 q887) rfl rfl rfl hdS_L_undo (by rw [hR]; first | exact ⟨Nat.le_of_ble_eq_true rfl, Nat.le_of_ble_eq_true rfl⟩ | exact ⟨by show _ ≤ (977054 : Nat); omega, by show _ ≤ (6170461 : Nat); omega⟩)) hK hN hX hL hP hD hS hA [] [0] [0] rfl rfl (by decide) (by decide) rfl (by decide) rfl hl.1 rfl (Nat.le_of_ble_eq_true rfl) dL_law_494 (by rw [hR]; first | exact ⟨Nat.le_of_ble_eq_true rfl, Nat.le_of_ble_eq_true rfl⟩ | exact ⟨by show _ ≤ (977054 : Nat); omega, by show _ ≤ (6170461 : Nat); omega⟩) (fun H locs hP hD hS => ?_)
                                                                refine W.eq (g2 := F0 m 497 ls [.int r159]) rfl ?_
                                                                refine lv_iconst (v := (nI 4)) hx hb dL_law_497 (by decide) ?_
                                                                refine lv_icmp_ne (tgt := 581) hx hb dL_law_498 (by decide) (fun c162 => ?_) (fun c162 => ?_)
                                                                · rw [if_neg c162] at h
                                                                  refine lv_iconst (v := (nI 0)) hx hb dL_law_581 (by decide) ?_
                                                                  cases h
                                                                · rw [if_pos c162] at h
                                                                  refine lv_aload_n hx hb dL_law_501 rfl (lv_at hl 1 rfl) ?_
                                                                  obtain ⟨⟨r163, w164⟩, hr165, h⟩ := ob h
                                                                  dsimp only at h
                                                                  refine px_SL (As := [.ref (b_e 0 0)]) (rest := []) (gs := ([gO E b_e w160] : List va_W)) (gr := ([] : List va_W)) (gc := ([gO E b_e w160] : List va_W)) (g1 := ([gO E b_e w164] : List va_W)) (g2 := ([gO E b_e w164] : List va_W)) ⟨hx, hb, hml, hown, hts⟩ (mT_undo l hlt E X L b_e   (w160) r163 w164 hr165) (vx_cwSW 1 hts (wsw_s q885 q886 q17 q887) rfl rfl rfl hdS_L_undo (by rw [hR]; first | exact ⟨Nat.le_of_ble_eq_true rfl, Nat.le_of_ble_eq_true rfl⟩ | exact ⟨by show _ ≤ (977054 : Nat); omega, by show _ ≤ (6170461 : Nat); omega⟩)) hK hN hX hL hP hD hS hA [] [0] [0] rfl rfl (by decide) (by decide) rfl (by decide) rfl hl.1 rfl (Nat.le_of_ble_eq_true rfl) dL_law_502 (by rw [hR]; first | exact ⟨Nat.le_of_ble_eq_true rfl, Nat.le_of_ble_eq_true rfl⟩ | exact ⟨by show _ ≤ (977054 : Nat); omega, by show _ ≤ (6170461 : Nat); omega⟩) (fun H locs hP hD hS => ?_)
                                                                  refine W.eq (g2 := F0 m 505 ls [.int r163]) rfl ?_
                                                                  refine lv_iconst (v := (nI 3)) hx hb dL_law_505 (by decide) ?_
                                                                  refine lv_icmp_ne (tgt := 581) hx hb dL_law_506 (by decide) (fun c166 => ?_) (fun c166 => ?_)
                                                                  · rw [if_neg c166] at h
                                                                    refine lv_iconst (v := (nI 0)) hx hb dL_law_581 (by decide) ?_
                                                                    cases h
                                                                  · rw [if_pos c166] at h
                                                                    refine lv_aload_n hx hb dL_law_509 rfl (lv_at hl 1 rfl) ?_
                                                                    obtain ⟨⟨r167, w168⟩, hr169, h⟩ := ob h
                                                                    dsimp only at h
                                                                    refine px_SL (As := [.ref (b_e 0 0)]) (rest := []) (gs := ([gO E b_e w164] : List va_W)) (gr := ([] : List va_W)) (gc := ([gO E b_e w164] : List va_W)) (g1 := ([gO E b_e w168] : List va_W)) (g2 := ([gO E b_e w168] : List va_W)) ⟨hx, hb, hml, hown, hts⟩ (mT_undo l hlt E X L b_e   (w164) r167 w168 hr169) (vx_cwSW 1 hts (wsw_s q885 q886 q17 q887) rfl rfl rfl hdS_L_undo (by rw [hR]; first | exact ⟨Nat.le_of_ble_eq_true rfl, Nat.le_of_ble_eq_true rfl⟩ | exact ⟨by show _ ≤ (977054 : Nat); omega, by show _ ≤ (6170461 : Nat); omega⟩)) hK hN hX hL hP hD hS hA [] [0] [0] rfl rfl (by decide) (by decide) rfl (by decide) rfl hl.1 rfl (Nat.le_of_ble_eq_true rfl) dL_law_510 (by rw [hR]; first | exact ⟨Nat.le_of_ble_eq_true rfl, Nat.le_of_ble_eq_true rfl⟩ | exact ⟨by show _ ≤ (977054 : Nat); omega, by show _ ≤ (6170461 : Nat); omega⟩) (fun H locs hP hD hS => ?_)
                                                                    refine W.eq (g2 := F0 m 513 ls [.int r167]) rfl ?_
                                                                    refine lv_iconst (v := (nI 2)) hx hb dL_law_513 (by decide) ?_
                                                                    refine lv_icmp_ne (tgt := 581) hx hb dL_law_514 (by decide) (fun c170 => ?_) (fun c170 => ?_)
                                                                    · rw [if_neg c170] at h
                                                                      refine lv_iconst (v := (nI 0)) hx hb dL_law_581 (by decide) ?_
                                                                      cases h
                                                                    · rw [if_pos c170] at h
                                                                      refine lv_aload_n hx hb dL_law_517 rfl (lv_at hl 1 rfl) ?_
                                                                      refine lv_iconst (v := (nI 1)) hx hb dL_law_518 (by decide) ?_
                                                                      obtain ⟨⟨r171, w172⟩, hr173, h⟩ := ob h
                                                                      dsimp only at h
                                                                      refine px_SL (As := [.ref (b_e 0 0), .int (nI 1)]) (rest := []) (gs := ([gO E b_e w168] : List va_W)) (gr := ([] : List va_W)) (gc := ([gO E b_e w168] : List va_W)) (g1 := ([gO E b_e w172] : List va_W)) (g2 := ([gO E b_e w172] : List va_W)) ⟨hx, hb, hml, hown, hts⟩ (mT_account l hlt E X L b_e ((nI 1))  (w168) r171 w172 hr173) (vx_cwSW 2 hts (wsw_s q848 q849 q17 q850) rfl rfl rfl hdS_L_account (by rw [hR]; first | exact ⟨Nat.le_of_ble_eq_true rfl, Nat.le_of_ble_eq_true rfl⟩ | exact ⟨by show _ ≤ (977054 : Nat); omega, by show _ ≤ (6170461 : Nat); omega⟩)) hK hN hX hL hP hD hS hA [] [0] [0] rfl rfl (by decide) (by decide) rfl (by decide) rfl hl.1 rfl (Nat.le_of_ble_eq_true rfl) dL_law_519 (by rw [hR]; first | exact ⟨Nat.le_of_ble_eq_true rfl, Nat.le_of_ble_eq_true rfl⟩ | exact ⟨by show _ ≤ (977054 : Nat); omega, by show _ ≤ (6170461 : Nat); omega⟩) (fun H locs hP hD hS => ?_)
                                                                      refine W.eq (g2 := F0 m 522 ls [.int r171]) rfl ?_
                                                                      refine lv_iconst (v := (nI 1)) hx hb dL_law_522 (by decide) ?_
                                                                      refine lv_icmp_ne (tgt := 581) hx hb dL_law_523 (by decide) (fun c174 => ?_) (fun c174 => ?_)
                                                                      · rw [if_neg c174] at h
                                                                        refine lv_iconst (v := (nI 0)) hx hb dL_law_581 (by decide) ?_
                                                                        cases h
                                                                      · rw [if_pos c174] at h
                                                                        refine lv_aload_n hx hb dL_law_526 rfl (lv_at hl 1 rfl) ?_
                                                                        obtain ⟨⟨r175, w176⟩, hr177, h⟩ := ob h
                                                                        dsimp only at h
                                                                        refine px_SL (As := [.ref (b_e 0 0)]) (rest := []) (gs := ([gO E b_e w172] : List va_W)) (gr := ([] : List va_W)) (gc := ([gO E b_e w172] : List va_W)) (g1 := ([gO E b_e w176] : List va_W)) (g2 := ([gO E b_e w176] : List va_W)) ⟨hx, hb, hml, hown, hts⟩ (mT_undo l hlt E X L b_e   (w172) r175 w176 hr177) (vx_cwSW 1 hts (wsw_s q885 q886 q17 q887) rfl rfl rfl hdS_L_undo (by rw [hR]; first | exact ⟨Nat.le_of_ble_eq_true rfl, Nat.le_of_ble_eq_true rfl⟩ | exact ⟨by show _ ≤ (977054 : Nat); omega, by show _ ≤ (6170461 : Nat); omega⟩)) hK hN hX hL hP hD hS hA [] [0] [0] rfl rfl (by decide) (by decide) rfl (by decide) rfl hl.1 rfl (Nat.le_of_ble_eq_true rfl) dL_law_527 (by rw [hR]; first | exact ⟨Nat.le_of_ble_eq_true rfl, Nat.le_of_ble_eq_true rfl⟩ | exact ⟨by show _ ≤ (977054 : Nat); omega, by show _ ≤ (6170461 : Nat); omega⟩) (fun H locs hP hD hS => ?_)
                                                                        refine W.eq (g2 := F0 m 530 ls [.int r175]) rfl ?_
                                                                        refine lv_iconst (v := (nI 1)) hx hb dL_law_530 (by decide) ?_
                                                                        refine lv_icmp_ne (tgt := 581) hx hb dL_law_531 (by decide) (fun c178 => ?_) (fun c178 => ?_)
                                                                        · rw [if_neg c178] at h
                                                                          refine lv_iconst (v := (nI 0)) hx hb dL_law_581 (by decide) ?_
                                                                          cases h
                                                                        · rw [if_pos c178] at h
                                                                          refine lv_aload_n hx hb dL_law_534 rfl (lv_at hl 1 rfl) ?_
                                                                          refine lv_iconst (v := (nI 0)) hx hb dL_law_535 (by decide) ?_
                                                                          obtain ⟨⟨r179, w180⟩, hr181, h⟩ := ob h
                                                                          dsimp only at h
                                                                          refine px_SL (As := [.ref (b_e 0 0), .int (nI 0)]) (rest := []) (gs := ([gO E b_e w176] : List va_W)) (gr := ([] : List va_W)) (gc := ([gO E b_e w176] : List va_W)) (g1 := ([gO E b_e w180] : List va_W)) (g2 := ([gO E b_e w180] : List va_W)) ⟨hx, hb, hml, hown, hts⟩ (mT_tip l hlt E X L b_e ((nI 0))  (w176) r179 w180 hr181) (vx_cwSW 2 hts (wsw_s q494 q495 q17 q496) rfl rfl rfl hdS_L_tip (by rw [hR]; first | exact ⟨Nat.le_of_ble_eq_true rfl, Nat.le_of_ble_eq_true rfl⟩ | exact ⟨by show _ ≤ (977054 : Nat); omega, by show _ ≤ (6170461 : Nat); omega⟩)) hK hN hX hL hP hD hS hA [] [0] [0] rfl rfl (by decide) (by decide) rfl (by decide) rfl hl.1 rfl (Nat.le_of_ble_eq_true rfl) dL_law_536 (by rw [hR]; first | exact ⟨Nat.le_of_ble_eq_true rfl, Nat.le_of_ble_eq_true rfl⟩ | exact ⟨by show _ ≤ (977054 : Nat); omega, by show _ ≤ (6170461 : Nat); omega⟩) (fun H locs hP hD hS => ?_)
                                                                          refine W.eq (g2 := F0 m 539 ls [.int r179]) rfl ?_
                                                                          refine lv_bipush (v := (nI 22)) hx hb dL_law_539 (by decide) ?_
                                                                          refine lv_icmp_ne (tgt := 581) hx hb dL_law_541 (by decide) (fun c182 => ?_) (fun c182 => ?_)
                                                                          · rw [if_neg c182] at h
                                                                            refine lv_iconst (v := (nI 0)) hx hb dL_law_581 (by decide) ?_
                                                                            cases h
                                                                          · rw [if_pos c182] at h
                                                                            refine lv_aload_n hx hb dL_law_544 rfl (lv_at hl 1 rfl) ?_
                                                                            refine lv_iconst (v := (nI 0)) hx hb dL_law_545 (by decide) ?_
                                                                            obtain ⟨⟨r183, w184⟩, hr185, h⟩ := ob h
                                                                            dsimp only at h
                                                                            refine px_SL (As := [.ref (b_e 0 0), .int (nI 0)]) (rest := []) (gs := ([gO E b_e w180] : List va_W)) (gr := ([] : List va_W)) (gc := ([gO E b_e w180] : List va_W)) (g1 := ([gO E b_e w184] : List va_W)) (g2 := ([gO E b_e w184] : List va_W)) ⟨hx, hb, hml, hown, hts⟩ (mT_account l hlt E X L b_e ((nI 0))  (w180) r183 w184 hr185) (vx_cwSW 2 hts (wsw_s q848 q849 q17 q850) rfl rfl rfl hdS_L_account (by rw [hR]; first | exact ⟨Nat.le_of_ble_eq_true rfl, Nat.le_of_ble_eq_true rfl⟩ | exact ⟨by show _ ≤ (977054 : Nat); omega, by show _ ≤ (6170461 : Nat); omega⟩)) hK hN hX hL hP hD hS hA [] [0] [0] rfl rfl (by decide) (by decide) rfl (by decide) rfl hl.1 rfl (Nat.le_of_ble_eq_true rfl) dL_law_546 (by rw [hR]; first | exact ⟨Nat.le_of_ble_eq_true rfl, Nat.le_of_ble_eq_true rfl⟩ | exact ⟨by show _ ≤ (977054 : Nat); omega, by show _ ≤ (6170461 : Nat); omega⟩) (fun H locs hP hD hS => ?_)
                                                                            refine W.eq (g2 := F0 m 549 ls [.int r183]) rfl ?_
                                                                            refine lv_bipush (v := (nI 23)) hx hb dL_law_549 (by decide) ?_
                                                                            refine lv_icmp_ne (tgt := 581) hx hb dL_law_551 (by decide) (fun c186 => ?_) (fun c186 => ?_)
                                                                            · rw [if_neg c186] at h
                                                                              refine lv_iconst (v := (nI 0)) hx hb dL_law_581 (by decide) ?_
                                                                              cases h
                                                                            · rw [if_pos c186] at h
                                                                              refine lv_aload_n hx hb dL_law_554 rfl (lv_at hl 1 rfl) ?_
                                                                              obtain ⟨⟨r187, w188⟩, hr189, h⟩ := ob h
                                                                              dsimp only at h
                                                                              refine px_SL (As := [.ref (b_e 0 0)]) (rest := []) (gs := ([gO E b_e w184] : List va_W)) (gr := ([] : List va_W)) (gc := ([gO E b_e w184] : List va_W)) (g1 := ([gO E b_e w188] : List va_W)) (g2 := ([gO E b_e w188] : List va_W)) ⟨hx, hb, hml, hown, hts⟩ (mT_undo l hlt E X L b_e   (w184) r187 w188 hr189) (vx_cwSW 1 hts (wsw_s q885 q886 q17 q887) rfl rfl rfl hdS_L_undo (by rw [hR]; first | exact ⟨Nat.le_of_ble_eq_true rfl, Nat.le_of_ble_eq_true rfl⟩ | exact ⟨by show _ ≤ (977054 : Nat); omega, by show _ ≤ (6170461 : Nat); omega⟩)) hK hN hX hL hP hD hS hA [] [0] [0] rfl rfl (by decide) (by decide) rfl (by decide) rfl hl.1 rfl (Nat.le_of_ble_eq_true rfl) dL_law_555 (by rw [hR]; first | exact ⟨Nat.le_of_ble_eq_true rfl, Nat.le_of_ble_eq_true rfl⟩ | exact ⟨by show _ ≤ (977054 : Nat); omega, by show _ ≤ (6170461 : Nat); omega⟩) (fun H locs hP hD hS => ?_)
                                                                              refine W.eq (g2 := F0 m 558 ls [.int r187]) rfl ?_
                                                                              refine lv_if_ne (tgt := 581) hx hb dL_law_558 (by decide) (fun c190 => ?_) (fun c190 => ?_)
                                                                              · rw [if_neg c190] at h
                                                                                refine lv_iconst (v := (nI 0)) hx hb dL_law_581 (by decide) ?_
                                                                                cases h
                                                                              · rw [if_pos c190] at h
                                                                                refine lv_aload_n hx hb dL_law_561 rfl (lv_at hl 1 rfl) ?_
                                                                                obtain ⟨⟨r191, w192⟩, hr193, h⟩ := ob h
                                                                                dsimp only at h
                                                                                refine px_SL (As := [.ref (b_e 0 0)]) (rest := []) (gs := ([gO E b_e w188] : List va_W)) (gr := ([] : List va_W)) (gc := ([gO E b_e w188] : List va_W)) (g1 := ([gO E b_e w192] : List va_W)) (g2 := ([gO E b_e w192] : List va_W)) ⟨hx, hb, hml, hown, hts⟩ (mT_undo l hlt E X L b_e   (w188) r191 w192 hr193) (vx_cwSW 1 hts (wsw_s q885 q886 q17 q887) rfl rfl rfl hdS_L_undo (by rw [hR]; first | exact ⟨Nat.le_of_ble_eq_true rfl, Nat.le_of_ble_eq_true rfl⟩ | exact ⟨by show _ ≤ (977054 : Nat); omega, by show _ ≤ (6170461 : Nat); omega⟩)) hK hN hX hL hP hD hS hA [] [0] [0] rfl rfl (by decide) (by decide) rfl (by decide) rfl hl.1 rfl (Nat.le_of_ble_eq_true rfl) dL_law_562 (by rw [hR]; first | exact ⟨Nat.le_of_ble_eq_true rfl, Nat.le_of_ble_eq_true rfl⟩ | exact ⟨by show _ ≤ (977054 : Nat); omega, by show _ ≤ (6170461 : Nat); omega⟩) (fun H locs hP hD hS => ?_)
                                                                                refine W.eq (g2 := F0 m 565 ls [.int r191]) rfl ?_
                                                                                refine lv_sipush (v := (-1001 : Int32)) hx hb dL_law_565 (by decide) ?_
                                                                                refine lv_icmp_ne (tgt := 581) hx hb dL_law_568 (by decide) (fun c194 => ?_) (fun c194 => ?_)
                                                                                · rw [if_neg c194] at h
                                                                                  refine lv_iconst (v := (nI 0)) hx hb dL_law_581 (by decide) ?_
                                                                                  cases h
                                                                                · rw [if_pos c194] at h
                                                                                  refine lv_aload_n hx hb dL_law_571 rfl (lv_at hl 1 rfl) ?_
                                                                                  refine lv_iconst (v := (nI 0)) hx hb dL_law_572 (by decide) ?_
                                                                                  obtain ⟨⟨r195, w196⟩, hr197, h⟩ := ob h
                                                                                  dsimp only at h
                                                                                  refine px_SL (As := [.ref (b_e 0 0), .int (nI 0)]) (rest := []) (gs := ([gO E b_e w192] : List va_W)) (gr := ([] : List va_W)) (gc := ([gO E b_e w192] : List va_W)) (g1 := ([gO E b_e w196] : List va_W)) (g2 := ([gO E b_e w196] : List va_W)) ⟨hx, hb, hml, hown, hts⟩ (mT_account l hlt E X L b_e ((nI 0))  (w192) r195 w196 hr197) (vx_cwSW 2 hts (wsw_s q848 q849 q17 q850) rfl rfl rfl hdS_L_account (by rw [hR]; first | exact ⟨Nat.le_of_ble_eq_true rfl, Nat.le_of_ble_eq_true rfl⟩ | exact ⟨by show _ ≤ (977054 : Nat); omega, by show _ ≤ (6170461 : Nat); omega⟩)) hK hN hX hL hP hD hS hA [] [0] [0] rfl rfl (by decide) (by decide) rfl (by decide) rfl hl.1 rfl (Nat.le_of_ble_eq_true rfl) dL_law_573 (by rw [hR]; first | exact ⟨Nat.le_of_ble_eq_true rfl, Nat.le_of_ble_eq_true rfl⟩ | exact ⟨by show _ ≤ (977054 : Nat); omega, by show _ ≤ (6170461 : Nat); omega⟩) (fun H locs hP hD hS => ?_)
                                                                                  refine W.eq (g2 := F0 m 576 ls [.int r195]) rfl ?_
                                                                                  refine lv_bipush (v := (nI 22)) hx hb dL_law_576 (by decide) ?_
                                                                                  refine lv_icmp_eq (tgt := 583) hx hb dL_law_578 (by decide) (fun c198 => ?_) (fun c198 => ?_)
                                                                                  · rw [if_pos c198] at h
                                                                                    refine lv_aload_n hx hb dL_law_583 rfl (lv_at hl 1 rfl) ?_
                                                                                    obtain ⟨⟨r199, w200⟩, hr201, h⟩ := ob h
                                                                                    dsimp only at h
                                                                                    refine px_SL (As := [.ref (b_e 0 0)]) (rest := []) (gs := ([gO E b_e w196] : List va_W)) (gr := ([] : List va_W)) (gc := ([gO E b_e w196] : List va_W)) (g1 := ([gO E b_e w200] : List va_W)) (g2 := ([gO E b_e w200] : List va_W)) ⟨hx, hb, hml, hown, hts⟩ (mT_restore l hlt E X L b_e   (w196) r199 w200 hr201) (vx_cwSW 1 hts (wsw_s q897 q898 q17 q899) rfl rfl rfl hdS_L_restore (by rw [hR]; first | exact ⟨Nat.le_of_ble_eq_true rfl, Nat.le_of_ble_eq_true rfl⟩ | exact ⟨by show _ ≤ (977054 : Nat); omega, by show _ ≤ (6170461 : Nat); omega⟩)) hK hN hX hL hP hD hS hA [] [0] [0] rfl rfl (by decide) (by decide) rfl (by decide) rfl hl.1 rfl (Nat.le_of_ble_eq_true rfl) dL_law_584 (by rw [hR]; first | exact ⟨Nat.le_of_ble_eq_true rfl, Nat.le_of_ble_eq_true rfl⟩ | exact ⟨by show _ ≤ (977054 : Nat); omega, by show _ ≤ (6170461 : Nat); omega⟩) (fun H locs hP hD hS => ?_)
                                                                                    refine W.eq (g2 := F0 m 587 ls [.int r199]) rfl ?_
                                                                                    refine lv_iconst (v := (nI 1)) hx hb dL_law_587 (by decide) ?_
                                                                                    refine lv_icmp_ne (tgt := 620) hx hb dL_law_588 (by decide) (fun c202 => ?_) (fun c202 => ?_)
                                                                                    · rw [if_neg c202] at h
                                                                                      refine lv_iconst (v := (nI 0)) hx hb dL_law_620 (by decide) ?_
                                                                                      cases h
                                                                                    · rw [if_pos c202] at h
                                                                                      refine lv_aload_n hx hb dL_law_591 rfl (lv_at hl 1 rfl) ?_
                                                                                      refine lv_iconst (v := (nI 0)) hx hb dL_law_592 (by decide) ?_
                                                                                      obtain ⟨⟨r203, w204⟩, hr205, h⟩ := ob h
                                                                                      dsimp only at h
                                                                                      refine px_SL (As := [.ref (b_e 0 0), .int (nI 0)]) (rest := []) (gs := ([gO E b_e w200] : List va_W)) (gr := ([] : List va_W)) (gc := ([gO E b_e w200] : List va_W)) (g1 := ([gO E b_e w204] : List va_W)) (g2 := ([gO E b_e w204] : List va_W)) ⟨hx, hb, hml, hown, hts⟩ (mT_account l hlt E X L b_e ((nI 0))  (w200) r203 w204 hr205) (vx_cwSW 2 hts (wsw_s q848 q849 q17 q850) rfl rfl rfl hdS_L_account (by rw [hR]; first | exact ⟨Nat.le_of_ble_eq_true rfl, Nat.le_of_ble_eq_true rfl⟩ | exact ⟨by show _ ≤ (977054 : Nat); omega, by show _ ≤ (6170461 : Nat); omega⟩)) hK hN hX hL hP hD hS hA [] [0] [0] rfl rfl (by decide) (by decide) rfl (by decide) rfl hl.1 rfl (Nat.le_of_ble_eq_true rfl) dL_law_593 (by rw [hR]; first | exact ⟨Nat.le_of_ble_eq_true rfl, Nat.le_of_ble_eq_true rfl⟩ | exact ⟨by show _ ≤ (977054 : Nat); omega, by show _ ≤ (6170461 : Nat); omega⟩) (fun H locs hP hD hS => ?_)
                                                                                      refine W.eq (g2 := F0 m 596 ls [.int r203]) rfl ?_
                                                                                      refine lv_iconst (v := (nI 1)) hx hb dL_law_596 (by decide) ?_
                                                                                      refine lv_icmp_ne (tgt := 620) hx hb dL_law_597 (by decide) (fun c206 => ?_) (fun c206 => ?_)
                                                                                      · rw [if_neg c206] at h
                                                                                        refine lv_iconst (v := (nI 0)) hx hb dL_law_620 (by decide) ?_
                                                                                        cases h
                                                                                      · rw [if_pos c206] at h
                                                                                        refine lv_aload_n hx hb dL_law_600 rfl (lv_at hl 1 rfl) ?_
                                                                                        refine lv_bipush (v := (nI 6)) hx hb dL_law_601 (by decide) ?_
                                                                                        obtain ⟨⟨r207, w208⟩, hr209, h⟩ := ob h
                                                                                        dsimp only at h
                                                                                        refine px_SL (As := [.ref (b_e 0 0), .int (nI 6)]) (rest := []) (gs := ([gO E b_e w204] : List va_W)) (gr := ([] : List va_W)) (gc := ([gO E b_e w204] : List va_W)) (g1 := ([gO E b_e w208] : List va_W)) (g2 := ([gO E b_e w208] : List va_W)) ⟨hx, hb, hml, hown, hts⟩ (mT_account l hlt E X L b_e ((nI 6))  (w204) r207 w208 hr209) (vx_cwSW 2 hts (wsw_s q848 q849 q17 q850) rfl rfl rfl hdS_L_account (by rw [hR]; first | exact ⟨Nat.le_of_ble_eq_true rfl, Nat.le_of_ble_eq_true rfl⟩ | exact ⟨by show _ ≤ (977054 : Nat); omega, by show _ ≤ (6170461 : Nat); omega⟩)) hK hN hX hL hP hD hS hA [] [0] [0] rfl rfl (by decide) (by decide) rfl (by decide) rfl hl.1 rfl (Nat.le_of_ble_eq_true rfl) dL_law_603 (by rw [hR]; first | exact ⟨Nat.le_of_ble_eq_true rfl, Nat.le_of_ble_eq_true rfl⟩ | exact ⟨by show _ ≤ (977054 : Nat); omega, by show _ ≤ (6170461 : Nat); omega⟩) (fun H locs hP hD hS => ?_)
                                                                                        refine W.eq (g2 := F0 m 606 ls [.int r207]) rfl ?_
                                                                                        refine lv_iconst (v := (-1 : Int32)) hx hb dL_law_606 (by decide) ?_
                                                                                        refine lv_icmp_ne (tgt := 620) hx hb dL_law_607 (by decide) (fun c210 => ?_) (fun c210 => ?_)
                                                                                        · rw [if_neg c210] at h
                                                                                          refine lv_iconst (v := (nI 0)) hx hb dL_law_620 (by decide) ?_
                                                                                          cases h
                                                                                        · rw [if_pos c210] at h
                                                                                          refine lv_aload_n hx hb dL_law_610 rfl (lv_at hl 1 rfl) ?_
                                                                                          obtain ⟨⟨r211, w212⟩, hr213, h⟩ := ob h
                                                                                          dsimp only at h
                                                                                          refine px_SL (As := [.ref (b_e 0 0)]) (rest := []) (gs := ([gO E b_e w208] : List va_W)) (gr := ([] : List va_W)) (gc := ([gO E b_e w208] : List va_W)) (g1 := ([gO E b_e w212] : List va_W)) (g2 := ([gO E b_e w212] : List va_W)) ⟨hx, hb, hml, hown, hts⟩ (mT_undo l hlt E X L b_e   (w208) r211 w212 hr213) (vx_cwSW 1 hts (wsw_s q885 q886 q17 q887) rfl rfl rfl hdS_L_undo (by rw [hR]; first | exact ⟨Nat.le_of_ble_eq_true rfl, Nat.le_of_ble_eq_true rfl⟩ | exact ⟨by show _ ≤ (977054 : Nat); omega, by show _ ≤ (6170461 : Nat); omega⟩)) hK hN hX hL hP hD hS hA [] [0] [0] rfl rfl (by decide) (by decide) rfl (by decide) rfl hl.1 rfl (Nat.le_of_ble_eq_true rfl) dL_law_611 (by rw [hR]; first | exact ⟨Nat.le_of_ble_eq_true rfl, Nat.le_of_ble_eq_true rfl⟩ | exact ⟨by show _ ≤ (977054 : Nat); omega, by show _ ≤ (6170461 : Nat); omega⟩) (fun H locs hP hD hS => ?_)
                                                                                          refine W.eq (g2 := F0 m 614 ls [.int r211]) rfl ?_
                                                                                          refine lv_sipush (v := (-1001 : Int32)) hx hb dL_law_614 (by decide) ?_
                                                                                          refine lv_icmp_eq (tgt := 622) hx hb dL_law_617 (by decide) (fun c214 => ?_) (fun c214 => ?_)
                                                                                          · rw [if_pos c214] at h
                                                                                            cases h
                                                                                            refine W.widen (k := ce + 162) (n := sl + 972) (by omega) (by omega) ?_
                                                                                            exact kk H locs ls hP hD hS (lv_sub hl [0, 1] rfl)
                                                                                          · rw [if_neg c214] at h
                                                                                            refine lv_iconst (v := (nI 0)) hx hb dL_law_620 (by decide) ?_
                                                                                            cases h
                                                                                  · rw [if_neg c198] at h
                                                                                    refine lv_iconst (v := (nI 0)) hx hb dL_law_581 (by decide) ?_
                                                                                    cases h
                                            · rw [if_neg c122] at h
                                              refine lv_iconst (v := (nI 0)) hx hb dL_law_404 (by decide) ?_
                                              cases h
      · rw [if_neg c46] at h
        refine lv_aload_n hx hb dL_law_162 rfl (lv_at hl 1 rfl) ?_
        refine lv_iload_n hx hb dL_law_163 rfl (lv_at hl 2 rfl) ?_
        refine lv_iconst (v := (nI 1)) hx hb dL_law_164 (by decide) ?_
        refine lv_isub hx hb dL_law_165 ?_
        obtain ⟨⟨r215, w216⟩, hr217, h⟩ := ob h
        dsimp only at h
        refine px_SL (As := [.ref (b_e 0 0), .int (x2 - (nI 1))]) (rest := []) (gs := ([gO E b_e τ_e] : List va_W)) (gr := ([] : List va_W)) (gc := ([gO E b_e τ_e] : List va_W)) (g1 := ([gO E b_e w216] : List va_W)) (g2 := ([gO E b_e w216] : List va_W)) ⟨hx, hb, hml, hown, hts⟩ (mT_fork l hlt E X L b_e ((x2 - (nI 1)))  (τ_e) r215 w216 hr217) (vx_cwSW 2 hts (wsw_s q456 q457 q17 q458) rfl rfl rfl hdS_L_fork (by rw [hR]; first | exact ⟨Nat.le_of_ble_eq_true rfl, Nat.le_of_ble_eq_true rfl⟩ | exact ⟨by show _ ≤ (977054 : Nat); omega, by show _ ≤ (6170461 : Nat); omega⟩)) hK hN hX hL hP hD hS hA [] [0] [0] rfl rfl (by decide) (by decide) rfl (by decide) rfl hl.1 rfl (Nat.le_of_ble_eq_true rfl) dL_law_166 (by rw [hR]; first | exact ⟨Nat.le_of_ble_eq_true rfl, Nat.le_of_ble_eq_true rfl⟩ | exact ⟨by show _ ≤ (977054 : Nat); omega, by show _ ≤ (6170461 : Nat); omega⟩) (fun H locs hP hD hS => ?_)
        refine W.eq (g2 := F0 m 169 ls [.int r215]) rfl ?_
        refine lv_iload_n hx hb dL_law_169 rfl (lv_at hl 2 rfl) ?_
        refine lv_icmp_eq (tgt := 175) hx hb dL_law_170 (by decide) (fun c218 => ?_) (fun c218 => ?_)
        · rw [if_pos c218] at h
          refine lv_iinc (v := (x2 + nI 1)) (lv' := [(2, .int (x2 + nI 1)), (0, .ref L.1.1), (1, .ref (b_e 0 0))]) hx hb dL_law_175 hl (k := 2) rfl rfl (by decide) rfl (fun ls hl => ?_)
          refine lv_goto (tgt := 157) hx hb dL_law_178 (by decide) ?_
          exact ih ((x2 + nI 1)) (w216) _ _ (by omega) (by omega) H locs ls hP hD hS (lv_sub hl [1, 2, 0] rfl) h
        · rw [if_neg c218] at h
          refine lv_iconst (v := (nI 0)) hx hb dL_law_173 (by decide) ?_
          cases h
  have L130 : ∀ (n : Nat) (x2 : Int32) (τ_e : TO) (cc ss : Nat), cc + n * 1 + 68 ≤ ce + 162 → ss + n * 6 + 408 ≤ sl + 972 → ∀ (H : Heap) (locs : List Loc) (ls : Array Slot), va_P E.1 vwCl ([gO E b_e τ_e] : List va_W).flatten H → va_D A ([gO E b_e τ_e] : List va_W).flatten → va_S A s.heap H locs → lv_has ls 11 [(0, .ref L.1.1), (1, .ref (b_e 0 0)), (2, .int x2)] → fw_e_L130 n x2 τ_e = some z_e_τ → W p l e R s m args below meth c H locs cc ss Q (F0 m 130 ls []) := by
    intro n
    induction n with
    | zero =>
      intro x2 τ_e cc ss hcc hss H locs ls hP hD hS hl h
      unfold fw_e_L130 at h; cases h
    | succ n ih =>
      intro x2 τ_e cc ss hcc hss H locs ls hP hD hS hl h
      unfold fw_e_L130 at h
      refine lv_iload_n hx hb dL_law_130 rfl (lv_at hl 2 rfl) ?_
      refine lv_bipush (v := (nI 24)) hx hb dL_law_131 (by decide) ?_
      refine lv_icmp_ge (tgt := 155) hx hb dL_law_133 (by decide) (fun c41 => ?_) (fun c41 => ?_)
      · rw [if_pos c41] at h
        refine lv_iconst (v := (nI 1)) hx hb dL_law_155 (by decide) ?_
        refine lv_istore_n (lv' := [(2, .int (nI 1)), (0, .ref L.1.1), (1, .ref (b_e 0 0))]) hx hb dL_law_156 rfl hl (by decide) rfl (fun ls hl => ?_)
        exact L157 6 ((nI 1)) (τ_e) _ _ (by omega) (by omega) H locs ls hP hD hS (lv_sub hl [1, 2, 0] rfl) h
      · rw [if_neg c41] at h
        refine lv_aload_n hx hb dL_law_136 rfl (lv_at hl 1 rfl) ?_
        refine lv_iconst (v := (nI 0)) hx hb dL_law_137 (by decide) ?_
        refine lv_iconst (v := (nI 0)) hx hb dL_law_138 (by decide) ?_
        refine lv_iload_n hx hb dL_law_139 rfl (lv_at hl 2 rfl) ?_
        obtain ⟨⟨r42, w43⟩, hr44, h⟩ := ob h
        dsimp only at h
        refine px_SL (As := [.ref (b_e 0 0), .int (nI 0), .int (nI 0), .int x2]) (rest := []) (gs := ([gO E b_e τ_e] : List va_W)) (gr := ([] : List va_W)) (gc := ([gO E b_e τ_e] : List va_W)) (g1 := ([gO E b_e w43] : List va_W)) (g2 := ([gO E b_e w43] : List va_W)) ⟨hx, hb, hml, hown, hts⟩ (mT_edit l hlt E X L b_e ((nI 0)) ((nI 0)) (x2)  (τ_e) r42 w43 hr44) (vx_cwSW 4 hts (wsw_s q270 q271 q17 q272) rfl rfl rfl hdS_L_edit (by rw [hR]; first | exact ⟨Nat.le_of_ble_eq_true rfl, Nat.le_of_ble_eq_true rfl⟩ | exact ⟨by show _ ≤ (977054 : Nat); omega, by show _ ≤ (6170461 : Nat); omega⟩)) hK hN hX hL hP hD hS hA [] [0] [0] rfl rfl (by decide) (by decide) rfl (by decide) rfl hl.1 rfl (Nat.le_of_ble_eq_true rfl) dL_law_140 (by rw [hR]; first | exact ⟨Nat.le_of_ble_eq_true rfl, Nat.le_of_ble_eq_true rfl⟩ | exact ⟨by show _ ≤ (977054 : Nat); omega, by show _ ≤ (6170461 : Nat); omega⟩) (fun H locs hP hD hS => ?_)
        refine W.eq (g2 := F0 m 143 ls [.int r42]) rfl ?_
        refine lv_iload_n hx hb dL_law_143 rfl (lv_at hl 2 rfl) ?_
        refine lv_icmp_eq (tgt := 149) hx hb dL_law_144 (by decide) (fun c45 => ?_) (fun c45 => ?_)
        · rw [if_pos c45] at h
          refine lv_iinc (v := (x2 + nI 1)) (lv' := [(2, .int (x2 + nI 1)), (0, .ref L.1.1), (1, .ref (b_e 0 0))]) hx hb dL_law_149 hl (k := 2) rfl rfl (by decide) rfl (fun ls hl => ?_)
          refine lv_goto (tgt := 130) hx hb dL_law_152 (by decide) ?_
          exact ih ((x2 + nI 1)) (w43) _ _ (by omega) (by omega) H locs ls hP hD hS (lv_sub hl [1, 2, 0] rfl) h
        · rw [if_neg c45] at h
          refine lv_iconst (v := (nI 0)) hx hb dL_law_147 (by decide) ?_
          cases h
  have L48 : ∀ (n : Nat) (x2 : Int32) (τ_e : TO) (cc ss : Nat), cc + n * 1 + 97 ≤ ce + 162 → ss + n * 6 + 582 ≤ sl + 972 → ∀ (H : Heap) (locs : List Loc) (ls : Array Slot), va_P E.1 vwCl ([gO E b_e τ_e] : List va_W).flatten H → va_D A ([gO E b_e τ_e] : List va_W).flatten → va_S A s.heap H locs → lv_has ls 11 [(0, .ref L.1.1), (1, .ref (b_e 0 0)), (2, .int x2)] → fw_e_L48 n x2 τ_e = some z_e_τ → W p l e R s m args below meth c H locs cc ss Q (F0 m 48 ls []) := by
    intro n
    induction n with
    | zero =>
      intro x2 τ_e cc ss hcc hss H locs ls hP hD hS hl h
      unfold fw_e_L48 at h; cases h
    | succ n ih =>
      intro x2 τ_e cc ss hcc hss H locs ls hP hD hS hl h
      unfold fw_e_L48 at h
      refine lv_iload_n hx hb dL_law_48 rfl (lv_at hl 2 rfl) ?_
      refine lv_bipush (v := (nI 60)) hx hb dL_law_49 (by decide) ?_
      refine lv_icmp_ge (tgt := 77) hx hb dL_law_51 (by decide) (fun c17 => ?_) (fun c17 => ?_)
      · rw [if_pos c17] at h
        refine lv_aload_n hx hb dL_law_77 rfl (lv_at hl 1 rfl) ?_
        refine lv_bipush (v := (nI 102)) hx hb dL_law_78 (by decide) ?_
        obtain ⟨⟨r18, w19⟩, hr20, h⟩ := ob h
        dsimp only at h
        refine px_SL (As := [.ref (b_e 0 0), .int (ch (nI 102))]) (rest := []) (gs := ([gO E b_e τ_e] : List va_W)) (gr := ([] : List va_W)) (gc := ([gO E b_e τ_e] : List va_W)) (g1 := ([gO E b_e w19] : List va_W)) (g2 := ([gO E b_e w19] : List va_W)) ⟨hx, hb, hml, hown, hts⟩ (mT_append l hlt E X L b_e ((nI 102))  (τ_e) r18 w19 hr20) (vx_cwSW 2 hts (wsw_s q699 q700 q17 q701) rfl rfl rfl hdS_L_append (by rw [hR]; first | exact ⟨Nat.le_of_ble_eq_true rfl, Nat.le_of_ble_eq_true rfl⟩ | exact ⟨by show _ ≤ (977054 : Nat); omega, by show _ ≤ (6170461 : Nat); omega⟩)) hK hN hX hL hP hD hS hA [] [0] [0] rfl rfl (by decide) (by decide) rfl (by decide) rfl hl.1 rfl (Nat.le_of_ble_eq_true rfl) dL_law_80 (by rw [hR]; first | exact ⟨Nat.le_of_ble_eq_true rfl, Nat.le_of_ble_eq_true rfl⟩ | exact ⟨by show _ ≤ (977054 : Nat); omega, by show _ ≤ (6170461 : Nat); omega⟩) (fun H locs hP hD hS => ?_)
        refine W.eq (g2 := F0 m 83 ls [.int r18]) rfl ?_
        refine lv_sipush (v := (-1001 : Int32)) hx hb dL_law_83 (by decide) ?_
        refine lv_icmp_ne (tgt := 126) hx hb dL_law_86 (by decide) (fun c21 => ?_) (fun c21 => ?_)
        · rw [if_neg c21] at h
          refine lv_iconst (v := (nI 0)) hx hb dL_law_126 (by decide) ?_
          cases h
        · rw [if_pos c21] at h
          refine lv_aload_n hx hb dL_law_89 rfl (lv_at hl 1 rfl) ?_
          refine lv_bipush (v := (nI 9)) hx hb dL_law_90 (by decide) ?_
          obtain ⟨⟨r22, w23⟩, hr24, h⟩ := ob h
          dsimp only at h
          refine px_SL (As := [.ref (b_e 0 0), .int (nI 9)]) (rest := []) (gs := ([gO E b_e w19] : List va_W)) (gr := ([] : List va_W)) (gc := ([gO E b_e w19] : List va_W)) (g1 := ([gO E b_e w23] : List va_W)) (g2 := ([gO E b_e w23] : List va_W)) ⟨hx, hb, hml, hown, hts⟩ (mT_account l hlt E X L b_e ((nI 9))  (w19) r22 w23 hr24) (vx_cwSW 2 hts (wsw_s q848 q849 q17 q850) rfl rfl rfl hdS_L_account (by rw [hR]; first | exact ⟨Nat.le_of_ble_eq_true rfl, Nat.le_of_ble_eq_true rfl⟩ | exact ⟨by show _ ≤ (977054 : Nat); omega, by show _ ≤ (6170461 : Nat); omega⟩)) hK hN hX hL hP hD hS hA [] [0] [0] rfl rfl (by decide) (by decide) rfl (by decide) rfl hl.1 rfl (Nat.le_of_ble_eq_true rfl) dL_law_92 (by rw [hR]; first | exact ⟨Nat.le_of_ble_eq_true rfl, Nat.le_of_ble_eq_true rfl⟩ | exact ⟨by show _ ≤ (977054 : Nat); omega, by show _ ≤ (6170461 : Nat); omega⟩) (fun H locs hP hD hS => ?_)
          refine W.eq (g2 := F0 m 95 ls [.int r22]) rfl ?_
          refine lv_bipush (v := (nI 60)) hx hb dL_law_95 (by decide) ?_
          refine lv_icmp_ne (tgt := 126) hx hb dL_law_97 (by decide) (fun c25 => ?_) (fun c25 => ?_)
          · rw [if_neg c25] at h
            refine lv_iconst (v := (nI 0)) hx hb dL_law_126 (by decide) ?_
            cases h
          · rw [if_pos c25] at h
            refine lv_aload_n hx hb dL_law_100 rfl (lv_at hl 1 rfl) ?_
            obtain ⟨⟨r26, w27⟩, hr28, h⟩ := ob h
            dsimp only at h
            refine px_SL (As := [.ref (b_e 0 0)]) (rest := []) (gs := ([gO E b_e w23] : List va_W)) (gr := ([] : List va_W)) (gc := ([gO E b_e w23] : List va_W)) (g1 := ([gO E b_e w27] : List va_W)) (g2 := ([gO E b_e w27] : List va_W)) ⟨hx, hb, hml, hown, hts⟩ (mT_read l hlt E X L b_e   (w23) r26 w27 hr28) (vx_cwSW 1 hts (wsw_s q731 q732 q17 q733) rfl rfl rfl hdS_L_read (by rw [hR]; first | exact ⟨Nat.le_of_ble_eq_true rfl, Nat.le_of_ble_eq_true rfl⟩ | exact ⟨by show _ ≤ (977054 : Nat); omega, by show _ ≤ (6170461 : Nat); omega⟩)) hK hN hX hL hP hD hS hA [] [0] [0] rfl rfl (by decide) (by decide) rfl (by decide) rfl hl.1 rfl (Nat.le_of_ble_eq_true rfl) dL_law_101 (by rw [hR]; first | exact ⟨Nat.le_of_ble_eq_true rfl, Nat.le_of_ble_eq_true rfl⟩ | exact ⟨by show _ ≤ (977054 : Nat); omega, by show _ ≤ (6170461 : Nat); omega⟩) (fun H locs hP hD hS => ?_)
            refine W.eq (g2 := F0 m 104 ls [.int r26]) rfl ?_
            refine lv_sipush (v := (-1001 : Int32)) hx hb dL_law_104 (by decide) ?_
            refine lv_icmp_ne (tgt := 126) hx hb dL_law_107 (by decide) (fun c29 => ?_) (fun c29 => ?_)
            · rw [if_neg c29] at h
              refine lv_iconst (v := (nI 0)) hx hb dL_law_126 (by decide) ?_
              cases h
            · rw [if_pos c29] at h
              refine lv_aload_n hx hb dL_law_110 rfl (lv_at hl 1 rfl) ?_
              obtain ⟨r30, hr31, h⟩ := ob h
              refine px_Vp (As := []) (rest := []) (gs := ([gO E b_e w27] : List va_W)) (gc := ([gO E b_e w27] : List va_W)) ⟨hx, hb, hml, hown, hts⟩ (mV_errorPosition l E b_e   (w27) r30 hr31) (cwV 0 hts (ws_v q248 q249 q250 q18 q251) rfl rfl rfl hdV_X8_errorPosition (by rw [hR]; first | exact ⟨Nat.le_of_ble_eq_true rfl, Nat.le_of_ble_eq_true rfl⟩ | exact ⟨by show _ ≤ (977054 : Nat); omega, by show _ ≤ (6170461 : Nat); omega⟩)) hK hN hP hD [0] rfl (by decide) 0 8 rfl rfl rfl rfl hl.1 rfl (Nat.le_of_ble_eq_true rfl) dL_law_111 (by rw [hR]; first | exact ⟨Nat.le_of_ble_eq_true rfl, Nat.le_of_ble_eq_true rfl⟩ | exact ⟨by show _ ≤ (977054 : Nat); omega, by show _ ≤ (6170461 : Nat); omega⟩) ?_
              refine W.eq (g2 := F0 m 114 ls [.int r30]) rfl ?_
              refine lv_if_ne (tgt := 126) hx hb dL_law_114 (by decide) (fun c32 => ?_) (fun c32 => ?_)
              · rw [if_neg c32] at h
                refine lv_iconst (v := (nI 0)) hx hb dL_law_126 (by decide) ?_
                cases h
              · rw [if_pos c32] at h
                refine lv_aload_n hx hb dL_law_117 rfl (lv_at hl 1 rfl) ?_
                refine lv_bipush (v := (nI 9)) hx hb dL_law_118 (by decide) ?_
                obtain ⟨⟨r33, w34⟩, hr35, h⟩ := ob h
                dsimp only at h
                refine px_SL (As := [.ref (b_e 0 0), .int (nI 9)]) (rest := []) (gs := ([gO E b_e w27] : List va_W)) (gr := ([] : List va_W)) (gc := ([gO E b_e w27] : List va_W)) (g1 := ([gO E b_e w34] : List va_W)) (g2 := ([gO E b_e w34] : List va_W)) ⟨hx, hb, hml, hown, hts⟩ (mT_account l hlt E X L b_e ((nI 9))  (w27) r33 w34 hr35) (vx_cwSW 2 hts (wsw_s q848 q849 q17 q850) rfl rfl rfl hdS_L_account (by rw [hR]; first | exact ⟨Nat.le_of_ble_eq_true rfl, Nat.le_of_ble_eq_true rfl⟩ | exact ⟨by show _ ≤ (977054 : Nat); omega, by show _ ≤ (6170461 : Nat); omega⟩)) hK hN hX hL hP hD hS hA [] [0] [0] rfl rfl (by decide) (by decide) rfl (by decide) rfl hl.1 rfl (Nat.le_of_ble_eq_true rfl) dL_law_120 (by rw [hR]; first | exact ⟨Nat.le_of_ble_eq_true rfl, Nat.le_of_ble_eq_true rfl⟩ | exact ⟨by show _ ≤ (977054 : Nat); omega, by show _ ≤ (6170461 : Nat); omega⟩) (fun H locs hP hD hS => ?_)
                refine W.eq (g2 := F0 m 123 ls [.int r33]) rfl ?_
                refine lv_if_eq (tgt := 128) hx hb dL_law_123 (by decide) (fun c36 => ?_) (fun c36 => ?_)
                · rw [if_pos c36] at h
                  refine lv_iconst (v := (nI 1)) hx hb dL_law_128 (by decide) ?_
                  refine lv_istore_n (lv' := [(2, .int (nI 1)), (0, .ref L.1.1), (1, .ref (b_e 0 0))]) hx hb dL_law_129 rfl hl (by decide) rfl (fun ls hl => ?_)
                  exact L130 25 ((nI 1)) (w34) _ _ (by omega) (by omega) H locs ls hP hD hS (lv_sub hl [1, 2, 0] rfl) h
                · rw [if_neg c36] at h
                  refine lv_iconst (v := (nI 0)) hx hb dL_law_126 (by decide) ?_
                  cases h
      · rw [if_neg c17] at h
        refine lv_aload_n hx hb dL_law_54 rfl (lv_at hl 1 rfl) ?_
        refine lv_bipush (v := (nI 65)) hx hb dL_law_55 (by decide) ?_
        refine lv_iload_n hx hb dL_law_57 rfl (lv_at hl 2 rfl) ?_
        refine lv_iadd hx hb dL_law_58 ?_
        refine lv_i2c (v := (ch ((nI 65) + x2))) hx hb dL_law_59 rfl ?_
        obtain ⟨⟨r37, w38⟩, hr39, h⟩ := ob h
        dsimp only at h
        refine px_SL (As := [.ref (b_e 0 0), .int (ch ((nI 65) + x2))]) (rest := []) (gs := ([gO E b_e τ_e] : List va_W)) (gr := ([] : List va_W)) (gc := ([gO E b_e τ_e] : List va_W)) (g1 := ([gO E b_e w38] : List va_W)) (g2 := ([gO E b_e w38] : List va_W)) ⟨hx, hb, hml, hown, hts⟩ (mT_append l hlt E X L b_e (((nI 65) + x2))  (τ_e) r37 w38 hr39) (vx_cwSW 2 hts (wsw_s q699 q700 q17 q701) rfl rfl rfl hdS_L_append (by rw [hR]; first | exact ⟨Nat.le_of_ble_eq_true rfl, Nat.le_of_ble_eq_true rfl⟩ | exact ⟨by show _ ≤ (977054 : Nat); omega, by show _ ≤ (6170461 : Nat); omega⟩)) hK hN hX hL hP hD hS hA [] [0] [0] rfl rfl (by decide) (by decide) rfl (by decide) rfl hl.1 rfl (Nat.le_of_ble_eq_true rfl) dL_law_60 (by rw [hR]; first | exact ⟨Nat.le_of_ble_eq_true rfl, Nat.le_of_ble_eq_true rfl⟩ | exact ⟨by show _ ≤ (977054 : Nat); omega, by show _ ≤ (6170461 : Nat); omega⟩) (fun H locs hP hD hS => ?_)
        refine W.eq (g2 := F0 m 63 ls [.int r37]) rfl ?_
        refine lv_iload_n hx hb dL_law_63 rfl (lv_at hl 2 rfl) ?_
        refine lv_iconst (v := (nI 1)) hx hb dL_law_64 (by decide) ?_
        refine lv_iadd hx hb dL_law_65 ?_
        refine lv_icmp_eq (tgt := 71) hx hb dL_law_66 (by decide) (fun c40 => ?_) (fun c40 => ?_)
        · rw [if_pos c40] at h
          refine lv_iinc (v := (x2 + nI 1)) (lv' := [(2, .int (x2 + nI 1)), (0, .ref L.1.1), (1, .ref (b_e 0 0))]) hx hb dL_law_71 hl (k := 2) rfl rfl (by decide) rfl (fun ls hl => ?_)
          refine lv_goto (tgt := 48) hx hb dL_law_74 (by decide) ?_
          exact ih ((x2 + nI 1)) (w38) _ _ (by omega) (by omega) H locs ls hP hD hS (lv_sub hl [1, 2, 0] rfl) h
        · rw [if_neg c40] at h
          refine lv_iconst (v := (nI 0)) hx hb dL_law_69 (by decide) ?_
          cases h
  refine lv_aload_n hx hb dL_law_8 rfl (lv_at hl 1 rfl) ?_
  obtain ⟨⟨r1, w2⟩, hr3, h⟩ := ob h
  dsimp only at h
  refine px_SL (As := [.ref (b_e 0 0)]) (rest := []) (gs := ([gO E b_e τ_e] : List va_W)) (gr := ([] : List va_W)) (gc := ([gO E b_e τ_e] : List va_W)) (g1 := ([gO E b_e w2] : List va_W)) (g2 := ([gO E b_e w2] : List va_W)) ⟨hx, hb, hml, hown, hts⟩ (mT_undo l hlt E X L b_e   (τ_e) r1 w2 hr3) (vx_cwSW 1 hts (wsw_s q885 q886 q17 q887) rfl rfl rfl hdS_L_undo (by rw [hR]; first | exact ⟨Nat.le_of_ble_eq_true rfl, Nat.le_of_ble_eq_true rfl⟩ | exact ⟨by show _ ≤ (977054 : Nat); omega, by show _ ≤ (6170461 : Nat); omega⟩)) hK hN hX hL hP hD hS hA [] [0] [0] rfl rfl (by decide) (by decide) rfl (by decide) rfl hl.1 rfl (Nat.le_of_ble_eq_true rfl) dL_law_9 (by rw [hR]; first | exact ⟨Nat.le_of_ble_eq_true rfl, Nat.le_of_ble_eq_true rfl⟩ | exact ⟨by show _ ≤ (977054 : Nat); omega, by show _ ≤ (6170461 : Nat); omega⟩) (fun H locs hP hD hS => ?_)
  refine W.eq (g2 := F0 m 12 ls [.int r1]) rfl ?_
  refine lv_sipush (v := (-1001 : Int32)) hx hb dL_law_12 (by decide) ?_
  refine lv_icmp_ne (tgt := 44) hx hb dL_law_15 (by decide) (fun c4 => ?_) (fun c4 => ?_)
  · rw [if_neg c4] at h
    refine lv_iconst (v := (nI 0)) hx hb dL_law_44 (by decide) ?_
    cases h
  · rw [if_pos c4] at h
    refine lv_aload_n hx hb dL_law_18 rfl (lv_at hl 1 rfl) ?_
    obtain ⟨⟨r5, w6⟩, hr7, h⟩ := ob h
    dsimp only at h
    refine px_SL (As := [.ref (b_e 0 0)]) (rest := []) (gs := ([gO E b_e w2] : List va_W)) (gr := ([] : List va_W)) (gc := ([gO E b_e w2] : List va_W)) (g1 := ([gO E b_e w6] : List va_W)) (g2 := ([gO E b_e w6] : List va_W)) ⟨hx, hb, hml, hown, hts⟩ (mT_restore l hlt E X L b_e   (w2) r5 w6 hr7) (vx_cwSW 1 hts (wsw_s q897 q898 q17 q899) rfl rfl rfl hdS_L_restore (by rw [hR]; first | exact ⟨Nat.le_of_ble_eq_true rfl, Nat.le_of_ble_eq_true rfl⟩ | exact ⟨by show _ ≤ (977054 : Nat); omega, by show _ ≤ (6170461 : Nat); omega⟩)) hK hN hX hL hP hD hS hA [] [0] [0] rfl rfl (by decide) (by decide) rfl (by decide) rfl hl.1 rfl (Nat.le_of_ble_eq_true rfl) dL_law_19 (by rw [hR]; first | exact ⟨Nat.le_of_ble_eq_true rfl, Nat.le_of_ble_eq_true rfl⟩ | exact ⟨by show _ ≤ (977054 : Nat); omega, by show _ ≤ (6170461 : Nat); omega⟩) (fun H locs hP hD hS => ?_)
    refine W.eq (g2 := F0 m 22 ls [.int r5]) rfl ?_
    refine lv_sipush (v := (-1001 : Int32)) hx hb dL_law_22 (by decide) ?_
    refine lv_icmp_ne (tgt := 44) hx hb dL_law_25 (by decide) (fun c8 => ?_) (fun c8 => ?_)
    · rw [if_neg c8] at h
      refine lv_iconst (v := (nI 0)) hx hb dL_law_44 (by decide) ?_
      cases h
    · rw [if_pos c8] at h
      refine lv_aload_n hx hb dL_law_28 rfl (lv_at hl 1 rfl) ?_
      obtain ⟨⟨r9, w10⟩, hr11, h⟩ := ob h
      dsimp only at h
      refine px_V (As := []) (rest := []) (gs := ([gO E b_e w6] : List va_W)) (gr := ([] : List va_W)) (gc := ([gO E b_e w6] : List va_W)) (g1 := ([gO E b_e w10] : List va_W)) (g2 := ([gO E b_e w10] : List va_W)) ⟨hx, hb, hml, hown, hts⟩ (mV_save l E b_e   (w6) r9 w10 hr11) (cwV 0 hts (ws_v q252 q253 q254 q18 q255) rfl rfl rfl hdV_X8_save (by rw [hR]; first | exact ⟨Nat.le_of_ble_eq_true rfl, Nat.le_of_ble_eq_true rfl⟩ | exact ⟨by show _ ≤ (977054 : Nat); omega, by show _ ≤ (6170461 : Nat); omega⟩)) hK hN hP hD hS hA [] [0] [0] rfl rfl (by decide) (by decide) rfl (by decide) 0 8 rfl rfl rfl rfl hl.1 rfl (Nat.le_of_ble_eq_true rfl) dL_law_29 (by rw [hR]; first | exact ⟨Nat.le_of_ble_eq_true rfl, Nat.le_of_ble_eq_true rfl⟩ | exact ⟨by show _ ≤ (977054 : Nat); omega, by show _ ≤ (6170461 : Nat); omega⟩) (fun H locs hP hD hS => ?_)
      refine W.eq (g2 := F0 m 32 ls [.int r9]) rfl ?_
      refine lv_iconst (v := (nI 1)) hx hb dL_law_32 (by decide) ?_
      refine lv_icmp_ne (tgt := 44) hx hb dL_law_33 (by decide) (fun c12 => ?_) (fun c12 => ?_)
      · rw [if_neg c12] at h
        refine lv_iconst (v := (nI 0)) hx hb dL_law_44 (by decide) ?_
        cases h
      · rw [if_pos c12] at h
        refine lv_aload_n hx hb dL_law_36 rfl (lv_at hl 1 rfl) ?_
        refine lv_iconst (v := (nI 0)) hx hb dL_law_37 (by decide) ?_
        obtain ⟨⟨r13, w14⟩, hr15, h⟩ := ob h
        dsimp only at h
        refine px_SL (As := [.ref (b_e 0 0), .int (nI 0)]) (rest := []) (gs := ([gO E b_e w10] : List va_W)) (gr := ([] : List va_W)) (gc := ([gO E b_e w10] : List va_W)) (g1 := ([gO E b_e w14] : List va_W)) (g2 := ([gO E b_e w14] : List va_W)) ⟨hx, hb, hml, hown, hts⟩ (mT_bundle l hlt E X L b_e ((nI 0))  (w10) r13 w14 hr15) (vx_cwSW 2 hts (wsw_s q680 q681 q17 q682) rfl rfl rfl hdS_L_bundle (by rw [hR]; first | exact ⟨Nat.le_of_ble_eq_true rfl, Nat.le_of_ble_eq_true rfl⟩ | exact ⟨by show _ ≤ (977054 : Nat); omega, by show _ ≤ (6170461 : Nat); omega⟩)) hK hN hX hL hP hD hS hA [] [0] [0] rfl rfl (by decide) (by decide) rfl (by decide) rfl hl.1 rfl (Nat.le_of_ble_eq_true rfl) dL_law_38 (by rw [hR]; first | exact ⟨Nat.le_of_ble_eq_true rfl, Nat.le_of_ble_eq_true rfl⟩ | exact ⟨by show _ ≤ (977054 : Nat); omega, by show _ ≤ (6170461 : Nat); omega⟩) (fun H locs hP hD hS => ?_)
        refine W.eq (g2 := F0 m 41 ls [.int r13]) rfl ?_
        refine lv_if_eq (tgt := 46) hx hb dL_law_41 (by decide) (fun c16 => ?_) (fun c16 => ?_)
        · rw [if_pos c16] at h
          refine lv_iconst (v := (nI 0)) hx hb dL_law_46 (by decide) ?_
          refine lv_istore_n (lv' := [(2, .int (nI 0)), (0, .ref L.1.1), (1, .ref (b_e 0 0))]) hx hb dL_law_47 rfl hl (by decide) rfl (fun ls hl => ?_)
          exact L48 62 ((nI 0)) (w14) _ _ (by omega) (by omega) H locs ls hP hD hS (lv_sub hl [1, 2, 0] rfl) h
        · rw [if_neg c16] at h
          refine lv_iconst (v := (nI 0)) hx hb dL_law_44 (by decide) ?_
          cases h
def fw_o (L : LX) (τ_o : TO) : Option (Int64 × Int32 × TO) := ((fL_makes (L) (τ_o)).bind fun (r1, w2) => (if (b2i r1) = 0 then none else ((fL_asks (w2)).bind fun (r5, w6) => ((fL_asks (w6)).bind fun (r8, w9) => (if (lg_cmp r8 r5) = 0 then ((fL_refused (w9)).bind fun (r12, w13) => (if (b2i r12) = 0 then none else ((t_save (w13)).bind fun (r16, w17) => ((t_account ((nI 0)) (w17)).bind fun (r19, w20) => (if r16 = r19 then ((fL_asks (w20)).bind fun (r23, w24) => (if (lg_cmp r23 r5) = 0 then (some (r5, r16, w24)) else none)) else none))))) else none)))))
set_option maxHeartbeats 8000000 in
set_option maxRecDepth 100000 in
theorem lw_o (hlt : l.stackTraces = false) (hx : p.tables.exec = Jvm.exec) (hb : c.code = cL_law) (hml : c.maxLocals = 11) (hts : ∀ w ∈ lw_all, w.before args s = true) (hown : s.vm.findClass RL = some m.cls) (hR : R = room_1) (hK : va_K E.1 vwCl (tyE E) s) (hKL : va_K E.1 vwCl (tyE E ++ [(L9, .long)]) s) (hN : px_N s) (hX : px_X X A s s.heap) (hL : px_L E L A s s.heap) (hA : ∀ q, s.heap.size ≤ q → A q) (b_o : Nat → Nat → Nat)  (τ_o : TO) (z3 : Int64) (z5 : Int32) (z_o_τ : TO) (h : fw_o L τ_o = some (z3, z5, z_o_τ)) (hce : ce + 13596 ≤ 977054) (hsl : sl + 81576 ≤ 6170461)
    (hP : va_P E.1 vwCl ([gO E b_o τ_o] : List va_W).flatten H) (hD : va_D A ([gO E b_o τ_o] : List va_W).flatten) (hS : va_S A s.heap H locs) (hl : lv_has ls 11 [(0, .ref L.1.1), (2, .ref (b_o 0 0))]) (kk : ∀ (H : Heap) (locs : List Loc) (ls : Array Slot), va_P E.1 vwCl ([gO E b_o z_o_τ] : List va_W).flatten H → va_D A ([gO E b_o z_o_τ] : List va_W).flatten → va_S A s.heap H locs → lv_has ls 11 [(0, .ref L.1.1), (2, .ref (b_o 0 0)), (3, .long z3), (5, .int z5)] → W p l e R s m args below meth c H locs (ce + 13596) (sl + 81576) Q (F0 m 690 ls [])) : W p l e R s m args below meth c H locs ce sl Q (F0 m 630 ls []) := by
  have hR : R = { frames := 2048, cells := 977054, slots := 6170461, locals := 84000 } := hR
  unfold fw_o at h
  refine lv_aload_n hx hb dL_law_630 rfl (lv_at hl 1 rfl) ?_
  refine lv_aload_n hx hb dL_law_631 rfl (lv_at hl 0 rfl) ?_
  obtain ⟨⟨r1, w2⟩, hr3, h⟩ := ob h
  dsimp only at h
  refine px_SZ (As := [.ref (b_o 0 0), .ref L.1.1]) (rest := []) (gs := ([gO E b_o τ_o] : List va_W)) (gr := ([] : List va_W)) (gc := ([gO E b_o τ_o] : List va_W)) (g1 := ([gO E b_o w2] : List va_W)) (g2 := ([gO E b_o w2] : List va_W)) ⟨hx, hb, hml, hown, hts⟩ (mL_makes l hlt E X L b_o   (τ_o) r1 w2 hr3) (va_cwS 2 hts (ws_s q928 q929 q17 q930) rfl rfl rfl hdS_L_makes (by rw [hR]; first | exact ⟨Nat.le_of_ble_eq_true rfl, Nat.le_of_ble_eq_true rfl⟩ | exact ⟨by show _ ≤ (977054 : Nat); omega, by show _ ≤ (6170461 : Nat); omega⟩)) hK hN hX hL hP hD hS hA [] [0] [0] rfl rfl (by decide) (by decide) rfl (by decide) rfl hl.1 rfl (Nat.le_of_ble_eq_true rfl) dL_law_632 (by rw [hR]; first | exact ⟨Nat.le_of_ble_eq_true rfl, Nat.le_of_ble_eq_true rfl⟩ | exact ⟨by show _ ≤ (977054 : Nat); omega, by show _ ≤ (6170461 : Nat); omega⟩) (fun H locs hP hD hS => ?_)
  refine W.eq (g2 := F0 m 635 ls [.int (b2i r1)]) rfl ?_
  refine lv_if_ne (tgt := 640) hx hb dL_law_635 (by decide) (fun c4 => ?_) (fun c4 => ?_)
  · rw [if_neg c4] at h
    refine lv_aload_n hx hb dL_law_640 rfl (lv_at hl 1 rfl) ?_
    obtain ⟨⟨r5, w6⟩, hr7, h⟩ := ob h
    dsimp only at h
    refine px_SZ (As := [.ref (b_o 0 0)]) (rest := []) (gs := ([gO E b_o w2] : List va_W)) (gr := ([] : List va_W)) (gc := ([gO E b_o w2] : List va_W)) (g1 := ([gO E b_o w6] : List va_W)) (g2 := ([gO E b_o w6] : List va_W)) ⟨hx, hb, hml, hown, hts⟩ (mL_asks l hlt E X L b_o   (w2) r5 w6 hr7) (va_cwS 1 hts (ws_s q942 q943 q17 q944) rfl rfl rfl hdS_L_asks (by rw [hR]; first | exact ⟨Nat.le_of_ble_eq_true rfl, Nat.le_of_ble_eq_true rfl⟩ | exact ⟨by show _ ≤ (977054 : Nat); omega, by show _ ≤ (6170461 : Nat); omega⟩)) hK hN hX hL hP hD hS hA [] [0] [0] rfl rfl (by decide) (by decide) rfl (by decide) rfl hl.1 rfl (Nat.le_of_ble_eq_true rfl) dL_law_641 (by rw [hR]; first | exact ⟨Nat.le_of_ble_eq_true rfl, Nat.le_of_ble_eq_true rfl⟩ | exact ⟨by show _ ≤ (977054 : Nat); omega, by show _ ≤ (6170461 : Nat); omega⟩) (fun H locs hP hD hS => ?_)
    refine W.eq (g2 := F0 m 644 ls [.long r5]) rfl ?_
    refine lv_lstore_n (lv' := [(3, .long r5), (0, .ref L.1.1), (2, .ref (b_o 0 0))]) hx hb dL_law_644 rfl hl (by decide) rfl (fun ls hl => ?_)
    refine lv_aload_n hx hb dL_law_645 rfl (lv_at hl 2 rfl) ?_
    obtain ⟨⟨r8, w9⟩, hr10, h⟩ := ob h
    dsimp only at h
    refine px_SZ (As := [.ref (b_o 0 0)]) (rest := []) (gs := ([gO E b_o w6] : List va_W)) (gr := ([] : List va_W)) (gc := ([gO E b_o w6] : List va_W)) (g1 := ([gO E b_o w9] : List va_W)) (g2 := ([gO E b_o w9] : List va_W)) ⟨hx, hb, hml, hown, hts⟩ (mL_asks l hlt E X L b_o   (w6) r8 w9 hr10) (va_cwS 1 hts (ws_s q942 q943 q17 q944) rfl rfl rfl hdS_L_asks (by rw [hR]; first | exact ⟨Nat.le_of_ble_eq_true rfl, Nat.le_of_ble_eq_true rfl⟩ | exact ⟨by show _ ≤ (977054 : Nat); omega, by show _ ≤ (6170461 : Nat); omega⟩)) hK hN hX hL hP hD hS hA [] [0] [0] rfl rfl (by decide) (by decide) rfl (by decide) rfl hl.1 rfl (Nat.le_of_ble_eq_true rfl) dL_law_646 (by rw [hR]; first | exact ⟨Nat.le_of_ble_eq_true rfl, Nat.le_of_ble_eq_true rfl⟩ | exact ⟨by show _ ≤ (977054 : Nat); omega, by show _ ≤ (6170461 : Nat); omega⟩) (fun H locs hP hD hS => ?_)
    refine W.eq (g2 := F0 m 649 ls [.long r8]) rfl ?_
    refine lv_lload_n hx hb dL_law_649 rfl (lv_at hl 0 rfl) ?_
    refine W.lcmp hx hb dL_law_650 ?_
    refine lv_if_ne (tgt := 661) hx hb dL_law_651 (by decide) (fun c11 => ?_) (fun c11 => ?_)
    · rw [if_neg c11] at h
      refine lv_iconst (v := (nI 0)) hx hb dL_law_661 (by decide) ?_
      cases h
    · rw [if_pos c11] at h
      refine lv_aload_n hx hb dL_law_654 rfl (lv_at hl 2 rfl) ?_
      obtain ⟨⟨r12, w13⟩, hr14, h⟩ := ob h
      dsimp only at h
      refine px_SZ (As := [.ref (b_o 0 0)]) (rest := []) (gs := ([gO E b_o w9] : List va_W)) (gr := ([] : List va_W)) (gc := ([gO E b_o w9] : List va_W)) (g1 := ([gO E b_o w13] : List va_W)) (g2 := ([gO E b_o w13] : List va_W)) ⟨hx, hb, hml, hown, hts⟩ (mL_refused l hlt E X L b_o   (w9) r12 w13 hr14) (va_cwS 1 hts (ws_s q1422 q1423 q17 q1424) rfl rfl rfl hdS_L_refused (by rw [hR]; first | exact ⟨Nat.le_of_ble_eq_true rfl, Nat.le_of_ble_eq_true rfl⟩ | exact ⟨by show _ ≤ (977054 : Nat); omega, by show _ ≤ (6170461 : Nat); omega⟩)) hK hN hX hL hP hD hS hA [] [0] [0] rfl rfl (by decide) (by decide) rfl (by decide) rfl hl.1 rfl (Nat.le_of_ble_eq_true rfl) dL_law_655 (by rw [hR]; first | exact ⟨Nat.le_of_ble_eq_true rfl, Nat.le_of_ble_eq_true rfl⟩ | exact ⟨by show _ ≤ (977054 : Nat); omega, by show _ ≤ (6170461 : Nat); omega⟩) (fun H locs hP hD hS => ?_)
      refine W.eq (g2 := F0 m 658 ls [.int (b2i r12)]) rfl ?_
      refine lv_if_ne (tgt := 663) hx hb dL_law_658 (by decide) (fun c15 => ?_) (fun c15 => ?_)
      · rw [if_neg c15] at h
        refine lv_aload_n hx hb dL_law_663 rfl (lv_at hl 2 rfl) ?_
        obtain ⟨⟨r16, w17⟩, hr18, h⟩ := ob h
        dsimp only at h
        refine px_V (As := []) (rest := []) (gs := ([gO E b_o w13] : List va_W)) (gr := ([] : List va_W)) (gc := ([gO E b_o w13] : List va_W)) (g1 := ([gO E b_o w17] : List va_W)) (g2 := ([gO E b_o w17] : List va_W)) ⟨hx, hb, hml, hown, hts⟩ (mV_save l E b_o   (w13) r16 w17 hr18) (cwV 0 hts (ws_v q252 q253 q254 q18 q255) rfl rfl rfl hdV_X8_save (by rw [hR]; first | exact ⟨Nat.le_of_ble_eq_true rfl, Nat.le_of_ble_eq_true rfl⟩ | exact ⟨by show _ ≤ (977054 : Nat); omega, by show _ ≤ (6170461 : Nat); omega⟩)) hK hN hP hD hS hA [] [0] [0] rfl rfl (by decide) (by decide) rfl (by decide) 0 8 rfl rfl rfl rfl hl.1 rfl (Nat.le_of_ble_eq_true rfl) dL_law_664 (by rw [hR]; first | exact ⟨Nat.le_of_ble_eq_true rfl, Nat.le_of_ble_eq_true rfl⟩ | exact ⟨by show _ ≤ (977054 : Nat); omega, by show _ ≤ (6170461 : Nat); omega⟩) (fun H locs hP hD hS => ?_)
        refine W.eq (g2 := F0 m 667 ls [.int r16]) rfl ?_
        refine lv_istore (lv' := [(5, .int r16), (3, .long r5), (0, .ref L.1.1), (2, .ref (b_o 0 0))]) hx hb dL_law_667 hl (by decide) rfl (fun ls hl => ?_)
        refine lv_iload hx hb dL_law_669 (lv_at hl 0 rfl) ?_
        refine lv_aload_n hx hb dL_law_671 rfl (lv_at hl 3 rfl) ?_
        refine lv_iconst (v := (nI 0)) hx hb dL_law_672 (by decide) ?_
        obtain ⟨⟨r19, w20⟩, hr21, h⟩ := ob h
        dsimp only at h
        refine px_SL (As := [.ref (b_o 0 0), .int (nI 0)]) (rest := [.int r16]) (gs := ([gO E b_o w17] : List va_W)) (gr := ([] : List va_W)) (gc := ([gO E b_o w17] : List va_W)) (g1 := ([gO E b_o w20] : List va_W)) (g2 := ([gO E b_o w20] : List va_W)) ⟨hx, hb, hml, hown, hts⟩ (mT_account l hlt E X L b_o ((nI 0))  (w17) r19 w20 hr21) (vx_cwSW 2 hts (wsw_s q848 q849 q17 q850) rfl rfl rfl hdS_L_account (by rw [hR]; first | exact ⟨Nat.le_of_ble_eq_true rfl, Nat.le_of_ble_eq_true rfl⟩ | exact ⟨by show _ ≤ (977054 : Nat); omega, by show _ ≤ (6170461 : Nat); omega⟩)) hK hN hX hL hP hD hS hA [] [0] [0] rfl rfl (by decide) (by decide) rfl (by decide) rfl hl.1 rfl (Nat.le_of_ble_eq_true rfl) dL_law_673 (by rw [hR]; first | exact ⟨Nat.le_of_ble_eq_true rfl, Nat.le_of_ble_eq_true rfl⟩ | exact ⟨by show _ ≤ (977054 : Nat); omega, by show _ ≤ (6170461 : Nat); omega⟩) (fun H locs hP hD hS => ?_)
        refine W.eq (g2 := F0 m 676 ls [.int r19, .int r16]) rfl ?_
        refine lv_icmp_ne (tgt := 688) hx hb dL_law_676 (by decide) (fun c22 => ?_) (fun c22 => ?_)
        · rw [if_neg c22] at h
          refine lv_iconst (v := (nI 0)) hx hb dL_law_688 (by decide) ?_
          cases h
        · rw [if_pos c22] at h
          refine lv_aload_n hx hb dL_law_679 rfl (lv_at hl 3 rfl) ?_
          obtain ⟨⟨r23, w24⟩, hr25, h⟩ := ob h
          dsimp only at h
          refine px_SZ (As := [.ref (b_o 0 0)]) (rest := []) (gs := ([gO E b_o w20] : List va_W)) (gr := ([] : List va_W)) (gc := ([gO E b_o w20] : List va_W)) (g1 := ([gO E b_o w24] : List va_W)) (g2 := ([gO E b_o w24] : List va_W)) ⟨hx, hb, hml, hown, hts⟩ (mL_asks l hlt E X L b_o   (w20) r23 w24 hr25) (va_cwS 1 hts (ws_s q942 q943 q17 q944) rfl rfl rfl hdS_L_asks (by rw [hR]; first | exact ⟨Nat.le_of_ble_eq_true rfl, Nat.le_of_ble_eq_true rfl⟩ | exact ⟨by show _ ≤ (977054 : Nat); omega, by show _ ≤ (6170461 : Nat); omega⟩)) hK hN hX hL hP hD hS hA [] [0] [0] rfl rfl (by decide) (by decide) rfl (by decide) rfl hl.1 rfl (Nat.le_of_ble_eq_true rfl) dL_law_680 (by rw [hR]; first | exact ⟨Nat.le_of_ble_eq_true rfl, Nat.le_of_ble_eq_true rfl⟩ | exact ⟨by show _ ≤ (977054 : Nat); omega, by show _ ≤ (6170461 : Nat); omega⟩) (fun H locs hP hD hS => ?_)
          refine W.eq (g2 := F0 m 683 ls [.long r23]) rfl ?_
          refine lv_lload_n hx hb dL_law_683 rfl (lv_at hl 1 rfl) ?_
          refine W.lcmp hx hb dL_law_684 ?_
          refine lv_if_eq (tgt := 690) hx hb dL_law_685 (by decide) (fun c26 => ?_) (fun c26 => ?_)
          · rw [if_pos c26] at h
            cases h
            refine W.widen (k := ce + 13596) (n := sl + 81576) (by omega) (by omega) ?_
            exact kk H locs ls hP hD hS (lv_sub hl [2, 3, 1, 0] rfl)
          · rw [if_neg c26] at h
            refine lv_iconst (v := (nI 0)) hx hb dL_law_688 (by decide) ?_
            cases h
      · rw [if_pos c15] at h
        refine lv_iconst (v := (nI 0)) hx hb dL_law_661 (by decide) ?_
        cases h
  · rw [if_pos c4] at h
    refine lv_iconst (v := (nI 0)) hx hb dL_law_638 (by decide) ?_
    cases h
def fw_w_L781 (L : LX) : Nat → Int64 → Int32 → Int32 → Int32 → Int32 → TO → (Nat → Int64) → Option (Unit)
  | 0, _, _, _, _, _, _, _ => none
  | n + 1, x3, x5, x7, x8, x9, τ_o, w_val => (if x8 < x9 then ((t_restore (τ_o)).bind fun (r17, w18) => (if r17 = x5 then ((t_undo (w18)).bind fun (r21, w22) => (if r21 = (-1001 : Int32) then ((fL_asks (w22)).bind fun (r25, w26) => (if (lg_cmp r25 x3) = 0 then ((t_restore (w26)).bind fun (r29, w30) => (if r29 = x5 then ((fL_asks (w30)).bind fun (r33, w34) => (if (lg_cmp r33 x3) = 0 then (some ()) else none)) else none)) else none)) else none)) else none)) else ((t_undo (τ_o)).bind fun (r37, w38) => (if r37 < (x8 - x9) then none else (if ((nI 8) - x9) < r37 then none else ((fL_asks (w38)).bind fun (r42, w43) => (if inb (x7 - x9) 11 = true then (if (lg_cmp r42 (w_val ((x7 - x9)).toNatClampNeg)) = 0 then (fw_w_L781 L n (x3) (x5) (x7) (x8) ((x9 + nI 1)) (w43) (w_val)) else none) else none))))))
def fw_w_L702 (L : LX) : Nat → Int64 → Int32 → Int32 → Int32 → TO → (Nat → Int64) → Option (Unit)
  | 0, _, _, _, _, _, _ => none
  | n + 1, x3, x5, x7, x8, τ_o, w_val => (if (nI 10) ≤ x8 then (fw_w_L781 L 10 (x3) (x5) (x7) ((if x7 < (nI 8) then x7 else (nI 8))) ((nI 1)) (τ_o) (w_val)) else ((fL_asks (τ_o)).bind fun (r2, w3) => ((fL_at (L) (((nI 20) + x8))).bind fun r5 => ((fL_changes (L) ((r5 ^^^ (x8 * (nI 977)))) (w3)).bind fun (r7, w8) => (if (b2i r7) = 0 then ((fL_asks (w8)).bind fun (r11, w12) => (if (lg_cmp r11 r2) = 0 then (fw_w_L702 L n (x3) (x5) (x7) ((x8 + nI 1)) (w12) (w_val)) else none)) else (if inb x7 11 = true then (fw_w_L702 L n (x3) (x5) ((x7 + nI 1)) ((x8 + nI 1)) (w8) ((vp_updL w_val (x7).toNatClampNeg r2))) else none))))))
def fw_w (L : LX) (x3 : Int64) (x5 : Int32) (τ_o : TO) (w_val : (Nat → Int64)) : Option (Unit) := (fw_w_L702 L 11 (x3) (x5) ((nI 0)) ((nI 0)) (τ_o) (w_val))
set_option maxHeartbeats 8000000 in
set_option maxRecDepth 100000 in
theorem lw_w (hlt : l.stackTraces = false) (hx : p.tables.exec = Jvm.exec) (hb : c.code = cL_law) (hml : c.maxLocals = 11) (hts : ∀ w ∈ lw_all, w.before args s = true) (hown : s.vm.findClass RL = some m.cls) (hR : R = room_1) (hK : va_K E.1 vwCl (tyE E) s) (hKL : va_K E.1 vwCl (tyE E ++ [(L9, .long)]) s) (hN : px_N s) (hX : px_X X A s s.heap) (hL : px_L E L A s s.heap) (hA : ∀ q, s.heap.size ≤ q → A q) (b_o : Nat → Nat → Nat) (a_w : Nat → Nat) (x3 : Int64) (x5 : Int32) (τ_o : TO) (w_val : (Nat → Int64))  (h : fw_w L x3 x5 τ_o w_val = some ()) (hce : ce + 90430 ≤ 977054) (hsl : sl + 542756 ≤ 6170461)
    (hP : va_P E.1 vwCl ([gO E b_o τ_o, gLW L9 (a_w 0) w_val] : List va_W).flatten H) (hD : va_D A ([gO E b_o τ_o, gLW L9 (a_w 0) w_val] : List va_W).flatten) (hS : va_S A s.heap H locs) (hl : lv_has ls 11 [(0, .ref L.1.1), (2, .ref (b_o 0 0)), (3, .long x3), (5, .int x5), (6, .ref (a_w 0))]) (kk : ∀ (H : Heap) (locs : List Loc) (ls : Array Slot), va_S A s.heap H locs → W p l e R s m args below meth c H locs (ce + 90430) (sl + 542756) Q (F0 m 889 ls [.int (nI 1)])) : W p l e R s m args below meth c H locs ce sl Q (F0 m 696 ls []) := by
  have hR : R = { frames := 2048, cells := 977054, slots := 6170461, locals := 84000 } := hR
  unfold fw_w at h
  have L781 : ∀ (n : Nat) (x3 : Int64) (x5 : Int32) (x7 : Int32) (x8 : Int32) (x9 : Int32) (τ_o : TO) (w_val : (Nat → Int64)) (cc ss : Nat), cc + n * 2638 + 5277 ≤ ce + 90430 → ss + n * 15828 + 31662 ≤ sl + 542756 → ∀ (H : Heap) (locs : List Loc) (ls : Array Slot), va_P E.1 vwCl ([gO E b_o τ_o, gLW L9 (a_w 0) w_val] : List va_W).flatten H → va_D A ([gO E b_o τ_o, gLW L9 (a_w 0) w_val] : List va_W).flatten → va_S A s.heap H locs → lv_has ls 11 [(2, .ref (b_o 0 0)), (3, .long x3), (5, .int x5), (6, .ref (a_w 0)), (7, .int x7), (8, .int x8), (9, .int x9)] → fw_w_L781 L n x3 x5 x7 x8 x9 τ_o w_val = some () → W p l e R s m args below meth c H locs cc ss Q (F0 m 781 ls []) := by
    intro n
    induction n with
    | zero =>
      intro x3 x5 x7 x8 x9 τ_o w_val cc ss hcc hss H locs ls hP hD hS hl h
      unfold fw_w_L781 at h; cases h
    | succ n ih =>
      intro x3 x5 x7 x8 x9 τ_o w_val cc ss hcc hss H locs ls hP hD hS hl h
      unfold fw_w_L781 at h
      refine lv_iload hx hb dL_law_781 (lv_at hl 6 rfl) ?_
      refine lv_iload hx hb dL_law_783 (lv_at hl 5 rfl) ?_
      refine lv_icmp_gt (tgt := 838) hx hb dL_law_785 (by decide) (fun c16 => ?_) (fun c16 => ?_)
      · rw [if_pos c16] at h
        refine lv_aload_n hx hb dL_law_838 rfl (lv_at hl 0 rfl) ?_
        obtain ⟨⟨r17, w18⟩, hr19, h⟩ := ob h
        dsimp only at h
        refine px_SL (As := [.ref (b_o 0 0)]) (rest := []) (gs := ([gO E b_o τ_o, gLW L9 (a_w 0) w_val] : List va_W)) (gr := ([gLW L9 (a_w 0) w_val] : List va_W)) (gc := ([gO E b_o τ_o] : List va_W)) (g1 := ([gO E b_o w18] : List va_W)) (g2 := ([gO E b_o w18, gLW L9 (a_w 0) w_val] : List va_W)) ⟨hx, hb, hml, hown, hts⟩ (mT_restore l hlt E X L b_o   (τ_o) r17 w18 hr19) (vx_cwSW 1 hts (wsw_s q897 q898 q17 q899) rfl rfl rfl hdS_L_restore (by rw [hR]; first | exact ⟨Nat.le_of_ble_eq_true rfl, Nat.le_of_ble_eq_true rfl⟩ | exact ⟨by show _ ≤ (977054 : Nat); omega, by show _ ≤ (6170461 : Nat); omega⟩)) hK hN hX hL hP hD hS hA [1] [0] [1, 0] rfl rfl (by decide) (by decide) rfl (by decide) rfl hl.1 rfl (Nat.le_of_ble_eq_true rfl) dL_law_839 (by rw [hR]; first | exact ⟨Nat.le_of_ble_eq_true rfl, Nat.le_of_ble_eq_true rfl⟩ | exact ⟨by show _ ≤ (977054 : Nat); omega, by show _ ≤ (6170461 : Nat); omega⟩) (fun H locs hP hD hS => ?_)
        refine W.eq (g2 := F0 m 842 ls [.int r17]) rfl ?_
        refine lv_iload hx hb dL_law_842 (lv_at hl 2 rfl) ?_
        refine lv_icmp_ne (tgt := 888) hx hb dL_law_844 (by decide) (fun c20 => ?_) (fun c20 => ?_)
        · rw [if_neg c20] at h
          refine lv_iconst (v := (nI 0)) hx hb dL_law_888 (by decide) ?_
          cases h
        · rw [if_pos c20] at h
          refine lv_aload_n hx hb dL_law_847 rfl (lv_at hl 0 rfl) ?_
          obtain ⟨⟨r21, w22⟩, hr23, h⟩ := ob h
          dsimp only at h
          refine px_SL (As := [.ref (b_o 0 0)]) (rest := []) (gs := ([gO E b_o w18, gLW L9 (a_w 0) w_val] : List va_W)) (gr := ([gLW L9 (a_w 0) w_val] : List va_W)) (gc := ([gO E b_o w18] : List va_W)) (g1 := ([gO E b_o w22] : List va_W)) (g2 := ([gO E b_o w22, gLW L9 (a_w 0) w_val] : List va_W)) ⟨hx, hb, hml, hown, hts⟩ (mT_undo l hlt E X L b_o   (w18) r21 w22 hr23) (vx_cwSW 1 hts (wsw_s q885 q886 q17 q887) rfl rfl rfl hdS_L_undo (by rw [hR]; first | exact ⟨Nat.le_of_ble_eq_true rfl, Nat.le_of_ble_eq_true rfl⟩ | exact ⟨by show _ ≤ (977054 : Nat); omega, by show _ ≤ (6170461 : Nat); omega⟩)) hK hN hX hL hP hD hS hA [1] [0] [1, 0] rfl rfl (by decide) (by decide) rfl (by decide) rfl hl.1 rfl (Nat.le_of_ble_eq_true rfl) dL_law_848 (by rw [hR]; first | exact ⟨Nat.le_of_ble_eq_true rfl, Nat.le_of_ble_eq_true rfl⟩ | exact ⟨by show _ ≤ (977054 : Nat); omega, by show _ ≤ (6170461 : Nat); omega⟩) (fun H locs hP hD hS => ?_)
          refine W.eq (g2 := F0 m 851 ls [.int r21]) rfl ?_
          refine lv_sipush (v := (-1001 : Int32)) hx hb dL_law_851 (by decide) ?_
          refine lv_icmp_ne (tgt := 888) hx hb dL_law_854 (by decide) (fun c24 => ?_) (fun c24 => ?_)
          · rw [if_neg c24] at h
            refine lv_iconst (v := (nI 0)) hx hb dL_law_888 (by decide) ?_
            cases h
          · rw [if_pos c24] at h
            refine lv_aload_n hx hb dL_law_857 rfl (lv_at hl 0 rfl) ?_
            obtain ⟨⟨r25, w26⟩, hr27, h⟩ := ob h
            dsimp only at h
            refine px_SZ (As := [.ref (b_o 0 0)]) (rest := []) (gs := ([gO E b_o w22, gLW L9 (a_w 0) w_val] : List va_W)) (gr := ([gLW L9 (a_w 0) w_val] : List va_W)) (gc := ([gO E b_o w22] : List va_W)) (g1 := ([gO E b_o w26] : List va_W)) (g2 := ([gO E b_o w26, gLW L9 (a_w 0) w_val] : List va_W)) ⟨hx, hb, hml, hown, hts⟩ (mL_asks l hlt E X L b_o   (w22) r25 w26 hr27) (va_cwS 1 hts (ws_s q942 q943 q17 q944) rfl rfl rfl hdS_L_asks (by rw [hR]; first | exact ⟨Nat.le_of_ble_eq_true rfl, Nat.le_of_ble_eq_true rfl⟩ | exact ⟨by show _ ≤ (977054 : Nat); omega, by show _ ≤ (6170461 : Nat); omega⟩)) hK hN hX hL hP hD hS hA [1] [0] [1, 0] rfl rfl (by decide) (by decide) rfl (by decide) rfl hl.1 rfl (Nat.le_of_ble_eq_true rfl) dL_law_858 (by rw [hR]; first | exact ⟨Nat.le_of_ble_eq_true rfl, Nat.le_of_ble_eq_true rfl⟩ | exact ⟨by show _ ≤ (977054 : Nat); omega, by show _ ≤ (6170461 : Nat); omega⟩) (fun H locs hP hD hS => ?_)
            refine W.eq (g2 := F0 m 861 ls [.long r25]) rfl ?_
            refine lv_lload_n hx hb dL_law_861 rfl (lv_at hl 1 rfl) ?_
            refine W.lcmp hx hb dL_law_862 ?_
            refine lv_if_ne (tgt := 888) hx hb dL_law_863 (by decide) (fun c28 => ?_) (fun c28 => ?_)
            · rw [if_neg c28] at h
              refine lv_iconst (v := (nI 0)) hx hb dL_law_888 (by decide) ?_
              cases h
            · rw [if_pos c28] at h
              refine lv_aload_n hx hb dL_law_866 rfl (lv_at hl 0 rfl) ?_
              obtain ⟨⟨r29, w30⟩, hr31, h⟩ := ob h
              dsimp only at h
              refine px_SL (As := [.ref (b_o 0 0)]) (rest := []) (gs := ([gO E b_o w26, gLW L9 (a_w 0) w_val] : List va_W)) (gr := ([gLW L9 (a_w 0) w_val] : List va_W)) (gc := ([gO E b_o w26] : List va_W)) (g1 := ([gO E b_o w30] : List va_W)) (g2 := ([gO E b_o w30, gLW L9 (a_w 0) w_val] : List va_W)) ⟨hx, hb, hml, hown, hts⟩ (mT_restore l hlt E X L b_o   (w26) r29 w30 hr31) (vx_cwSW 1 hts (wsw_s q897 q898 q17 q899) rfl rfl rfl hdS_L_restore (by rw [hR]; first | exact ⟨Nat.le_of_ble_eq_true rfl, Nat.le_of_ble_eq_true rfl⟩ | exact ⟨by show _ ≤ (977054 : Nat); omega, by show _ ≤ (6170461 : Nat); omega⟩)) hK hN hX hL hP hD hS hA [1] [0] [1, 0] rfl rfl (by decide) (by decide) rfl (by decide) rfl hl.1 rfl (Nat.le_of_ble_eq_true rfl) dL_law_867 (by rw [hR]; first | exact ⟨Nat.le_of_ble_eq_true rfl, Nat.le_of_ble_eq_true rfl⟩ | exact ⟨by show _ ≤ (977054 : Nat); omega, by show _ ≤ (6170461 : Nat); omega⟩) (fun H locs hP hD hS => ?_)
              refine W.eq (g2 := F0 m 870 ls [.int r29]) rfl ?_
              refine lv_iload hx hb dL_law_870 (lv_at hl 2 rfl) ?_
              refine lv_icmp_ne (tgt := 888) hx hb dL_law_872 (by decide) (fun c32 => ?_) (fun c32 => ?_)
              · rw [if_neg c32] at h
                refine lv_iconst (v := (nI 0)) hx hb dL_law_888 (by decide) ?_
                cases h
              · rw [if_pos c32] at h
                refine lv_aload_n hx hb dL_law_875 rfl (lv_at hl 0 rfl) ?_
                obtain ⟨⟨r33, w34⟩, hr35, h⟩ := ob h
                dsimp only at h
                refine px_SZ (As := [.ref (b_o 0 0)]) (rest := []) (gs := ([gO E b_o w30, gLW L9 (a_w 0) w_val] : List va_W)) (gr := ([gLW L9 (a_w 0) w_val] : List va_W)) (gc := ([gO E b_o w30] : List va_W)) (g1 := ([gO E b_o w34] : List va_W)) (g2 := ([gO E b_o w34, gLW L9 (a_w 0) w_val] : List va_W)) ⟨hx, hb, hml, hown, hts⟩ (mL_asks l hlt E X L b_o   (w30) r33 w34 hr35) (va_cwS 1 hts (ws_s q942 q943 q17 q944) rfl rfl rfl hdS_L_asks (by rw [hR]; first | exact ⟨Nat.le_of_ble_eq_true rfl, Nat.le_of_ble_eq_true rfl⟩ | exact ⟨by show _ ≤ (977054 : Nat); omega, by show _ ≤ (6170461 : Nat); omega⟩)) hK hN hX hL hP hD hS hA [1] [0] [1, 0] rfl rfl (by decide) (by decide) rfl (by decide) rfl hl.1 rfl (Nat.le_of_ble_eq_true rfl) dL_law_876 (by rw [hR]; first | exact ⟨Nat.le_of_ble_eq_true rfl, Nat.le_of_ble_eq_true rfl⟩ | exact ⟨by show _ ≤ (977054 : Nat); omega, by show _ ≤ (6170461 : Nat); omega⟩) (fun H locs hP hD hS => ?_)
                refine W.eq (g2 := F0 m 879 ls [.long r33]) rfl ?_
                refine lv_lload_n hx hb dL_law_879 rfl (lv_at hl 1 rfl) ?_
                refine W.lcmp hx hb dL_law_880 ?_
                refine lv_if_ne (tgt := 888) hx hb dL_law_881 (by decide) (fun c36 => ?_) (fun c36 => ?_)
                · rw [if_neg c36] at h
                  refine lv_iconst (v := (nI 0)) hx hb dL_law_888 (by decide) ?_
                  cases h
                · rw [if_pos c36] at h
                  refine lv_iconst (v := (nI 1)) hx hb dL_law_884 (by decide) ?_
                  refine lv_goto (tgt := 889) hx hb dL_law_885 (by decide) ?_
                  cases h
                  refine W.widen (k := ce + 90430) (n := sl + 542756) (by omega) (by omega) ?_
                  exact kk H locs ls hS
      · rw [if_neg c16] at h
        refine lv_aload_n hx hb dL_law_788 rfl (lv_at hl 0 rfl) ?_
        obtain ⟨⟨r37, w38⟩, hr39, h⟩ := ob h
        dsimp only at h
        refine px_SL (As := [.ref (b_o 0 0)]) (rest := []) (gs := ([gO E b_o τ_o, gLW L9 (a_w 0) w_val] : List va_W)) (gr := ([gLW L9 (a_w 0) w_val] : List va_W)) (gc := ([gO E b_o τ_o] : List va_W)) (g1 := ([gO E b_o w38] : List va_W)) (g2 := ([gO E b_o w38, gLW L9 (a_w 0) w_val] : List va_W)) ⟨hx, hb, hml, hown, hts⟩ (mT_undo l hlt E X L b_o   (τ_o) r37 w38 hr39) (vx_cwSW 1 hts (wsw_s q885 q886 q17 q887) rfl rfl rfl hdS_L_undo (by rw [hR]; first | exact ⟨Nat.le_of_ble_eq_true rfl, Nat.le_of_ble_eq_true rfl⟩ | exact ⟨by show _ ≤ (977054 : Nat); omega, by show _ ≤ (6170461 : Nat); omega⟩)) hK hN hX hL hP hD hS hA [1] [0] [1, 0] rfl rfl (by decide) (by decide) rfl (by decide) rfl hl.1 rfl (Nat.le_of_ble_eq_true rfl) dL_law_789 (by rw [hR]; first | exact ⟨Nat.le_of_ble_eq_true rfl, Nat.le_of_ble_eq_true rfl⟩ | exact ⟨by show _ ≤ (977054 : Nat); omega, by show _ ≤ (6170461 : Nat); omega⟩) (fun H locs hP hD hS => ?_)
        refine W.eq (g2 := F0 m 792 ls [.int r37]) rfl ?_
        refine lv_istore (lv' := [(10, .int r37), (2, .ref (b_o 0 0)), (3, .long x3), (5, .int x5), (6, .ref (a_w 0)), (7, .int x7), (8, .int x8), (9, .int x9)]) hx hb dL_law_792 hl (by decide) rfl (fun ls hl => ?_)
        refine lv_iload hx hb dL_law_794 (lv_at hl 0 rfl) ?_
        refine lv_iload hx hb dL_law_796 (lv_at hl 6 rfl) ?_
        refine lv_iload hx hb dL_law_798 (lv_at hl 7 rfl) ?_
        refine lv_isub hx hb dL_law_800 ?_
        refine lv_icmp_lt (tgt := 830) hx hb dL_law_801 (by decide) (fun c40 => ?_) (fun c40 => ?_)
        · rw [if_pos c40] at h
          refine lv_iconst (v := (nI 0)) hx hb dL_law_830 (by decide) ?_
          cases h
        · rw [if_neg c40] at h
          refine lv_iload hx hb dL_law_804 (lv_at hl 0 rfl) ?_
          refine lv_bipush (v := (nI 8)) hx hb dL_law_806 (by decide) ?_
          refine lv_iload hx hb dL_law_808 (lv_at hl 7 rfl) ?_
          refine lv_isub hx hb dL_law_810 ?_
          refine lv_icmp_gt (tgt := 830) hx hb dL_law_811 (by decide) (fun c41 => ?_) (fun c41 => ?_)
          · rw [if_pos c41] at h
            refine lv_iconst (v := (nI 0)) hx hb dL_law_830 (by decide) ?_
            cases h
          · rw [if_neg c41] at h
            refine lv_aload_n hx hb dL_law_814 rfl (lv_at hl 1 rfl) ?_
            obtain ⟨⟨r42, w43⟩, hr44, h⟩ := ob h
            dsimp only at h
            refine px_SZ (As := [.ref (b_o 0 0)]) (rest := []) (gs := ([gO E b_o w38, gLW L9 (a_w 0) w_val] : List va_W)) (gr := ([gLW L9 (a_w 0) w_val] : List va_W)) (gc := ([gO E b_o w38] : List va_W)) (g1 := ([gO E b_o w43] : List va_W)) (g2 := ([gO E b_o w43, gLW L9 (a_w 0) w_val] : List va_W)) ⟨hx, hb, hml, hown, hts⟩ (mL_asks l hlt E X L b_o   (w38) r42 w43 hr44) (va_cwS 1 hts (ws_s q942 q943 q17 q944) rfl rfl rfl hdS_L_asks (by rw [hR]; first | exact ⟨Nat.le_of_ble_eq_true rfl, Nat.le_of_ble_eq_true rfl⟩ | exact ⟨by show _ ≤ (977054 : Nat); omega, by show _ ≤ (6170461 : Nat); omega⟩)) hK hN hX hL hP hD hS hA [1] [0] [1, 0] rfl rfl (by decide) (by decide) rfl (by decide) rfl hl.1 rfl (Nat.le_of_ble_eq_true rfl) dL_law_815 (by rw [hR]; first | exact ⟨Nat.le_of_ble_eq_true rfl, Nat.le_of_ble_eq_true rfl⟩ | exact ⟨by show _ ≤ (977054 : Nat); omega, by show _ ≤ (6170461 : Nat); omega⟩) (fun H locs hP hD hS => ?_)
            refine W.eq (g2 := F0 m 818 ls [.long r42]) rfl ?_
            refine lv_aload hx hb dL_law_818 (lv_at hl 4 rfl) ?_
            refine lv_iload hx hb dL_law_820 (lv_at hl 5 rfl) ?_
            refine lv_iload hx hb dL_law_822 (lv_at hl 7 rfl) ?_
            refine lv_isub hx hb dL_law_824 ?_
            obtain ⟨i45, h⟩ := o_t h
            refine va_lald (f := w_val) hx hb hKL hP 113 3 rfl rfl (inb_in i45) dL_law_825 ?_
            refine W.lcmp hx hb dL_law_826 ?_
            refine lv_if_eq (tgt := 832) hx hb dL_law_827 (by decide) (fun c46 => ?_) (fun c46 => ?_)
            · rw [if_pos c46] at h
              refine lv_iinc (v := (x9 + nI 1)) (lv' := [(9, .int (x9 + nI 1)), (10, .int r37), (2, .ref (b_o 0 0)), (3, .long x3), (5, .int x5), (6, .ref (a_w 0)), (7, .int x7), (8, .int x8)]) hx hb dL_law_832 hl (k := 7) rfl rfl (by decide) rfl (fun ls hl => ?_)
              refine lv_goto (tgt := 781) hx hb dL_law_835 (by decide) ?_
              exact ih (x3) (x5) (x7) (x8) ((x9 + nI 1)) (w43) (w_val) _ _ (by omega) (by omega) H locs ls hP hD hS (lv_sub hl [2, 3, 4, 5, 6, 7, 0] rfl) h
            · rw [if_neg c46] at h
              refine lv_iconst (v := (nI 0)) hx hb dL_law_830 (by decide) ?_
              cases h
  have L702 : ∀ (n : Nat) (x3 : Int64) (x5 : Int32) (x7 : Int32) (x8 : Int32) (τ_o : TO) (w_val : (Nat → Int64)) (cc ss : Nat), cc + n * 5343 + 31657 ≤ ce + 90430 → ss + n * 32074 + 189942 ≤ sl + 542756 → ∀ (H : Heap) (locs : List Loc) (ls : Array Slot), va_P E.1 vwCl ([gO E b_o τ_o, gLW L9 (a_w 0) w_val] : List va_W).flatten H → va_D A ([gO E b_o τ_o, gLW L9 (a_w 0) w_val] : List va_W).flatten → va_S A s.heap H locs → lv_has ls 11 [(0, .ref L.1.1), (2, .ref (b_o 0 0)), (3, .long x3), (5, .int x5), (6, .ref (a_w 0)), (7, .int x7), (8, .int x8)] → fw_w_L702 L n x3 x5 x7 x8 τ_o w_val = some () → W p l e R s m args below meth c H locs cc ss Q (F0 m 702 ls []) := by
    intro n
    induction n with
    | zero =>
      intro x3 x5 x7 x8 τ_o w_val cc ss hcc hss H locs ls hP hD hS hl h
      unfold fw_w_L702 at h; cases h
    | succ n ih =>
      intro x3 x5 x7 x8 τ_o w_val cc ss hcc hss H locs ls hP hD hS hl h
      unfold fw_w_L702 at h
      refine lv_iload hx hb dL_law_702 (lv_at hl 6 rfl) ?_
      refine lv_bipush (v := (nI 10)) hx hb dL_law_704 (by decide) ?_
      refine lv_icmp_ge (tgt := 769) hx hb dL_law_706 (by decide) (fun c1 => ?_) (fun c1 => ?_)
      · rw [if_pos c1] at h
        refine lv_bipush (v := (nI 8)) hx hb dL_law_769 (by decide) ?_
        refine lv_iload hx hb dL_law_771 (lv_at hl 5 rfl) ?_
        refine va_mmin hx hb (hml.trans hl.1.symm) hown (hts _ q1429) (hts _ q352) (hts _ q32) (hts _ q353) (by rw [hR]; first | exact Nat.le_of_ble_eq_true rfl | (dsimp only; omega)) (by rw [hR]; first | exact Nat.le_of_ble_eq_true rfl | (dsimp only; omega)) (by rw [hR]; first | exact Nat.le_of_ble_eq_true rfl | (dsimp only; omega)) (by rw [hR]; first | exact Nat.le_of_ble_eq_true rfl | (dsimp only; omega)) dL_law_773 ?_
        refine lv_istore (lv' := [(8, .int (if x7 < (nI 8) then x7 else (nI 8))), (0, .ref L.1.1), (2, .ref (b_o 0 0)), (3, .long x3), (5, .int x5), (6, .ref (a_w 0)), (7, .int x7)]) hx hb dL_law_776 hl (by decide) rfl (fun ls hl => ?_)
        refine lv_iconst (v := (nI 1)) hx hb dL_law_778 (by decide) ?_
        refine lv_istore (lv' := [(9, .int (nI 1)), (8, .int (if x7 < (nI 8) then x7 else (nI 8))), (0, .ref L.1.1), (2, .ref (b_o 0 0)), (3, .long x3), (5, .int x5), (6, .ref (a_w 0)), (7, .int x7)]) hx hb dL_law_779 hl (by decide) rfl (fun ls hl => ?_)
        exact L781 10 (x3) (x5) (x7) ((if x7 < (nI 8) then x7 else (nI 8))) ((nI 1)) (τ_o) (w_val) _ _ (by omega) (by omega) H locs ls hP hD hS (lv_sub hl [3, 4, 5, 6, 7, 1, 0] rfl) h
      · rw [if_neg c1] at h
        refine lv_aload_n hx hb dL_law_709 rfl (lv_at hl 1 rfl) ?_
        obtain ⟨⟨r2, w3⟩, hr4, h⟩ := ob h
        dsimp only at h
        refine px_SZ (As := [.ref (b_o 0 0)]) (rest := []) (gs := ([gO E b_o τ_o, gLW L9 (a_w 0) w_val] : List va_W)) (gr := ([gLW L9 (a_w 0) w_val] : List va_W)) (gc := ([gO E b_o τ_o] : List va_W)) (g1 := ([gO E b_o w3] : List va_W)) (g2 := ([gO E b_o w3, gLW L9 (a_w 0) w_val] : List va_W)) ⟨hx, hb, hml, hown, hts⟩ (mL_asks l hlt E X L b_o   (τ_o) r2 w3 hr4) (va_cwS 1 hts (ws_s q942 q943 q17 q944) rfl rfl rfl hdS_L_asks (by rw [hR]; first | exact ⟨Nat.le_of_ble_eq_true rfl, Nat.le_of_ble_eq_true rfl⟩ | exact ⟨by show _ ≤ (977054 : Nat); omega, by show _ ≤ (6170461 : Nat); omega⟩)) hK hN hX hL hP hD hS hA [1] [0] [1, 0] rfl rfl (by decide) (by decide) rfl (by decide) rfl hl.1 rfl (Nat.le_of_ble_eq_true rfl) dL_law_710 (by rw [hR]; first | exact ⟨Nat.le_of_ble_eq_true rfl, Nat.le_of_ble_eq_true rfl⟩ | exact ⟨by show _ ≤ (977054 : Nat); omega, by show _ ≤ (6170461 : Nat); omega⟩) (fun H locs hP hD hS => ?_)
        refine W.eq (g2 := F0 m 713 ls [.long r2]) rfl ?_
        refine lv_lstore (lv' := [(9, .long r2), (0, .ref L.1.1), (2, .ref (b_o 0 0)), (3, .long x3), (5, .int x5), (6, .ref (a_w 0)), (7, .int x7), (8, .int x8)]) hx hb dL_law_713 hl (by decide) rfl (fun ls hl => ?_)
        refine lv_aload_n hx hb dL_law_715 rfl (lv_at hl 2 rfl) ?_
        refine lv_aload_n hx hb dL_law_716 rfl (lv_at hl 1 rfl) ?_
        refine lv_bipush (v := (nI 20)) hx hb dL_law_717 (by decide) ?_
        refine lv_iload hx hb dL_law_719 (lv_at hl 7 rfl) ?_
        refine lv_iadd hx hb dL_law_721 ?_
        obtain ⟨r5, hr6, h⟩ := ob h
        refine px_SZ (As := [.ref L.1.1, .int ((nI 20) + x8)]) (rest := [.ref (b_o 0 0)]) (gs := ([gO E b_o w3, gLW L9 (a_w 0) w_val] : List va_W)) (gr := ([gO E b_o w3, gLW L9 (a_w 0) w_val] : List va_W)) (gc := ([] : List va_W)) (g1 := ([] : List va_W)) (g2 := ([gO E b_o w3, gLW L9 (a_w 0) w_val] : List va_W)) ⟨hx, hb, hml, hown, hts⟩ (mL_at l hlt E X L  (((nI 20) + x8))   r5 hr6) (va_cwS 2 hts (ws_s q267 q268 q17 q269) rfl rfl rfl hdS_L_at (by rw [hR]; first | exact ⟨Nat.le_of_ble_eq_true rfl, Nat.le_of_ble_eq_true rfl⟩ | exact ⟨by show _ ≤ (977054 : Nat); omega, by show _ ≤ (6170461 : Nat); omega⟩)) hK hN hX hL hP hD hS hA [0, 1] [] [0, 1] rfl rfl (by decide) (by decide) rfl (by decide) rfl hl.1 rfl (Nat.le_of_ble_eq_true rfl) dL_law_722 (by rw [hR]; first | exact ⟨Nat.le_of_ble_eq_true rfl, Nat.le_of_ble_eq_true rfl⟩ | exact ⟨by show _ ≤ (977054 : Nat); omega, by show _ ≤ (6170461 : Nat); omega⟩) (fun H locs hP hD hS => ?_)
        refine W.eq (g2 := F0 m 725 ls [.int r5, .ref (b_o 0 0)]) rfl ?_
        refine lv_iload hx hb dL_law_725 (lv_at hl 7 rfl) ?_
        refine lv_sipush (v := (nI 977)) hx hb dL_law_727 (by decide) ?_
        refine lv_imul hx hb dL_law_730 ?_
        refine lv_ixor hx hb dL_law_731 ?_
        obtain ⟨⟨r7, w8⟩, hr9, h⟩ := ob h
        dsimp only at h
        refine px_SZ (As := [.ref (b_o 0 0), .int (r5 ^^^ (x8 * (nI 977)))]) (rest := []) (gs := ([gO E b_o w3, gLW L9 (a_w 0) w_val] : List va_W)) (gr := ([gLW L9 (a_w 0) w_val] : List va_W)) (gc := ([gO E b_o w3] : List va_W)) (g1 := ([gO E b_o w8] : List va_W)) (g2 := ([gO E b_o w8, gLW L9 (a_w 0) w_val] : List va_W)) ⟨hx, hb, hml, hown, hts⟩ (mL_changes l hlt E X L b_o ((r5 ^^^ (x8 * (nI 977))))  (w3) r7 w8 hr9) (va_cwS 2 hts (ws_s q1157 q1158 q17 q1159) rfl rfl rfl hdS_L_changes (by rw [hR]; first | exact ⟨Nat.le_of_ble_eq_true rfl, Nat.le_of_ble_eq_true rfl⟩ | exact ⟨by show _ ≤ (977054 : Nat); omega, by show _ ≤ (6170461 : Nat); omega⟩)) hK hN hX hL hP hD hS hA [1] [0] [1, 0] rfl rfl (by decide) (by decide) rfl (by decide) rfl hl.1 rfl (Nat.le_of_ble_eq_true rfl) dL_law_732 (by rw [hR]; first | exact ⟨Nat.le_of_ble_eq_true rfl, Nat.le_of_ble_eq_true rfl⟩ | exact ⟨by show _ ≤ (977054 : Nat); omega, by show _ ≤ (6170461 : Nat); omega⟩) (fun H locs hP hD hS => ?_)
        refine W.eq (g2 := F0 m 735 ls [.int (b2i r7)]) rfl ?_
        refine lv_if_eq (tgt := 751) hx hb dL_law_735 (by decide) (fun c10 => ?_) (fun c10 => ?_)
        · rw [if_pos c10] at h
          refine lv_aload_n hx hb dL_law_751 rfl (lv_at hl 2 rfl) ?_
          obtain ⟨⟨r11, w12⟩, hr13, h⟩ := ob h
          dsimp only at h
          refine px_SZ (As := [.ref (b_o 0 0)]) (rest := []) (gs := ([gO E b_o w8, gLW L9 (a_w 0) w_val] : List va_W)) (gr := ([gLW L9 (a_w 0) w_val] : List va_W)) (gc := ([gO E b_o w8] : List va_W)) (g1 := ([gO E b_o w12] : List va_W)) (g2 := ([gO E b_o w12, gLW L9 (a_w 0) w_val] : List va_W)) ⟨hx, hb, hml, hown, hts⟩ (mL_asks l hlt E X L b_o   (w8) r11 w12 hr13) (va_cwS 1 hts (ws_s q942 q943 q17 q944) rfl rfl rfl hdS_L_asks (by rw [hR]; first | exact ⟨Nat.le_of_ble_eq_true rfl, Nat.le_of_ble_eq_true rfl⟩ | exact ⟨by show _ ≤ (977054 : Nat); omega, by show _ ≤ (6170461 : Nat); omega⟩)) hK hN hX hL hP hD hS hA [1] [0] [1, 0] rfl rfl (by decide) (by decide) rfl (by decide) rfl hl.1 rfl (Nat.le_of_ble_eq_true rfl) dL_law_752 (by rw [hR]; first | exact ⟨Nat.le_of_ble_eq_true rfl, Nat.le_of_ble_eq_true rfl⟩ | exact ⟨by show _ ≤ (977054 : Nat); omega, by show _ ≤ (6170461 : Nat); omega⟩) (fun H locs hP hD hS => ?_)
          refine W.eq (g2 := F0 m 755 ls [.long r11]) rfl ?_
          refine lv_lload hx hb dL_law_755 (lv_at hl 0 rfl) ?_
          refine W.lcmp hx hb dL_law_757 ?_
          refine lv_if_eq (tgt := 763) hx hb dL_law_758 (by decide) (fun c14 => ?_) (fun c14 => ?_)
          · rw [if_pos c14] at h
            refine lv_iinc (v := (x8 + nI 1)) (lv' := [(8, .int (x8 + nI 1)), (9, .long r2), (0, .ref L.1.1), (2, .ref (b_o 0 0)), (3, .long x3), (5, .int x5), (6, .ref (a_w 0)), (7, .int x7)]) hx hb dL_law_763 hl (k := 7) rfl rfl (by decide) rfl (fun ls hl => ?_)
            refine lv_goto (tgt := 702) hx hb dL_law_766 (by decide) ?_
            exact ih (x3) (x5) (x7) ((x8 + nI 1)) (w12) (w_val) _ _ (by omega) (by omega) H locs ls hP hD hS (lv_sub hl [2, 3, 4, 5, 6, 7, 0] rfl) h
          · rw [if_neg c14] at h
            refine lv_iconst (v := (nI 0)) hx hb dL_law_761 (by decide) ?_
            cases h
        · rw [if_neg c10] at h
          refine lv_aload hx hb dL_law_738 (lv_at hl 5 rfl) ?_
          refine lv_iload hx hb dL_law_740 (lv_at hl 6 rfl) ?_
          refine lv_iinc (v := (x7 + nI 1)) (lv' := [(7, .int (x7 + nI 1)), (9, .long r2), (0, .ref L.1.1), (2, .ref (b_o 0 0)), (3, .long x3), (5, .int x5), (6, .ref (a_w 0)), (8, .int x8)]) hx hb dL_law_742 hl (k := 6) rfl rfl (by decide) rfl (fun ls hl => ?_)
          refine lv_lload hx hb dL_law_745 (lv_at hl 1 rfl) ?_
          obtain ⟨i15, h⟩ := o_t h
          refine va_last (f := w_val) hx hb hKL hP hD hS 113 3 rfl rfl (inb_in i15) dL_law_747 (fun H locs hP hD hS => ?_)
          have hP : va_P E.1 vwCl ([gO E b_o w8, gLW L9 (a_w 0) (vp_updL w_val (x7).toNatClampNeg r2)] : List va_W).flatten H := hP
          have hD : va_D A ([gO E b_o w8, gLW L9 (a_w 0) (vp_updL w_val (x7).toNatClampNeg r2)] : List va_W).flatten := hD
          refine lv_goto (tgt := 763) hx hb dL_law_748 (by decide) ?_
          refine lv_iinc (v := (x8 + nI 1)) (lv' := [(8, .int (x8 + nI 1)), (7, .int (x7 + nI 1)), (9, .long r2), (0, .ref L.1.1), (2, .ref (b_o 0 0)), (3, .long x3), (5, .int x5), (6, .ref (a_w 0))]) hx hb dL_law_763 hl (k := 7) rfl rfl (by decide) rfl (fun ls hl => ?_)
          refine lv_goto (tgt := 702) hx hb dL_law_766 (by decide) ?_
          exact ih (x3) (x5) ((x7 + nI 1)) ((x8 + nI 1)) (w8) ((vp_updL w_val (x7).toNatClampNeg r2)) _ _ (by omega) (by omega) H locs ls hP hD hS (lv_sub hl [3, 4, 5, 6, 7, 1, 0] rfl) h
  refine lv_iconst (v := (nI 0)) hx hb dL_law_696 (by decide) ?_
  refine lv_istore (lv' := [(7, .int (nI 0)), (0, .ref L.1.1), (2, .ref (b_o 0 0)), (3, .long x3), (5, .int x5), (6, .ref (a_w 0))]) hx hb dL_law_697 hl (by decide) rfl (fun ls hl => ?_)
  refine lv_iconst (v := (nI 0)) hx hb dL_law_699 (by decide) ?_
  refine lv_istore (lv' := [(8, .int (nI 0)), (7, .int (nI 0)), (0, .ref L.1.1), (2, .ref (b_o 0 0)), (3, .long x3), (5, .int x5), (6, .ref (a_w 0))]) hx hb dL_law_700 hl (by decide) rfl (fun ls hl => ?_)
  exact L702 11 (x3) (x5) ((nI 0)) ((nI 0)) (τ_o) (w_val) _ _ (by omega) (by omega) H locs ls hP hD hS (lv_sub hl [2, 3, 4, 5, 6, 1, 0] rfl) h
end LWS
