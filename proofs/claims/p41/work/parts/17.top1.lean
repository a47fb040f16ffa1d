def f8_bitsOf_L15 (x0 : UInt32) : Nat → UInt32 → Int32 → Int32 → Option (Int32)
  | 0, _, _, _ => none
  | n + 1, x1, x2, x3 => (if (nI 126) ≤ x3 then (if nn32 (FP.fsub x1 FP.fconst1) = true then (if nn32 (FP.fmul (FP.fsub x1 FP.fconst1) (1258291200 : UInt32)) = true then (some ((x2 <<< ((nI 23) &&& 31)) ||| (FP.f2i (FP.fmul (FP.fsub x1 FP.fconst1) (1258291200 : UInt32))))) else none) else none) else (if 0 ≤ (Op.cmpValue (FP.fcmp x1 FP.fconst1) CmpOp.g) then (if nn32 (FP.fsub x1 FP.fconst1) = true then (if nn32 (FP.fmul (FP.fsub x1 FP.fconst1) (1258291200 : UInt32)) = true then (some ((x2 <<< ((nI 23) &&& 31)) ||| (FP.f2i (FP.fmul (FP.fsub x1 FP.fconst1) (1258291200 : UInt32))))) else none) else none) else (if nn32 (FP.fmul x1 FP.fconst2) = true then (f8_bitsOf_L15 x0 n ((FP.fmul x1 FP.fconst2)) ((x2 + (-1))) ((x3 + nI 1))) else none)))
def f8_bitsOf (x0 : UInt32)  : Option (Int32) := (if 0 < (Op.cmpValue (FP.fcmp x0 FP.fconst0) CmpOp.l) then (f8_bitsOf_L15 x0 fuel (x0) ((nI 127)) ((nI 0))) else (some (nI 0)))
set_option maxHeartbeats 4000000 in
set_option maxRecDepth 100000 in
theorem c8_bitsOf (l : Launch) (E : PE)   (x0 : UInt32)  (r : Int32) (h : f8_bitsOf x0 = some r) : MP l yX8_bitsOf cX8_bitsOf 4 (some .int) { frames := 0, cells := 0, slots := 0, locals := 0 } E [.float x0] ([] : List va_W).flatten (some (.int r)) := by
  refine px_startP (by decide +kernel) (Nat.le_of_ble_eq_true rfl) ?_
  intro p e s m args below meth c R Q A ls hC hQ
  obtain ⟨hx, hb, hr, hml, hts, hown, hlocks, hR, hK, hN, hP, hD, hA, hl, hin⟩ := hC
  have hl : lv_has ls 4 [(0, .float x0)] := hl
  unfold f8_bitsOf at h
  have L15 : ∀ (n : Nat) (x1 : UInt32) (x2 : Int32) (x3 : Int32) (ls : Array Slot), lv_has ls 4 [(1, .float x1), (2, .int x2), (3, .int x3)] → f8_bitsOf_L15 x0 n x1 x2 x3 = some r → W p l e R s m args below meth c s.heap [] 0 0 Q (F0 m 15 ls []) := by
    intro n
    induction n with
    | zero =>
      intro x1 x2 x3 ls hl h
      unfold f8_bitsOf_L15 at h; cases h
    | succ n ih =>
      intro x1 x2 x3 ls hl h
      unfold f8_bitsOf_L15 at h
      refine lv_iload_n hx hb dX8_bitsOf_15 rfl (lv_at hl 2 rfl) ?_
      refine lv_bipush (v := (nI 126)) hx hb dX8_bitsOf_16 (by decide) ?_
      refine lv_icmp_ge (tgt := 40) hx hb dX8_bitsOf_18 (by decide) (fun c2 => ?_) (fun c2 => ?_)
      · rw [if_pos c2] at h
        refine lv_fload_n hx hb dX8_bitsOf_40 rfl (lv_at hl 0 rfl) ?_
        refine lv_fconst1 hx hb dX8_bitsOf_41 ?_
        obtain ⟨i3, h⟩ := o_t h
        refine lv_fsub hx hb dX8_bitsOf_42 (nn32_ok i3) ?_
        refine px_ldcwf (v := 1258291200) hx hb hown (hts _ q1015) dX8_bitsOf_43 ?_
        obtain ⟨i4, h⟩ := o_t h
        refine lv_fmul hx hb dX8_bitsOf_46 (nn32_ok i4) ?_
        refine lv_f2i hx hb dX8_bitsOf_47 ?_
        refine lv_istore_n (lv' := [(3, .int (FP.f2i (FP.fmul (FP.fsub x1 FP.fconst1) (1258291200 : UInt32)))), (1, .float x1), (2, .int x2)]) hx hb dX8_bitsOf_48 rfl hl (by decide) rfl (fun ls hl => ?_)
        refine lv_iload_n hx hb dX8_bitsOf_49 rfl (lv_at hl 2 rfl) ?_
        refine lv_bipush (v := (nI 23)) hx hb dX8_bitsOf_50 (by decide) ?_
        refine lv_ishl hx hb dX8_bitsOf_52 ?_
        refine lv_iload_n hx hb dX8_bitsOf_53 rfl (lv_at hl 0 rfl) ?_
        refine lv_ior hx hb dX8_bitsOf_54 ?_
        cases h
        exact px_ePi hQ hx hb hr hlocks dX8_bitsOf_55
      · rw [if_neg c2] at h
        refine lv_fload_n hx hb dX8_bitsOf_21 rfl (lv_at hl 0 rfl) ?_
        refine lv_fconst1 hx hb dX8_bitsOf_22 ?_
        refine lv_fcmp hx hb dX8_bitsOf_23 ?_
        refine lv_if_ge (tgt := 40) hx hb dX8_bitsOf_24 (by decide) (fun c5 => ?_) (fun c5 => ?_)
        · rw [if_pos c5] at h
          refine lv_fload_n hx hb dX8_bitsOf_40 rfl (lv_at hl 0 rfl) ?_
          refine lv_fconst1 hx hb dX8_bitsOf_41 ?_
          obtain ⟨i6, h⟩ := o_t h
          refine lv_fsub hx hb dX8_bitsOf_42 (nn32_ok i6) ?_
          refine px_ldcwf (v := 1258291200) hx hb hown (hts _ q1015) dX8_bitsOf_43 ?_
          obtain ⟨i7, h⟩ := o_t h
          refine lv_fmul hx hb dX8_bitsOf_46 (nn32_ok i7) ?_
          refine lv_f2i hx hb dX8_bitsOf_47 ?_
          refine lv_istore_n (lv' := [(3, .int (FP.f2i (FP.fmul (FP.fsub x1 FP.fconst1) (1258291200 : UInt32)))), (1, .float x1), (2, .int x2)]) hx hb dX8_bitsOf_48 rfl hl (by decide) rfl (fun ls hl => ?_)
          refine lv_iload_n hx hb dX8_bitsOf_49 rfl (lv_at hl 2 rfl) ?_
          refine lv_bipush (v := (nI 23)) hx hb dX8_bitsOf_50 (by decide) ?_
          refine lv_ishl hx hb dX8_bitsOf_52 ?_
          refine lv_iload_n hx hb dX8_bitsOf_53 rfl (lv_at hl 0 rfl) ?_
          refine lv_ior hx hb dX8_bitsOf_54 ?_
          cases h
          exact px_ePi hQ hx hb hr hlocks dX8_bitsOf_55
        · rw [if_neg c5] at h
          refine lv_fload_n hx hb dX8_bitsOf_27 rfl (lv_at hl 0 rfl) ?_
          refine lv_fconst2 hx hb dX8_bitsOf_28 ?_
          obtain ⟨i8, h⟩ := o_t h
          refine lv_fmul hx hb dX8_bitsOf_29 (nn32_ok i8) ?_
          refine lv_fstore_n (lv' := [(1, .float (FP.fmul x1 FP.fconst2)), (2, .int x2), (3, .int x3)]) hx hb dX8_bitsOf_30 rfl hl (by decide) rfl (fun ls hl => ?_)
          refine lv_iinc (v := (x2 + (-1))) (lv' := [(2, .int (x2 + (-1))), (1, .float (FP.fmul x1 FP.fconst2)), (3, .int x3)]) hx hb dX8_bitsOf_31 hl (k := 1) rfl rfl (by decide) rfl (fun ls hl => ?_)
          refine lv_iinc (v := (x3 + nI 1)) (lv' := [(3, .int (x3 + nI 1)), (2, .int (x2 + (-1))), (1, .float (FP.fmul x1 FP.fconst2))]) hx hb dX8_bitsOf_34 hl (k := 2) rfl rfl (by decide) rfl (fun ls hl => ?_)
          refine lv_goto (tgt := 15) hx hb dX8_bitsOf_37 (by decide) ?_
          exact ih ((FP.fmul x1 FP.fconst2)) ((x2 + (-1))) ((x3 + nI 1)) ls (lv_sub hl [2, 1, 0] rfl) h
  refine lv_fload_n hx hb dX8_bitsOf_0 rfl (lv_at hl 0 rfl) ?_
  refine lv_fconst0 hx hb dX8_bitsOf_1 ?_
  refine lv_fcmp hx hb dX8_bitsOf_2 ?_
  refine lv_if_gt (tgt := 8) hx hb dX8_bitsOf_3 (by decide) (fun c1 => ?_) (fun c1 => ?_)
  · rw [if_pos c1] at h
    refine lv_fload_n hx hb dX8_bitsOf_8 rfl (lv_at hl 0 rfl) ?_
    refine lv_fstore_n (lv' := [(1, .float x0), (0, .float x0)]) hx hb dX8_bitsOf_9 rfl hl (by decide) rfl (fun ls hl => ?_)
    refine lv_bipush (v := (nI 127)) hx hb dX8_bitsOf_10 (by decide) ?_
    refine lv_istore_n (lv' := [(2, .int (nI 127)), (1, .float x0), (0, .float x0)]) hx hb dX8_bitsOf_12 rfl hl (by decide) rfl (fun ls hl => ?_)
    refine lv_iconst (v := (nI 0)) hx hb dX8_bitsOf_13 (by decide) ?_
    refine lv_istore_n (lv' := [(3, .int (nI 0)), (2, .int (nI 127)), (1, .float x0), (0, .float x0)]) hx hb dX8_bitsOf_14 rfl hl (by decide) rfl (fun ls hl => ?_)
    exact L15 fuel (x0) ((nI 127)) ((nI 0)) ls (lv_sub hl [2, 1, 0] rfl) h
  · rw [if_neg c1] at h
    refine lv_iconst (v := (nI 0)) hx hb dX8_bitsOf_6 (by decide) ?_
    cases h
    exact px_ePi hQ hx hb hr hlocks dX8_bitsOf_7
