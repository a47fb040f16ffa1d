def f1_countLost_L4 (φ : Fo) : Nat → Int32 → Int32 → Option (Int32)
  | 0, _, _ => none
  | n + 1, x1, x2 => (if (fo_branches φ) ≤ x2 then ((fJ6_bitCount_0f7a4 (x1)).bind fun r2 => (some ((fo_commits φ) - r2))) else ((f1_tipOf (x2) (φ)).bind fun r4 => ((f1_familyOf (r4) (φ)).bind fun r6 => (f1_countLost_L4 φ n ((x1 ||| r6)) ((x2 + nI 1))))))
def f1_countLost  (φ : Fo) : Option (Int32) := (f1_countLost_L4 φ fuel ((nI 0)) ((nI 0)))
set_option maxHeartbeats 4000000 in
set_option maxRecDepth 100000 in
theorem c1_countLost (l : Launch) (E : PE) (a : Nat → Nat)   (φ : Fo) (r : Int32) (h : f1_countLost φ = some r) : MP l yX1_countLost cX1_countLost 3 (some .int) { frames := 1, cells := 0, slots := 0, locals := 21 } E [.ref (a 0)] ([gX1 E a φ] : List va_W).flatten (some (.int r)) := by
  refine px_startP (by decide +kernel) (Nat.le_of_ble_eq_true rfl) ?_
  intro p e s m args below meth c R Q A ls hC hQ
  obtain ⟨hx, hb, hr, hml, hts, hown, hlocks, hR, hK, hN, hP, hD, hA, hl, hin⟩ := hC
  have hl : lv_has ls 3 [(0, .ref (a 0))] := hl
  unfold f1_countLost at h
  have L4 : ∀ (n : Nat) (x1 : Int32) (x2 : Int32) (ls : Array Slot), lv_has ls 3 [(0, .ref (a 0)), (1, .int x1), (2, .int x2)] → f1_countLost_L4 φ n x1 x2 = some r → W p l e R s m args below meth c s.heap [] 0 0 Q (F0 m 4 ls []) := by
    intro n
    induction n with
    | zero =>
      intro x1 x2 ls hl h
      unfold f1_countLost_L4 at h; cases h
    | succ n ih =>
      intro x1 x2 ls hl h
      unfold f1_countLost_L4 at h
      refine lv_iload_n hx hb dX1_countLost_4 rfl (lv_at hl 2 rfl) ?_
      refine lv_aload_n hx hb dX1_countLost_5 rfl (lv_at hl 0 rfl) ?_
      refine va_get (D := E.1) (ci := 1) (v := .int (fo_branches φ)) (C := RX1) (T := TX1) (N := 11) hx hb hts iX1 hown hK hP 0 rfl rfl 1 (by decide) (hts _ q64) (fun _ h9 => h9) rfl dX1_countLost_6 ?_
      refine lv_icmp_ge (tgt := 30) hx hb dX1_countLost_9 (by decide) (fun c1 => ?_) (fun c1 => ?_)
      · rw [if_pos c1] at h
        refine lv_aload_n hx hb dX1_countLost_30 rfl (lv_at hl 0 rfl) ?_
        refine va_get (D := E.1) (ci := 1) (v := .int (fo_commits φ)) (C := RX1) (T := TX1) (N := 11) hx hb hts iX1 hown hK hP 0 rfl rfl 0 (by decide) (hts _ q63) (fun _ h9 => h9) rfl dX1_countLost_31 ?_
        refine lv_iload_n hx hb dX1_countLost_34 rfl (lv_at hl 1 rfl) ?_
        obtain ⟨r2, hr3, h⟩ := ob h
        refine px_Sp (As := [.int x1]) (rest := [.int (fo_commits φ)]) (gs := ([gX1 E a φ] : List va_W)) (gc := ([] : List va_W)) ⟨hx, hb, hml, hown, hts⟩ (kJ6_bitCount_0f7a4 l E   (x1)  r2 hr3) (va_cwS 1 hts (ws_s q866 q541 q37 q542) rfl rfl rfl hdS_J6_bitCount_0f7a4 (by rw [hR]; exact ⟨Nat.le_of_ble_eq_true rfl, Nat.le_of_ble_eq_true rfl⟩)) hK hN hP hD [] rfl (by decide) rfl hl.1 rfl (Nat.le_of_ble_eq_true rfl) dX1_countLost_35 (by rw [hR]; exact ⟨Nat.le_of_ble_eq_true rfl, Nat.le_of_ble_eq_true rfl⟩) ?_
        refine W.eq (g2 := F0 m 38 ls [.int r2, .int (fo_commits φ)]) rfl ?_
        refine lv_isub hx hb dX1_countLost_38 ?_
        cases h
        exact px_ePi hQ hx hb hr hlocks dX1_countLost_39
      · rw [if_neg c1] at h
        refine lv_iload_n hx hb dX1_countLost_12 rfl (lv_at hl 1 rfl) ?_
        refine lv_aload_n hx hb dX1_countLost_13 rfl (lv_at hl 0 rfl) ?_
        refine lv_aload_n hx hb dX1_countLost_14 rfl (lv_at hl 0 rfl) ?_
        refine lv_iload_n hx hb dX1_countLost_15 rfl (lv_at hl 2 rfl) ?_
        obtain ⟨r4, hr5, h⟩ := ob h
        refine px_Vp (As := [.int x2]) (rest := [.ref (a 0), .int x1]) (gs := ([gX1 E a φ] : List va_W)) (gc := ([gX1 E a φ] : List va_W)) ⟨hx, hb, hml, hown, hts⟩ (c1_tipOf l E a  (x2) (φ) r4 hr5) (cwV 1 hts (ws_v q865 q295 q296 q19 q297) rfl rfl rfl hdV_X1_tipOf (by rw [hR]; exact ⟨Nat.le_of_ble_eq_true rfl, Nat.le_of_ble_eq_true rfl⟩)) hK hN hP hD [0] rfl (by decide) 0 1 rfl rfl rfl rfl hl.1 rfl (Nat.le_of_ble_eq_true rfl) dX1_countLost_16 (by rw [hR]; exact ⟨Nat.le_of_ble_eq_true rfl, Nat.le_of_ble_eq_true rfl⟩) ?_
        refine W.eq (g2 := F0 m 19 ls [.int r4, .ref (a 0), .int x1]) rfl ?_
        obtain ⟨r6, hr7, h⟩ := ob h
        refine px_Vp (As := [.int r4]) (rest := [.int x1]) (gs := ([gX1 E a φ] : List va_W)) (gc := ([gX1 E a φ] : List va_W)) ⟨hx, hb, hml, hown, hts⟩ (c1_familyOf l E a  (r4) (φ) r6 hr7) (cwV 1 hts (ws_v q327 q328 q329 q19 q330) rfl rfl rfl hdV_X1_familyOf (by rw [hR]; exact ⟨Nat.le_of_ble_eq_true rfl, Nat.le_of_ble_eq_true rfl⟩)) hK hN hP hD [0] rfl (by decide) 0 1 rfl rfl rfl rfl hl.1 rfl (Nat.le_of_ble_eq_true rfl) dX1_countLost_19 (by rw [hR]; exact ⟨Nat.le_of_ble_eq_true rfl, Nat.le_of_ble_eq_true rfl⟩) ?_
        refine W.eq (g2 := F0 m 22 ls [.int r6, .int x1]) rfl ?_
        refine lv_ior hx hb dX1_countLost_22 ?_
        refine lv_istore_n (lv' := [(1, .int (x1 ||| r6)), (0, .ref (a 0)), (2, .int x2)]) hx hb dX1_countLost_23 rfl hl (by decide) rfl (fun ls hl => ?_)
        refine lv_iinc (v := (x2 + nI 1)) (lv' := [(2, .int (x2 + nI 1)), (1, .int (x1 ||| r6)), (0, .ref (a 0))]) hx hb dX1_countLost_24 hl (k := 2) rfl rfl (by decide) rfl (fun ls hl => ?_)
        refine lv_goto (tgt := 4) hx hb dX1_countLost_27 (by decide) ?_
        exact ih ((x1 ||| r6)) ((x2 + nI 1)) ls (lv_sub hl [2, 1, 0] rfl) h
  refine lv_iconst (v := (nI 0)) hx hb dX1_countLost_0 (by decide) ?_
  refine lv_istore_n (lv' := [(1, .int (nI 0)), (0, .ref (a 0))]) hx hb dX1_countLost_1 rfl hl (by decide) rfl (fun ls hl => ?_)
  refine lv_iconst (v := (nI 0)) hx hb dX1_countLost_2 (by decide) ?_
  refine lv_istore_n (lv' := [(2, .int (nI 0)), (1, .int (nI 0)), (0, .ref (a 0))]) hx hb dX1_countLost_3 rfl hl (by decide) rfl (fun ls hl => ?_)
  exact L4 fuel ((nI 0)) ((nI 0)) ls (lv_sub hl [2, 1, 0] rfl) h
