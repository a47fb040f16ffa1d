/-! signs and digits of a text -/
section MW
variable {p q rows told : AI} {x x1 x2 x3 col : Int32} {n m k pos cnt j e : Nat}
def dg (x : Int32) : Bool := decide (¬ x < nI 48 ∧ ¬ nI 57 < x)
theorem f6_isDigit_e : f6_isDigit x = some (dg x) := by
  unfold f6_isDigit dg
  by_cases a : x < nI 48
  · rw [if_pos a, decide_eq_false (fun q => q.1 a)]
  · rw [if_neg a]
    by_cases b : nI 57 < x
    · rw [if_pos b, decide_eq_false (fun q => q.2 b)]
    · rw [if_neg b, decide_eq_true ⟨a, b⟩]
theorem f9_in_dg : f9_in x (nI 48) (nI 57) = some (dg x) := by
  unfold f9_in dg
  by_cases a : x < nI 48
  · rw [if_pos a, decide_eq_false (fun q => q.1 a)]
  · rw [if_neg a]
    by_cases b : nI 57 < x
    · rw [if_pos b, decide_eq_false (fun q => q.2 b)]
    · rw [if_neg b, decide_eq_true ⟨a, b⟩]
theorem dg_m : dg (-1) = false := by decide +kernel
theorem sg_in (hn : n ≤ 60) (hp : pos < n) : f3_signAt (nI pos) p (nI n) = some (ch (p pos)) := by
  unfold f3_signAt
  rw [if_neg (by rw [nJ_lt0 (by omega)]; exact fun q => q), if_neg (by rw [nJ_le (by omega) (by omega)]; omega), if_neg (by rw [nJ_le (by omega) (by omega)]; omega), inb_t (by omega) (by omega), if_pos rfl, nJ_nat (by omega)]
theorem sg_out (hn : n ≤ 60) (hp : n ≤ pos) (hp2 : pos < 1000) : f3_signAt (nI pos) p (nI n) = some (-1) := by
  unfold f3_signAt
  rw [if_neg (by rw [nJ_lt0 (by omega)]; exact fun q => q), if_pos (by rw [nJ_le (by omega) (by omega)]; omega)]
theorem store_e (hc : cnt ≤ 20) (hj : j < 4) : f6_store x rows (nI cnt) (nI j) = some (upd rows (4 * cnt + j) x, nI (j + 1)) := by
  unfold f6_store
  rw [nJ_mul, nI_add, if_neg (by rw [nJ_lt0 (by omega)]; exact fun q => q), if_neg (by rw [nJ_le (by omega) (by omega)]; omega), inb_t (by omega) (by omega), if_pos rfl, lt_eq, lt_eq, nJ_nat (by omega), nI_add, Nat.mul_comm]
/-- one sign that stands for itself -/
theorem sig_2 (hn : n ≤ 60) (hp : pos ≤ n) (hT : ∀ i, i < n → ch (p i) = ch (q i)) (he : ch (nI e) = nI e) (he2 : e < 100) (h49 : ¬ nI e = nI 49) (h50 : ¬ nI e = nI 50) :
    (pos < n ∧ (∀ rows cn col, f6_parseSign (nI e) rows cn (nI pos) col p (nI n) = some (true, rows, nI (pos + 1), col)) ∧ f9_sign (nI e) q (nI n) (nI pos) = some (true, nI (pos + 1))) ∨
    ((∀ rows cn col, f6_parseSign (nI e) rows cn (nI pos) col p (nI n) = some (false, rows, nI pos, col)) ∧ f9_sign (nI e) q (nI n) (nI pos) = some (false, nI pos)) := by
  unfold f6_parseSign f9_sign
  rw [he]
  by_cases h : pos < n
  · have hc := hT pos h
    rw [if_neg (by rw [nJ_eq (by omega) (by omega)]; omega), inb_t (by omega) (by omega), if_pos rfl, nJ_nat (by omega), sg_in hn h, ← hc, lt_eq, nI_add]
    by_cases e2 : ch (p pos) = nI e
    · left
      refine ⟨h, fun rows cn col => ?_, by rw [if_pos e2]⟩
      rw [bnd, if_neg h49, if_neg h50, if_pos e2, lt_eq]
    · right
      refine ⟨fun rows cn col => ?_, by rw [if_neg e2]⟩
      rw [bnd, if_neg h49, if_neg h50, if_neg e2]
  · right
    have : pos = n := by omega
    subst this
    rw [if_pos rfl, sg_out hn (by omega) (by omega)]
    refine ⟨fun rows cn col => ?_, rfl⟩
    rw [bnd, if_neg h49, if_neg h50, if_neg (by rw [nJ_meq (by omega)]; exact fun q => q)]
theorem zero_ad (y z : Int32) : nI 10 * nI 0 + y - z = y - z := by
  rw [show nI 10 * nI 0 = 0 by decide, Int32.zero_add]
theorem two_ad (y z : Int32) : nI 10 * (y - nI 48) + z - nI 48 = (y - nI 48) * nI 10 + z - nI 48 := by rw [Int32.mul_comm]
theorem dig_no (hn : n ≤ 60) (hk : k < 3) {mm : Nat} (hm : mm = 1 ∨ mm = 2) (h : pos = n ∨ (pos < n ∧ dg (ch (q pos)) = false)) : ∃ told', f9_digits (nI k) (nI mm) q (nI n) (nI pos) told = some (false, nI pos, told') := by
  refine ⟨upd told k (nI 0), ?_⟩
  unfold f9_digits
  rw [inb_t hk (by omega), if_pos rfl, lt_eq, nJ_nat (by omega), show fuel = 1999 + 1 from rfl, f9_digits_L9, if_neg (by rw [nJ_le (by omega) (by omega)]; omega)]
  rcases h with rfl | ⟨h1, h2⟩
  · rw [if_pos (by rw [nJ_le (by omega) (by omega)]; omega), if_pos (show nI 0 ≤ 0 by decide)]
  · rw [if_neg (by rw [nJ_le (by omega) (by omega)]; omega), inb_t (by omega) (by omega), if_pos rfl, nJ_nat (by omega), f9_in_dg, bnd, h2, if_pos b2iF, if_pos (show nI 0 ≤ 0 by decide)]
theorem dig_step (hn : n ≤ 60) (hk : k < 3) {mm u f : Nat} (hm : mm ≤ 2) (hu : u < mm) (h1 : pos < n) (h2 : dg (ch (q pos)) = true) : f9_digits_L9 (nI k) (nI mm) q (nI n) (f + 1) (nI u) (nI pos) told = f9_digits_L9 (nI k) (nI mm) q (nI n) f (nI (u + 1)) (nI (pos + 1)) (upd told k (nI 10 * told k + ch (q pos) - nI 48)) := by
  rw [f9_digits_L9, if_neg (by rw [nJ_le (by omega) (by omega)]; omega), if_neg (by rw [nJ_le (by omega) (by omega)]; omega), inb_t (by omega) (by omega), if_pos rfl, nJ_nat (by omega), f9_in_dg, bnd, h2, if_neg b2iT, inb_t (by omega) (by omega), if_pos rfl, lt_eq, if_pos rfl, if_pos rfl, lt_eq, nJ_nat (by omega), nI_add, nI_add]
theorem dig_end {mm u f : Nat} (hm : mm ≤ 2) (hu : 0 < u) (hu2 : u ≤ 2) (h : mm ≤ u ∨ (n ≤ pos ∧ n ≤ 60 ∧ pos < 100) ∨ (n ≤ 60 ∧ pos < n ∧ dg (ch (q pos)) = false)) : f9_digits_L9 (nI k) (nI mm) q (nI n) (f + 1) (nI u) (nI pos) told = some (true, nI pos, told) := by
  have h0 : ¬ nI u ≤ 0 := by rw [nJ_le0 (by omega)]; omega
  rw [f9_digits_L9]
  by_cases a : mm ≤ u
  · rw [if_pos (by rw [nJ_le (by omega) (by omega)]; omega), if_neg h0]
  · rw [if_neg (by rw [nJ_le (by omega) (by omega)]; omega)]
    rcases h with h | ⟨h1, h2, h3⟩ | ⟨h1, h2, h3⟩
    · exact absurd h a
    · rw [if_pos (by rw [nJ_le (by omega) (by omega)]; omega), if_neg h0]
    · rw [if_neg (by rw [nJ_le (by omega) (by omega)]; omega), inb_t (by omega) (by omega), if_pos rfl, nJ_nat (by omega), f9_in_dg, bnd, h3, if_pos b2iF, if_neg h0]
def DIG (p q : AI) (n k mm cnt pos : Nat) : Prop :=
  (∃ v pos', pos < pos' ∧ pos' ≤ n ∧ (∀ rows, f6_parseSign (nI (48 + mm)) rows (nI cnt) (nI pos) (nI (1 + k)) p (nI n) = some (true, upd rows (4 * cnt + (1 + k)) v, nI pos', nI (1 + k + 1))) ∧ ∀ told, ∃ told', f9_digits (nI k) (nI mm) q (nI n) (nI pos) told = some (true, nI pos', told') ∧ told' k = v ∧ ∀ j, j ≠ k → told' j = told j) ∨
  ((∀ rows, f6_parseSign (nI (48 + mm)) rows (nI cnt) (nI pos) (nI (1 + k)) p (nI n) = some (false, rows, nI pos, nI (1 + k))) ∧ ∀ told, ∃ told', f9_digits (nI k) (nI mm) q (nI n) (nI pos) told = some (false, nI pos, told'))
theorem ps_no {mm : Nat} (hm : mm = 1 ∨ mm = 2) {r1 : Int32} (hs : f3_signAt (nI pos) p (nI n) = some r1) (hd : dg r1 = false) : f6_parseSign (nI (48 + mm)) rows x (nI pos) col p (nI n) = some (false, rows, nI pos, col) := by
  unfold f6_parseSign
  rcases hm with rfl | rfl
  · rw [hs, bnd, show ch (nI (48 + 1)) = nI 49 by decide +kernel, if_pos rfl, f6_isDigit_e, bnd, hd, if_pos b2iF]
  · rw [hs, bnd, show ch (nI (48 + 2)) = nI 50 by decide +kernel, if_neg (show ¬ nI 50 = nI 49 by decide), if_pos rfl, f6_isDigit_e, bnd, hd, if_pos b2iF]
theorem dig_2 (hn : n ≤ 60) (hp : pos ≤ n) (hT : ∀ i, i < n → ch (p i) = ch (q i)) (hk : k < 3) (hc : cnt ≤ 20) {mm : Nat} (hm : mm = 1 ∨ mm = 2) : DIG p q n k mm cnt pos := by
  by_cases h : pos < n
  · have hc0 := hT pos h
    cases hd : dg (ch (q pos)) with
    | false =>
      right
      exact ⟨fun rows => ps_no hm (sg_in hn h) (by rw [hc0]; exact hd), fun told => dig_no hn hk hm (Or.inr ⟨h, hd⟩)⟩
    | true =>
      left
      have hd1 : dg (ch (p pos)) = true := by rw [hc0]; exact hd
      have hk2 : (nI k).toNatClampNeg = k := nJ_nat (by omega)
      rcases hm with rfl | rfl
      · refine ⟨ch (q pos) - nI 48, pos + 1, by omega, by omega, fun rows => ?_, fun told => ⟨upd (upd told k (nI 0)) k (ch (q pos) - nI 48), ?_, upd_s _ _ _, fun j hj => ?_⟩⟩
        · unfold f6_parseSign
          have hsg : ∃ r9, f3_signAt (nI (pos + 1)) p (nI n) = some r9 := by
            by_cases h2 : pos + 1 < n
            · exact ⟨_, sg_in hn h2⟩
            · exact ⟨_, sg_out hn (by omega) (by omega)⟩
          obtain ⟨r9, hsg⟩ := hsg
          rw [sg_in hn h, bnd, show ch (nI (48 + 1)) = nI 49 by decide +kernel, if_pos rfl, f6_isDigit_e, bnd, hd1, if_neg b2iT, lt_eq, nI_add, hsg, bnd, if_neg (show ¬ nI 49 = nI 50 by decide), store_e hc (by omega), bnd, hc0]
        · unfold f9_digits
          rw [inb_t hk (by omega), if_pos rfl, lt_eq, hk2, show fuel = 1998 + 1 + 1 from rfl, dig_step hn hk (by omega) (by omega) h hd, dig_end (by omega) (by omega) (by omega) (Or.inl (by omega)), upd_s, zero_ad]
        · rw [upd_n _ _ hj, upd_n _ _ hj]
      · by_cases h2 : pos + 1 < n
        · have hc1 := hT (pos + 1) h2
          cases hd2 : dg (ch (q (pos + 1))) with
          | false =>
            refine ⟨ch (q pos) - nI 48, pos + 1, by omega, by omega, fun rows => ?_, fun told => ⟨upd (upd told k (nI 0)) k (ch (q pos) - nI 48), ?_, upd_s _ _ _, fun j hj => ?_⟩⟩
            · unfold f6_parseSign
              rw [sg_in hn h, bnd, show ch (nI (48 + 2)) = nI 50 by decide +kernel, if_neg (show ¬ nI 50 = nI 49 by decide), if_pos rfl, f6_isDigit_e, bnd, hd1, if_neg b2iT, lt_eq, nI_add, sg_in hn h2, bnd, if_pos rfl, f6_isDigit_e, bnd, hc1, hd2, if_pos b2iF, store_e hc (by omega), bnd, hc0]
            · unfold f9_digits
              rw [inb_t hk (by omega), if_pos rfl, lt_eq, hk2, show fuel = 1998 + 1 + 1 from rfl, dig_step hn hk (by omega) (by omega) h hd, dig_end (by omega) (by omega) (by omega) (Or.inr (Or.inr ⟨hn, h2, hd2⟩)), upd_s, zero_ad]
            · rw [upd_n _ _ hj, upd_n _ _ hj]
          | true =>
            refine ⟨(ch (q pos) - nI 48) * nI 10 + ch (q (pos + 1)) - nI 48, pos + 1 + 1, by omega, by omega, fun rows => ?_, fun told => ⟨upd (upd (upd told k (nI 0)) k (ch (q pos) - nI 48)) k ((ch (q pos) - nI 48) * nI 10 + ch (q (pos + 1)) - nI 48), ?_, upd_s _ _ _, fun j hj => ?_⟩⟩
            · unfold f6_parseSign
              rw [sg_in hn h, bnd, show ch (nI (48 + 2)) = nI 50 by decide +kernel, if_neg (show ¬ nI 50 = nI 49 by decide), if_pos rfl, f6_isDigit_e, bnd, hd1, if_neg b2iT, lt_eq, nI_add, sg_in hn h2, bnd, if_pos rfl, f6_isDigit_e, bnd, hc1, hd2, if_neg b2iT, lt_eq, store_e hc (by omega), bnd, hc0, nI_add]
            · unfold f9_digits
              rw [inb_t hk (by omega), if_pos rfl, lt_eq, hk2, show fuel = 1997 + 1 + 1 + 1 from rfl, dig_step hn hk (by omega) (by omega) h hd, dig_step hn hk (by omega) (by omega) h2 hd2, dig_end (by omega) (by omega) (by omega) (Or.inl (by omega)), upd_s, upd_s, zero_ad, two_ad]
            · rw [upd_n _ _ hj, upd_n _ _ hj, upd_n _ _ hj]
        · refine ⟨ch (q pos) - nI 48, pos + 1, by omega, by omega, fun rows => ?_, fun told => ⟨upd (upd told k (nI 0)) k (ch (q pos) - nI 48), ?_, upd_s _ _ _, fun j hj => ?_⟩⟩
          · unfold f6_parseSign
            rw [sg_in hn h, bnd, show ch (nI (48 + 2)) = nI 50 by decide +kernel, if_neg (show ¬ nI 50 = nI 49 by decide), if_pos rfl, f6_isDigit_e, bnd, hd1, if_neg b2iT, lt_eq, nI_add, sg_out hn (by omega) (by omega), bnd, if_pos rfl, f6_isDigit_e, bnd, dg_m, if_pos b2iF, store_e hc (by omega), bnd, hc0]
          · unfold f9_digits
            rw [inb_t hk (by omega), if_pos rfl, lt_eq, hk2, show fuel = 1998 + 1 + 1 from rfl, dig_step hn hk (by omega) (by omega) h hd, dig_end (by omega) (by omega) (by omega) (Or.inr (Or.inl ⟨by omega, hn, by omega⟩)), upd_s, zero_ad]
          · rw [upd_n _ _ hj, upd_n _ _ hj]
  · have : pos = n := by omega
    subst this
    right
    exact ⟨fun rows => ps_no hm (sg_out hn (by omega) (by omega)) dg_m, fun told => dig_no hn hk hm (Or.inl rfl)⟩
end MW
/-! one order of a text -/
def AR (L : Int32) (ar : Nat) : Prop := (L = nI 101 ∧ ar = 3) ∨ (L = nI 102 ∧ ar = 1) ∨ (L = nI 109 ∧ ar = 3) ∨ (L = nI 112 ∧ ar = 3) ∨ (L = nI 118 ∧ ar = 3) ∨ (L = nI 114 ∧ ar = 2)
def ROW (rows : AI) (cnt : Nat) (ord : Int32) (told : AI) : Prop := rows (4 * cnt + 0) = ch ord ∧ ∃ ar, AR (ch ord) ar ∧ ∀ i, i < ar → rows (4 * cnt + (1 + i)) = told i
def ORC (p q : AI) (n pos cnt : Nat) (rows : AI) (col : Int32) : Prop := ∃ ok rows' cnt' pos' col', f6_parseOrder rows (nI cnt) (nI pos) col p (nI n) = some (ok, rows', nI cnt', nI pos', col') ∧ pos ≤ pos' ∧ pos' ≤ n ∧ (ok = true → cnt' = cnt + 1 ∧ pos + 2 ≤ pos' ∧ ∀ j, j < 4 * cnt → rows' j = rows j) ∧ ∀ ord told, ∃ ord' told', f9_isOrder q (nI n) (nI pos) ord told = some (ok, nI pos', ord', told') ∧ (ok = true → ROW rows' cnt ord' told')
section MX9
variable {p q rows told : AI} {x x1 x2 x3 col : Int32} {n m k pos cnt j e sh f : Nat}
theorem bT : (b2i true = 0) = False := eq_false b2iT
theorem bF : (b2i false = 0) = True := eq_true b2iF
theorem L46_yes {rows' : AI} {ps ps' col' cn E : Int32} (hsh : sh < 7) (hl : sLen.getD sh 0 ≤ 5) (hj : j < sLen.getD sh 0) (hE : sCh sh j = E) (h : f6_parseSign E rows cn ps col p (nI n) = some (true, rows', ps', col')) : f6_parseOrder_L46 p (nI n) (f + 1) sh (nI j) rows cn ps col = f6_parseOrder_L46 p (nI n) f sh (nI (j + 1)) rows' cn ps' col' := by
  rw [f6_parseOrder_L46, if_pos hsh, if_neg (by rw [nJ_le (by omega) (by omega)]; omega), if_pos hsh, inb_t hj (by omega), if_pos rfl, nJ_nat (by omega), hE, h, bnd]
  dsimp only
  rw [if_neg b2iT, nI_add]
theorem L46_no {rows' : AI} {ps ps' col' cn E : Int32} (hsh : sh < 7) (hl : sLen.getD sh 0 ≤ 5) (hj : j < sLen.getD sh 0) (hE : sCh sh j = E) (h : f6_parseSign E rows cn ps col p (nI n) = some (false, rows', ps', col')) : f6_parseOrder_L46 p (nI n) (f + 1) sh (nI j) rows cn ps col = some (false, rows', cn, ps', col') := by
  rw [f6_parseOrder_L46, if_pos hsh, if_neg (by rw [nJ_le (by omega) (by omega)]; omega), if_pos hsh, inb_t hj (by omega), if_pos rfl, nJ_nat (by omega), hE, h, bnd]
  dsimp only
  rw [if_pos b2iF]
theorem L46_end {ps : Int32} (hsh : sh < 7) (hj : sLen.getD sh 0 = j) (hj2 : j ≤ 5) : f6_parseOrder_L46 p (nI n) (f + 1) sh (nI j) rows (nI cnt) ps col = some (true, rows, nI (cnt + 1), ps, col) := by
  rw [f6_parseOrder_L46, if_pos hsh, if_pos (by rw [hj, nJ_le (by omega) (by omega)]; omega), lt_eq, nI_add]
theorem PO_start {L : Nat} (hn : n ≤ 60) (hp : pos < n) (hc : cnt ≤ 20) (hL : ch (p pos) = nI L) (hs : f6_shapeOf (nI L) = some sh) (hsh : sh < 7) (h0 : 0 < sLen.getD sh 0) (hl : sLen.getD sh 0 ≤ 5) : f6_parseOrder rows (nI cnt) (nI pos) col p (nI n) = f6_parseOrder_L46 p (nI n) (1994 + 1 + 1 + 1 + 1 + 1 + 1) sh (nI 0) (upd rows (4 * cnt + 0) (nI L)) (nI cnt) (nI (pos + 1)) (nI (1 + 0)) := by
  unfold f6_parseOrder
  rw [sg_in hn hp, bnd, hL, hs, bnd, if_pos hsh, decide_eq_false (by rw [nJ_eq0 (by omega)]; omega), if_pos b2iF, lt_eq, store_e hc (by omega), bnd, nI_add]
  rfl
theorem ord_101 (hn : n ≤ 60) (hp : pos < n) (hT : ∀ i, i < n → ch (p i) = ch (q i)) (hc : cnt ≤ 20) (hL : ch (q pos) = nI 101) : ORC p q n pos cnt rows col := by
  have hLp : ch (p pos) = nI 101 := (hT pos hp).trans hL
  have st := PO_start (rows := rows) (col := col) (sh := 0) hn hp hc hLp (by decide +kernel) (by decide) (by decide) (by decide)
  rcases dig_2 (k := 0) (mm := 1) (cnt := cnt) hn (show pos + 1 ≤ n by omega) hT (by omega) hc (Or.inl rfl) with ⟨v0, P0, a0, b0, s0, t0⟩ | ⟨s0, t0⟩
  rotate_left
  · refine ⟨false, _, cnt, pos + 1, _, (st).trans (L46_no (show 0 < 7 by decide) (by decide) (show 0 < sLen.getD 0 0 by decide) (show sCh 0 0 = nI (48 + 1) by decide +kernel) (s0 _)), by omega, by omega, fun z => (by cases z), fun ord told => ?_⟩
    obtain ⟨told0, d0⟩ := t0 told
    refine ⟨q pos, told0, ?_, fun z => (by cases z)⟩
    unfold f9_isOrder
    rw [if_neg (show ¬ nI pos = nI n by rw [nJ_eq (by omega) (by omega)]; omega), inb_t (by omega) (by omega), if_pos rfl, lt_eq, nJ_nat (by omega), hL, if_pos rfl, lt_eq, nI_add pos 1]
    simp only [d0, bnd, bT, bF, reduceIte]
  rcases sig_2 (e := 46) hn (show P0 ≤ n by omega) hT (by decide +kernel) (by omega) (by decide) (by decide) with ⟨a1, s1, t1⟩ | ⟨s1, t1⟩
  rotate_left
  · refine ⟨false, _, cnt, P0, _, ((st).trans (L46_yes (show 0 < 7 by decide) (by decide) (show 0 < sLen.getD 0 0 by decide) (show sCh 0 0 = nI (48 + 1) by decide +kernel) (s0 _))).trans (L46_no (show 0 < 7 by decide) (by decide) (show 1 < sLen.getD 0 0 by decide) (show sCh 0 1 = nI 46 by decide +kernel) (s1 _ _ _)), by omega, by omega, fun z => (by cases z), fun ord told => ?_⟩
    obtain ⟨told0, d0, e0, f0⟩ := t0 told
    refine ⟨q pos, told0, ?_, fun z => (by cases z)⟩
    unfold f9_isOrder
    rw [if_neg (show ¬ nI pos = nI n by rw [nJ_eq (by omega) (by omega)]; omega), inb_t (by omega) (by omega), if_pos rfl, lt_eq, nJ_nat (by omega), hL, if_pos rfl, lt_eq, nI_add pos 1]
    simp only [d0, t1, bnd, bT, bF, reduceIte]
  rcases dig_2 (k := 1) (mm := 1) (cnt := cnt) hn (show P0 + 1 ≤ n by omega) hT (by omega) hc (Or.inl rfl) with ⟨v2, P2, a2, b2, s2, t2⟩ | ⟨s2, t2⟩
  rotate_left
  · refine ⟨false, _, cnt, P0 + 1, _, (((st).trans (L46_yes (show 0 < 7 by decide) (by decide) (show 0 < sLen.getD 0 0 by decide) (show sCh 0 0 = nI (48 + 1) by decide +kernel) (s0 _))).trans (L46_yes (show 0 < 7 by decide) (by decide) (show 1 < sLen.getD 0 0 by decide) (show sCh 0 1 = nI 46 by decide +kernel) (s1 _ _ _))).trans (L46_no (show 0 < 7 by decide) (by decide) (show 2 < sLen.getD 0 0 by decide) (show sCh 0 2 = nI (48 + 1) by decide +kernel) (s2 _)), by omega, by omega, fun z => (by cases z), fun ord told => ?_⟩
    obtain ⟨told0, d0, e0, f0⟩ := t0 told
    obtain ⟨told2, d2⟩ := t2 told0
    refine ⟨q pos, told2, ?_, fun z => (by cases z)⟩
    unfold f9_isOrder
    rw [if_neg (show ¬ nI pos = nI n by rw [nJ_eq (by omega) (by omega)]; omega), inb_t (by omega) (by omega), if_pos rfl, lt_eq, nJ_nat (by omega), hL, if_pos rfl, lt_eq, nI_add pos 1]
    simp only [d0, t1, d2, bnd, bT, bF, reduceIte]
  rcases sig_2 (e := 61) hn (show P2 ≤ n by omega) hT (by decide +kernel) (by omega) (by decide) (by decide) with ⟨a3, s3, t3⟩ | ⟨s3, t3⟩
  rotate_left
  · refine ⟨false, _, cnt, P2, _, ((((st).trans (L46_yes (show 0 < 7 by decide) (by decide) (show 0 < sLen.getD 0 0 by decide) (show sCh 0 0 = nI (48 + 1) by decide +kernel) (s0 _))).trans (L46_yes (show 0 < 7 by decide) (by decide) (show 1 < sLen.getD 0 0 by decide) (show sCh 0 1 = nI 46 by decide +kernel) (s1 _ _ _))).trans (L46_yes (show 0 < 7 by decide) (by decide) (show 2 < sLen.getD 0 0 by decide) (show sCh 0 2 = nI (48 + 1) by decide +kernel) (s2 _))).trans (L46_no (show 0 < 7 by decide) (by decide) (show 3 < sLen.getD 0 0 by decide) (show sCh 0 3 = nI 61 by decide +kernel) (s3 _ _ _)), by omega, by omega, fun z => (by cases z), fun ord told => ?_⟩
    obtain ⟨told0, d0, e0, f0⟩ := t0 told
    obtain ⟨told2, d2, e2, f2⟩ := t2 told0
    refine ⟨q pos, told2, ?_, fun z => (by cases z)⟩
    unfold f9_isOrder
    rw [if_neg (show ¬ nI pos = nI n by rw [nJ_eq (by omega) (by omega)]; omega), inb_t (by omega) (by omega), if_pos rfl, lt_eq, nJ_nat (by omega), hL, if_pos rfl, lt_eq, nI_add pos 1]
    simp only [d0, t1, d2, t3, bnd, bT, bF, reduceIte]
  rcases dig_2 (k := 2) (mm := 2) (cnt := cnt) hn (show P2 + 1 ≤ n by omega) hT (by omega) hc (Or.inr rfl) with ⟨v4, P4, a4, b4, s4, t4⟩ | ⟨s4, t4⟩
  rotate_left
  · refine ⟨false, _, cnt, P2 + 1, _, (((((st).trans (L46_yes (show 0 < 7 by decide) (by decide) (show 0 < sLen.getD 0 0 by decide) (show sCh 0 0 = nI (48 + 1) by decide +kernel) (s0 _))).trans (L46_yes (show 0 < 7 by decide) (by decide) (show 1 < sLen.getD 0 0 by decide) (show sCh 0 1 = nI 46 by decide +kernel) (s1 _ _ _))).trans (L46_yes (show 0 < 7 by decide) (by decide) (show 2 < sLen.getD 0 0 by decide) (show sCh 0 2 = nI (48 + 1) by decide +kernel) (s2 _))).trans (L46_yes (show 0 < 7 by decide) (by decide) (show 3 < sLen.getD 0 0 by decide) (show sCh 0 3 = nI 61 by decide +kernel) (s3 _ _ _))).trans (L46_no (show 0 < 7 by decide) (by decide) (show 4 < sLen.getD 0 0 by decide) (show sCh 0 4 = nI (48 + 2) by decide +kernel) (s4 _)), by omega, by omega, fun z => (by cases z), fun ord told => ?_⟩
    obtain ⟨told0, d0, e0, f0⟩ := t0 told
    obtain ⟨told2, d2, e2, f2⟩ := t2 told0
    obtain ⟨told4, d4⟩ := t4 told2
    refine ⟨q pos, told4, ?_, fun z => (by cases z)⟩
    unfold f9_isOrder
    rw [if_neg (show ¬ nI pos = nI n by rw [nJ_eq (by omega) (by omega)]; omega), inb_t (by omega) (by omega), if_pos rfl, lt_eq, nJ_nat (by omega), hL, if_pos rfl, lt_eq, nI_add pos 1]
    simp only [d0, t1, d2, t3, d4, bnd, bT, bF, reduceIte]
  refine ⟨true, _, cnt + 1, P4, _, ((((((st).trans (L46_yes (show 0 < 7 by decide) (by decide) (show 0 < sLen.getD 0 0 by decide) (show sCh 0 0 = nI (48 + 1) by decide +kernel) (s0 _))).trans (L46_yes (show 0 < 7 by decide) (by decide) (show 1 < sLen.getD 0 0 by decide) (show sCh 0 1 = nI 46 by decide +kernel) (s1 _ _ _))).trans (L46_yes (show 0 < 7 by decide) (by decide) (show 2 < sLen.getD 0 0 by decide) (show sCh 0 2 = nI (48 + 1) by decide +kernel) (s2 _))).trans (L46_yes (show 0 < 7 by decide) (by decide) (show 3 < sLen.getD 0 0 by decide) (show sCh 0 3 = nI 61 by decide +kernel) (s3 _ _ _))).trans (L46_yes (show 0 < 7 by decide) (by decide) (show 4 < sLen.getD 0 0 by decide) (show sCh 0 4 = nI (48 + 2) by decide +kernel) (s4 _))).trans (L46_end (by decide) (by decide) (by decide)), by omega, by omega, fun _ => ⟨rfl, by omega, fun j hj => ?_⟩, fun ord told => ?_⟩
  · rw [upd_n _ _ (by omega), upd_n _ _ (by omega), upd_n _ _ (by omega), upd_n _ _ (by omega)]
  · obtain ⟨told0, d0, e0, f0⟩ := t0 told
    obtain ⟨told2, d2, e2, f2⟩ := t2 told0
    obtain ⟨told4, d4, e4, f4⟩ := t4 told2
    refine ⟨q pos, told4, ?_, fun _ => ⟨?_, 3, Or.inl ⟨hL, rfl⟩, fun i hi => ?_⟩⟩
    · unfold f9_isOrder
      rw [if_neg (show ¬ nI pos = nI n by rw [nJ_eq (by omega) (by omega)]; omega), inb_t (by omega) (by omega), if_pos rfl, lt_eq, nJ_nat (by omega), hL, if_pos rfl, lt_eq, nI_add pos 1]
      simp only [d0, t1, d2, t3, d4, bnd, bT, bF, reduceIte]
    · rw [upd_n _ _ (by omega), upd_n _ _ (by omega), upd_n _ _ (by omega), upd_s, hL]
    · rcases (show i = 0 ∨ i = 1 ∨ i = 2 by omega) with rfl | rfl | rfl
      · rw [upd_n _ _ (by omega), upd_n _ _ (by omega), upd_s, f4 0 (by decide), f2 0 (by decide), e0]
      · rw [upd_n _ _ (by omega), upd_s, f4 1 (by decide), e2]
      · rw [upd_s, e4]
theorem ord_102 (hn : n ≤ 60) (hp : pos < n) (hT : ∀ i, i < n → ch (p i) = ch (q i)) (hc : cnt ≤ 20) (hL : ch (q pos) = nI 102) : ORC p q n pos cnt rows col := by
  have hLp : ch (p pos) = nI 102 := (hT pos hp).trans hL
  have st := PO_start (rows := rows) (col := col) (sh := 1) hn hp hc hLp (by decide +kernel) (by decide) (by decide) (by decide)
  rcases dig_2 (k := 0) (mm := 1) (cnt := cnt) hn (show pos + 1 ≤ n by omega) hT (by omega) hc (Or.inl rfl) with ⟨v0, P0, a0, b0, s0, t0⟩ | ⟨s0, t0⟩
  rotate_left
  · refine ⟨false, _, cnt, pos + 1, _, (st).trans (L46_no (show 1 < 7 by decide) (by decide) (show 0 < sLen.getD 1 0 by decide) (show sCh 1 0 = nI (48 + 1) by decide +kernel) (s0 _)), by omega, by omega, fun z => (by cases z), fun ord told => ?_⟩
    obtain ⟨told0, d0⟩ := t0 told
    refine ⟨q pos, told0, ?_, fun z => (by cases z)⟩
    unfold f9_isOrder
    rw [if_neg (show ¬ nI pos = nI n by rw [nJ_eq (by omega) (by omega)]; omega), inb_t (by omega) (by omega), if_pos rfl, lt_eq, nJ_nat (by omega), hL, if_neg (by decide), if_pos rfl, lt_eq, nI_add pos 1]
    simp only [d0, bnd, bT, bF, reduceIte]
  refine ⟨true, _, cnt + 1, P0, _, ((st).trans (L46_yes (show 1 < 7 by decide) (by decide) (show 0 < sLen.getD 1 0 by decide) (show sCh 1 0 = nI (48 + 1) by decide +kernel) (s0 _))).trans (L46_end (by decide) (by decide) (by decide)), by omega, by omega, fun _ => ⟨rfl, by omega, fun j hj => ?_⟩, fun ord told => ?_⟩
  · rw [upd_n _ _ (by omega), upd_n _ _ (by omega)]
  · obtain ⟨told0, d0, e0, f0⟩ := t0 told
    refine ⟨q pos, told0, ?_, fun _ => ⟨?_, 1, Or.inr (Or.inl ⟨hL, rfl⟩), fun i hi => ?_⟩⟩
    · unfold f9_isOrder
      rw [if_neg (show ¬ nI pos = nI n by rw [nJ_eq (by omega) (by omega)]; omega), inb_t (by omega) (by omega), if_pos rfl, lt_eq, nJ_nat (by omega), hL, if_neg (by decide), if_pos rfl, lt_eq, nI_add pos 1]
      simp only [d0, bnd, bT, bF, reduceIte]
    · rw [upd_n _ _ (by omega), upd_s, hL]
    · have : i = 0 := by omega
      subst this
      rw [upd_s, e0]
theorem ord_109 (hn : n ≤ 60) (hp : pos < n) (hT : ∀ i, i < n → ch (p i) = ch (q i)) (hc : cnt ≤ 20) (hL : ch (q pos) = nI 109) : ORC p q n pos cnt rows col := by
  have hLp : ch (p pos) = nI 109 := (hT pos hp).trans hL
  have st := PO_start (rows := rows) (col := col) (sh := 2) hn hp hc hLp (by decide +kernel) (by decide) (by decide) (by decide)
  rcases dig_2 (k := 0) (mm := 1) (cnt := cnt) hn (show pos + 1 ≤ n by omega) hT (by omega) hc (Or.inl rfl) with ⟨v0, P0, a0, b0, s0, t0⟩ | ⟨s0, t0⟩
  rotate_left
  · refine ⟨false, _, cnt, pos + 1, _, (st).trans (L46_no (show 2 < 7 by decide) (by decide) (show 0 < sLen.getD 2 0 by decide) (show sCh 2 0 = nI (48 + 1) by decide +kernel) (s0 _)), by omega, by omega, fun z => (by cases z), fun ord told => ?_⟩
    obtain ⟨told0, d0⟩ := t0 told
    refine ⟨q pos, told0, ?_, fun z => (by cases z)⟩
    unfold f9_isOrder
    rw [if_neg (show ¬ nI pos = nI n by rw [nJ_eq (by omega) (by omega)]; omega), inb_t (by omega) (by omega), if_pos rfl, lt_eq, nJ_nat (by omega), hL, if_neg (by decide), if_neg (by decide), if_pos rfl, lt_eq, nI_add pos 1]
    simp only [d0, bnd, bT, bF, reduceIte]
  rcases sig_2 (e := 60) hn (show P0 ≤ n by omega) hT (by decide +kernel) (by omega) (by decide) (by decide) with ⟨a1, s1, t1⟩ | ⟨s1, t1⟩
  rotate_left
  · refine ⟨false, _, cnt, P0, _, ((st).trans (L46_yes (show 2 < 7 by decide) (by decide) (show 0 < sLen.getD 2 0 by decide) (show sCh 2 0 = nI (48 + 1) by decide +kernel) (s0 _))).trans (L46_no (show 2 < 7 by decide) (by decide) (show 1 < sLen.getD 2 0 by decide) (show sCh 2 1 = nI 60 by decide +kernel) (s1 _ _ _)), by omega, by omega, fun z => (by cases z), fun ord told => ?_⟩
    obtain ⟨told0, d0, e0, f0⟩ := t0 told
    refine ⟨q pos, told0, ?_, fun z => (by cases z)⟩
    unfold f9_isOrder
    rw [if_neg (show ¬ nI pos = nI n by rw [nJ_eq (by omega) (by omega)]; omega), inb_t (by omega) (by omega), if_pos rfl, lt_eq, nJ_nat (by omega), hL, if_neg (by decide), if_neg (by decide), if_pos rfl, lt_eq, nI_add pos 1]
    simp only [d0, t1, bnd, bT, bF, reduceIte]
  rcases dig_2 (k := 1) (mm := 1) (cnt := cnt) hn (show P0 + 1 ≤ n by omega) hT (by omega) hc (Or.inl rfl) with ⟨v2, P2, a2, b2, s2, t2⟩ | ⟨s2, t2⟩
  rotate_left
  · refine ⟨false, _, cnt, P0 + 1, _, (((st).trans (L46_yes (show 2 < 7 by decide) (by decide) (show 0 < sLen.getD 2 0 by decide) (show sCh 2 0 = nI (48 + 1) by decide +kernel) (s0 _))).trans (L46_yes (show 2 < 7 by decide) (by decide) (show 1 < sLen.getD 2 0 by decide) (show sCh 2 1 = nI 60 by decide +kernel) (s1 _ _ _))).trans (L46_no (show 2 < 7 by decide) (by decide) (show 2 < sLen.getD 2 0 by decide) (show sCh 2 2 = nI (48 + 1) by decide +kernel) (s2 _)), by omega, by omega, fun z => (by cases z), fun ord told => ?_⟩
    obtain ⟨told0, d0, e0, f0⟩ := t0 told
    obtain ⟨told2, d2⟩ := t2 told0
    refine ⟨q pos, told2, ?_, fun z => (by cases z)⟩
    unfold f9_isOrder
    rw [if_neg (show ¬ nI pos = nI n by rw [nJ_eq (by omega) (by omega)]; omega), inb_t (by omega) (by omega), if_pos rfl, lt_eq, nJ_nat (by omega), hL, if_neg (by decide), if_neg (by decide), if_pos rfl, lt_eq, nI_add pos 1]
    simp only [d0, t1, d2, bnd, bT, bF, reduceIte]
  rcases sig_2 (e := 33) hn (show P2 ≤ n by omega) hT (by decide +kernel) (by omega) (by decide) (by decide) with ⟨a3, s3, t3⟩ | ⟨s3, t3⟩
  rotate_left
  · refine ⟨false, _, cnt, P2, _, ((((st).trans (L46_yes (show 2 < 7 by decide) (by decide) (show 0 < sLen.getD 2 0 by decide) (show sCh 2 0 = nI (48 + 1) by decide +kernel) (s0 _))).trans (L46_yes (show 2 < 7 by decide) (by decide) (show 1 < sLen.getD 2 0 by decide) (show sCh 2 1 = nI 60 by decide +kernel) (s1 _ _ _))).trans (L46_yes (show 2 < 7 by decide) (by decide) (show 2 < sLen.getD 2 0 by decide) (show sCh 2 2 = nI (48 + 1) by decide +kernel) (s2 _))).trans (L46_no (show 2 < 7 by decide) (by decide) (show 3 < sLen.getD 2 0 by decide) (show sCh 2 3 = nI 33 by decide +kernel) (s3 _ _ _)), by omega, by omega, fun z => (by cases z), fun ord told => ?_⟩
    obtain ⟨told0, d0, e0, f0⟩ := t0 told
    obtain ⟨told2, d2, e2, f2⟩ := t2 told0
    refine ⟨q pos, told2, ?_, fun z => (by cases z)⟩
    unfold f9_isOrder
    rw [if_neg (show ¬ nI pos = nI n by rw [nJ_eq (by omega) (by omega)]; omega), inb_t (by omega) (by omega), if_pos rfl, lt_eq, nJ_nat (by omega), hL, if_neg (by decide), if_neg (by decide), if_pos rfl, lt_eq, nI_add pos 1]
    simp only [d0, t1, d2, t3, bnd, bT, bF, reduceIte]
  rcases dig_2 (k := 2) (mm := 1) (cnt := cnt) hn (show P2 + 1 ≤ n by omega) hT (by omega) hc (Or.inl rfl) with ⟨v4, P4, a4, b4, s4, t4⟩ | ⟨s4, t4⟩
  rotate_left
  · refine ⟨false, _, cnt, P2 + 1, _, (((((st).trans (L46_yes (show 2 < 7 by decide) (by decide) (show 0 < sLen.getD 2 0 by decide) (show sCh 2 0 = nI (48 + 1) by decide +kernel) (s0 _))).trans (L46_yes (show 2 < 7 by decide) (by decide) (show 1 < sLen.getD 2 0 by decide) (show sCh 2 1 = nI 60 by decide +kernel) (s1 _ _ _))).trans (L46_yes (show 2 < 7 by decide) (by decide) (show 2 < sLen.getD 2 0 by decide) (show sCh 2 2 = nI (48 + 1) by decide +kernel) (s2 _))).trans (L46_yes (show 2 < 7 by decide) (by decide) (show 3 < sLen.getD 2 0 by decide) (show sCh 2 3 = nI 33 by decide +kernel) (s3 _ _ _))).trans (L46_no (show 2 < 7 by decide) (by decide) (show 4 < sLen.getD 2 0 by decide) (show sCh 2 4 = nI (48 + 1) by decide +kernel) (s4 _)), by omega, by omega, fun z => (by cases z), fun ord told => ?_⟩
    obtain ⟨told0, d0, e0, f0⟩ := t0 told
    obtain ⟨told2, d2, e2, f2⟩ := t2 told0
    obtain ⟨told4, d4⟩ := t4 told2
    refine ⟨q pos, told4, ?_, fun z => (by cases z)⟩
    unfold f9_isOrder
    rw [if_neg (show ¬ nI pos = nI n by rw [nJ_eq (by omega) (by omega)]; omega), inb_t (by omega) (by omega), if_pos rfl, lt_eq, nJ_nat (by omega), hL, if_neg (by decide), if_neg (by decide), if_pos rfl, lt_eq, nI_add pos 1]
    simp only [d0, t1, d2, t3, d4, bnd, bT, bF, reduceIte]
  refine ⟨true, _, cnt + 1, P4, _, ((((((st).trans (L46_yes (show 2 < 7 by decide) (by decide) (show 0 < sLen.getD 2 0 by decide) (show sCh 2 0 = nI (48 + 1) by decide +kernel) (s0 _))).trans (L46_yes (show 2 < 7 by decide) (by decide) (show 1 < sLen.getD 2 0 by decide) (show sCh 2 1 = nI 60 by decide +kernel) (s1 _ _ _))).trans (L46_yes (show 2 < 7 by decide) (by decide) (show 2 < sLen.getD 2 0 by decide) (show sCh 2 2 = nI (48 + 1) by decide +kernel) (s2 _))).trans (L46_yes (show 2 < 7 by decide) (by decide) (show 3 < sLen.getD 2 0 by decide) (show sCh 2 3 = nI 33 by decide +kernel) (s3 _ _ _))).trans (L46_yes (show 2 < 7 by decide) (by decide) (show 4 < sLen.getD 2 0 by decide) (show sCh 2 4 = nI (48 + 1) by decide +kernel) (s4 _))).trans (L46_end (by decide) (by decide) (by decide)), by omega, by omega, fun _ => ⟨rfl, by omega, fun j hj => ?_⟩, fun ord told => ?_⟩
  · rw [upd_n _ _ (by omega), upd_n _ _ (by omega), upd_n _ _ (by omega), upd_n _ _ (by omega)]
  · obtain ⟨told0, d0, e0, f0⟩ := t0 told
    obtain ⟨told2, d2, e2, f2⟩ := t2 told0
    obtain ⟨told4, d4, e4, f4⟩ := t4 told2
    refine ⟨q pos, told4, ?_, fun _ => ⟨?_, 3, Or.inr (Or.inr (Or.inl ⟨hL, rfl⟩)), fun i hi => ?_⟩⟩
    · unfold f9_isOrder
      rw [if_neg (show ¬ nI pos = nI n by rw [nJ_eq (by omega) (by omega)]; omega), inb_t (by omega) (by omega), if_pos rfl, lt_eq, nJ_nat (by omega), hL, if_neg (by decide), if_neg (by decide), if_pos rfl, lt_eq, nI_add pos 1]
      simp only [d0, t1, d2, t3, d4, bnd, bT, bF, reduceIte]
    · rw [upd_n _ _ (by omega), upd_n _ _ (by omega), upd_n _ _ (by omega), upd_s, hL]
    · rcases (show i = 0 ∨ i = 1 ∨ i = 2 by omega) with rfl | rfl | rfl
      · rw [upd_n _ _ (by omega), upd_n _ _ (by omega), upd_s, f4 0 (by decide), f2 0 (by decide), e0]
      · rw [upd_n _ _ (by omega), upd_s, f4 1 (by decide), e2]
      · rw [upd_s, e4]
theorem ord_112 (hn : n ≤ 60) (hp : pos < n) (hT : ∀ i, i < n → ch (p i) = ch (q i)) (hc : cnt ≤ 20) (hL : ch (q pos) = nI 112) : ORC p q n pos cnt rows col := by
  have hLp : ch (p pos) = nI 112 := (hT pos hp).trans hL
  have st := PO_start (rows := rows) (col := col) (sh := 3) hn hp hc hLp (by decide +kernel) (by decide) (by decide) (by decide)
  rcases dig_2 (k := 0) (mm := 1) (cnt := cnt) hn (show pos + 1 ≤ n by omega) hT (by omega) hc (Or.inl rfl) with ⟨v0, P0, a0, b0, s0, t0⟩ | ⟨s0, t0⟩
  rotate_left
  · refine ⟨false, _, cnt, pos + 1, _, (st).trans (L46_no (show 3 < 7 by decide) (by decide) (show 0 < sLen.getD 3 0 by decide) (show sCh 3 0 = nI (48 + 1) by decide +kernel) (s0 _)), by omega, by omega, fun z => (by cases z), fun ord told => ?_⟩
    obtain ⟨told0, d0⟩ := t0 told
    refine ⟨q pos, told0, ?_, fun z => (by cases z)⟩
    unfold f9_isOrder
    rw [if_neg (show ¬ nI pos = nI n by rw [nJ_eq (by omega) (by omega)]; omega), inb_t (by omega) (by omega), if_pos rfl, lt_eq, nJ_nat (by omega), hL, if_neg (by decide), if_neg (by decide), if_neg (by decide), if_pos rfl, lt_eq, nI_add pos 1]
    simp only [d0, bnd, bT, bF, reduceIte]
  rcases sig_2 (e := 60) hn (show P0 ≤ n by omega) hT (by decide +kernel) (by omega) (by decide) (by decide) with ⟨a1, s1, t1⟩ | ⟨s1, t1⟩
  rotate_left
  · refine ⟨false, _, cnt, P0, _, ((st).trans (L46_yes (show 3 < 7 by decide) (by decide) (show 0 < sLen.getD 3 0 by decide) (show sCh 3 0 = nI (48 + 1) by decide +kernel) (s0 _))).trans (L46_no (show 3 < 7 by decide) (by decide) (show 1 < sLen.getD 3 0 by decide) (show sCh 3 1 = nI 60 by decide +kernel) (s1 _ _ _)), by omega, by omega, fun z => (by cases z), fun ord told => ?_⟩
    obtain ⟨told0, d0, e0, f0⟩ := t0 told
    refine ⟨q pos, told0, ?_, fun z => (by cases z)⟩
    unfold f9_isOrder
    rw [if_neg (show ¬ nI pos = nI n by rw [nJ_eq (by omega) (by omega)]; omega), inb_t (by omega) (by omega), if_pos rfl, lt_eq, nJ_nat (by omega), hL, if_neg (by decide), if_neg (by decide), if_neg (by decide), if_pos rfl, lt_eq, nI_add pos 1]
    simp only [d0, t1, bnd, bT, bF, reduceIte]
  rcases dig_2 (k := 1) (mm := 2) (cnt := cnt) hn (show P0 + 1 ≤ n by omega) hT (by omega) hc (Or.inr rfl) with ⟨v2, P2, a2, b2, s2, t2⟩ | ⟨s2, t2⟩
  rotate_left
  · refine ⟨false, _, cnt, P0 + 1, _, (((st).trans (L46_yes (show 3 < 7 by decide) (by decide) (show 0 < sLen.getD 3 0 by decide) (show sCh 3 0 = nI (48 + 1) by decide +kernel) (s0 _))).trans (L46_yes (show 3 < 7 by decide) (by decide) (show 1 < sLen.getD 3 0 by decide) (show sCh 3 1 = nI 60 by decide +kernel) (s1 _ _ _))).trans (L46_no (show 3 < 7 by decide) (by decide) (show 2 < sLen.getD 3 0 by decide) (show sCh 3 2 = nI (48 + 2) by decide +kernel) (s2 _)), by omega, by omega, fun z => (by cases z), fun ord told => ?_⟩
    obtain ⟨told0, d0, e0, f0⟩ := t0 told
    obtain ⟨told2, d2⟩ := t2 told0
    refine ⟨q pos, told2, ?_, fun z => (by cases z)⟩
    unfold f9_isOrder
    rw [if_neg (show ¬ nI pos = nI n by rw [nJ_eq (by omega) (by omega)]; omega), inb_t (by omega) (by omega), if_pos rfl, lt_eq, nJ_nat (by omega), hL, if_neg (by decide), if_neg (by decide), if_neg (by decide), if_pos rfl, lt_eq, nI_add pos 1]
    simp only [d0, t1, d2, bnd, bT, bF, reduceIte]
  rcases sig_2 (e := 33) hn (show P2 ≤ n by omega) hT (by decide +kernel) (by omega) (by decide) (by decide) with ⟨a3, s3, t3⟩ | ⟨s3, t3⟩
  rotate_left
  · refine ⟨false, _, cnt, P2, _, ((((st).trans (L46_yes (show 3 < 7 by decide) (by decide) (show 0 < sLen.getD 3 0 by decide) (show sCh 3 0 = nI (48 + 1) by decide +kernel) (s0 _))).trans (L46_yes (show 3 < 7 by decide) (by decide) (show 1 < sLen.getD 3 0 by decide) (show sCh 3 1 = nI 60 by decide +kernel) (s1 _ _ _))).trans (L46_yes (show 3 < 7 by decide) (by decide) (show 2 < sLen.getD 3 0 by decide) (show sCh 3 2 = nI (48 + 2) by decide +kernel) (s2 _))).trans (L46_no (show 3 < 7 by decide) (by decide) (show 3 < sLen.getD 3 0 by decide) (show sCh 3 3 = nI 33 by decide +kernel) (s3 _ _ _)), by omega, by omega, fun z => (by cases z), fun ord told => ?_⟩
    obtain ⟨told0, d0, e0, f0⟩ := t0 told
    obtain ⟨told2, d2, e2, f2⟩ := t2 told0
    refine ⟨q pos, told2, ?_, fun z => (by cases z)⟩
    unfold f9_isOrder
    rw [if_neg (show ¬ nI pos = nI n by rw [nJ_eq (by omega) (by omega)]; omega), inb_t (by omega) (by omega), if_pos rfl, lt_eq, nJ_nat (by omega), hL, if_neg (by decide), if_neg (by decide), if_neg (by decide), if_pos rfl, lt_eq, nI_add pos 1]
    simp only [d0, t1, d2, t3, bnd, bT, bF, reduceIte]
  rcases dig_2 (k := 2) (mm := 1) (cnt := cnt) hn (show P2 + 1 ≤ n by omega) hT (by omega) hc (Or.inl rfl) with ⟨v4, P4, a4, b4, s4, t4⟩ | ⟨s4, t4⟩
  rotate_left
  · refine ⟨false, _, cnt, P2 + 1, _, (((((st).trans (L46_yes (show 3 < 7 by decide) (by decide) (show 0 < sLen.getD 3 0 by decide) (show sCh 3 0 = nI (48 + 1) by decide +kernel) (s0 _))).trans (L46_yes (show 3 < 7 by decide) (by decide) (show 1 < sLen.getD 3 0 by decide) (show sCh 3 1 = nI 60 by decide +kernel) (s1 _ _ _))).trans (L46_yes (show 3 < 7 by decide) (by decide) (show 2 < sLen.getD 3 0 by decide) (show sCh 3 2 = nI (48 + 2) by decide +kernel) (s2 _))).trans (L46_yes (show 3 < 7 by decide) (by decide) (show 3 < sLen.getD 3 0 by decide) (show sCh 3 3 = nI 33 by decide +kernel) (s3 _ _ _))).trans (L46_no (show 3 < 7 by decide) (by decide) (show 4 < sLen.getD 3 0 by decide) (show sCh 3 4 = nI (48 + 1) by decide +kernel) (s4 _)), by omega, by omega, fun z => (by cases z), fun ord told => ?_⟩
    obtain ⟨told0, d0, e0, f0⟩ := t0 told
    obtain ⟨told2, d2, e2, f2⟩ := t2 told0
    obtain ⟨told4, d4⟩ := t4 told2
    refine ⟨q pos, told4, ?_, fun z => (by cases z)⟩
    unfold f9_isOrder
    rw [if_neg (show ¬ nI pos = nI n by rw [nJ_eq (by omega) (by omega)]; omega), inb_t (by omega) (by omega), if_pos rfl, lt_eq, nJ_nat (by omega), hL, if_neg (by decide), if_neg (by decide), if_neg (by decide), if_pos rfl, lt_eq, nI_add pos 1]
    simp only [d0, t1, d2, t3, d4, bnd, bT, bF, reduceIte]
  refine ⟨true, _, cnt + 1, P4, _, ((((((st).trans (L46_yes (show 3 < 7 by decide) (by decide) (show 0 < sLen.getD 3 0 by decide) (show sCh 3 0 = nI (48 + 1) by decide +kernel) (s0 _))).trans (L46_yes (show 3 < 7 by decide) (by decide) (show 1 < sLen.getD 3 0 by decide) (show sCh 3 1 = nI 60 by decide +kernel) (s1 _ _ _))).trans (L46_yes (show 3 < 7 by decide) (by decide) (show 2 < sLen.getD 3 0 by decide) (show sCh 3 2 = nI (48 + 2) by decide +kernel) (s2 _))).trans (L46_yes (show 3 < 7 by decide) (by decide) (show 3 < sLen.getD 3 0 by decide) (show sCh 3 3 = nI 33 by decide +kernel) (s3 _ _ _))).trans (L46_yes (show 3 < 7 by decide) (by decide) (show 4 < sLen.getD 3 0 by decide) (show sCh 3 4 = nI (48 + 1) by decide +kernel) (s4 _))).trans (L46_end (by decide) (by decide) (by decide)), by omega, by omega, fun _ => ⟨rfl, by omega, fun j hj => ?_⟩, fun ord told => ?_⟩
  · rw [upd_n _ _ (by omega), upd_n _ _ (by omega), upd_n _ _ (by omega), upd_n _ _ (by omega)]
  · obtain ⟨told0, d0, e0, f0⟩ := t0 told
    obtain ⟨told2, d2, e2, f2⟩ := t2 told0
    obtain ⟨told4, d4, e4, f4⟩ := t4 told2
    refine ⟨q pos, told4, ?_, fun _ => ⟨?_, 3, Or.inr (Or.inr (Or.inr (Or.inl ⟨hL, rfl⟩))), fun i hi => ?_⟩⟩
    · unfold f9_isOrder
      rw [if_neg (show ¬ nI pos = nI n by rw [nJ_eq (by omega) (by omega)]; omega), inb_t (by omega) (by omega), if_pos rfl, lt_eq, nJ_nat (by omega), hL, if_neg (by decide), if_neg (by decide), if_neg (by decide), if_pos rfl, lt_eq, nI_add pos 1]
      simp only [d0, t1, d2, t3, d4, bnd, bT, bF, reduceIte]
    · rw [upd_n _ _ (by omega), upd_n _ _ (by omega), upd_n _ _ (by omega), upd_s, hL]
    · rcases (show i = 0 ∨ i = 1 ∨ i = 2 by omega) with rfl | rfl | rfl
      · rw [upd_n _ _ (by omega), upd_n _ _ (by omega), upd_s, f4 0 (by decide), f2 0 (by decide), e0]
      · rw [upd_n _ _ (by omega), upd_s, f4 1 (by decide), e2]
      · rw [upd_s, e4]
theorem ord_114 (hn : n ≤ 60) (hp : pos < n) (hT : ∀ i, i < n → ch (p i) = ch (q i)) (hc : cnt ≤ 20) (hL : ch (q pos) = nI 114) : ORC p q n pos cnt rows col := by
  have hLp : ch (p pos) = nI 114 := (hT pos hp).trans hL
  have st := PO_start (rows := rows) (col := col) (sh := 4) hn hp hc hLp (by decide +kernel) (by decide) (by decide) (by decide)
  rcases dig_2 (k := 0) (mm := 1) (cnt := cnt) hn (show pos + 1 ≤ n by omega) hT (by omega) hc (Or.inl rfl) with ⟨v0, P0, a0, b0, s0, t0⟩ | ⟨s0, t0⟩
  rotate_left
  · refine ⟨false, _, cnt, pos + 1, _, (st).trans (L46_no (show 4 < 7 by decide) (by decide) (show 0 < sLen.getD 4 0 by decide) (show sCh 4 0 = nI (48 + 1) by decide +kernel) (s0 _)), by omega, by omega, fun z => (by cases z), fun ord told => ?_⟩
    obtain ⟨told0, d0⟩ := t0 told
    refine ⟨q pos, told0, ?_, fun z => (by cases z)⟩
    unfold f9_isOrder
    rw [if_neg (show ¬ nI pos = nI n by rw [nJ_eq (by omega) (by omega)]; omega), inb_t (by omega) (by omega), if_pos rfl, lt_eq, nJ_nat (by omega), hL, if_neg (by decide), if_neg (by decide), if_neg (by decide), if_neg (by decide), if_pos rfl, lt_eq, nI_add pos 1]
    simp only [d0, bnd, bT, bF, reduceIte]
  rcases sig_2 (e := 61) hn (show P0 ≤ n by omega) hT (by decide +kernel) (by omega) (by decide) (by decide) with ⟨a1, s1, t1⟩ | ⟨s1, t1⟩
  rotate_left
  · refine ⟨false, _, cnt, P0, _, ((st).trans (L46_yes (show 4 < 7 by decide) (by decide) (show 0 < sLen.getD 4 0 by decide) (show sCh 4 0 = nI (48 + 1) by decide +kernel) (s0 _))).trans (L46_no (show 4 < 7 by decide) (by decide) (show 1 < sLen.getD 4 0 by decide) (show sCh 4 1 = nI 61 by decide +kernel) (s1 _ _ _)), by omega, by omega, fun z => (by cases z), fun ord told => ?_⟩
    obtain ⟨told0, d0, e0, f0⟩ := t0 told
    refine ⟨q pos, told0, ?_, fun z => (by cases z)⟩
    unfold f9_isOrder
    rw [if_neg (show ¬ nI pos = nI n by rw [nJ_eq (by omega) (by omega)]; omega), inb_t (by omega) (by omega), if_pos rfl, lt_eq, nJ_nat (by omega), hL, if_neg (by decide), if_neg (by decide), if_neg (by decide), if_neg (by decide), if_pos rfl, lt_eq, nI_add pos 1]
    simp only [d0, t1, bnd, bT, bF, reduceIte]
  rcases dig_2 (k := 1) (mm := 2) (cnt := cnt) hn (show P0 + 1 ≤ n by omega) hT (by omega) hc (Or.inr rfl) with ⟨v2, P2, a2, b2, s2, t2⟩ | ⟨s2, t2⟩
  rotate_left
  · refine ⟨false, _, cnt, P0 + 1, _, (((st).trans (L46_yes (show 4 < 7 by decide) (by decide) (show 0 < sLen.getD 4 0 by decide) (show sCh 4 0 = nI (48 + 1) by decide +kernel) (s0 _))).trans (L46_yes (show 4 < 7 by decide) (by decide) (show 1 < sLen.getD 4 0 by decide) (show sCh 4 1 = nI 61 by decide +kernel) (s1 _ _ _))).trans (L46_no (show 4 < 7 by decide) (by decide) (show 2 < sLen.getD 4 0 by decide) (show sCh 4 2 = nI (48 + 2) by decide +kernel) (s2 _)), by omega, by omega, fun z => (by cases z), fun ord told => ?_⟩
    obtain ⟨told0, d0, e0, f0⟩ := t0 told
    obtain ⟨told2, d2⟩ := t2 told0
    refine ⟨q pos, told2, ?_, fun z => (by cases z)⟩
    unfold f9_isOrder
    rw [if_neg (show ¬ nI pos = nI n by rw [nJ_eq (by omega) (by omega)]; omega), inb_t (by omega) (by omega), if_pos rfl, lt_eq, nJ_nat (by omega), hL, if_neg (by decide), if_neg (by decide), if_neg (by decide), if_neg (by decide), if_pos rfl, lt_eq, nI_add pos 1]
    simp only [d0, t1, d2, bnd, bT, bF, reduceIte]
  refine ⟨true, _, cnt + 1, P2, _, ((((st).trans (L46_yes (show 4 < 7 by decide) (by decide) (show 0 < sLen.getD 4 0 by decide) (show sCh 4 0 = nI (48 + 1) by decide +kernel) (s0 _))).trans (L46_yes (show 4 < 7 by decide) (by decide) (show 1 < sLen.getD 4 0 by decide) (show sCh 4 1 = nI 61 by decide +kernel) (s1 _ _ _))).trans (L46_yes (show 4 < 7 by decide) (by decide) (show 2 < sLen.getD 4 0 by decide) (show sCh 4 2 = nI (48 + 2) by decide +kernel) (s2 _))).trans (L46_end (by decide) (by decide) (by decide)), by omega, by omega, fun _ => ⟨rfl, by omega, fun j hj => ?_⟩, fun ord told => ?_⟩
  · rw [upd_n _ _ (by omega), upd_n _ _ (by omega), upd_n _ _ (by omega)]
  · obtain ⟨told0, d0, e0, f0⟩ := t0 told
    obtain ⟨told2, d2, e2, f2⟩ := t2 told0
    refine ⟨q pos, told2, ?_, fun _ => ⟨?_, 2, Or.inr (Or.inr (Or.inr (Or.inr (Or.inr ⟨hL, rfl⟩)))), fun i hi => ?_⟩⟩
    · unfold f9_isOrder
      rw [if_neg (show ¬ nI pos = nI n by rw [nJ_eq (by omega) (by omega)]; omega), inb_t (by omega) (by omega), if_pos rfl, lt_eq, nJ_nat (by omega), hL, if_neg (by decide), if_neg (by decide), if_neg (by decide), if_neg (by decide), if_pos rfl, lt_eq, nI_add pos 1]
      simp only [d0, t1, d2, bnd, bT, bF, reduceIte]
    · rw [upd_n _ _ (by omega), upd_n _ _ (by omega), upd_s, hL]
    · rcases (show i = 0 ∨ i = 1 by omega) with rfl | rfl
      · rw [upd_n _ _ (by omega), upd_s, f2 0 (by decide), e0]
      · rw [upd_s, e2]
theorem ord_118 (hn : n ≤ 60) (hp : pos < n) (hT : ∀ i, i < n → ch (p i) = ch (q i)) (hc : cnt ≤ 20) (hL : ch (q pos) = nI 118) : ORC p q n pos cnt rows col := by
  have hLp : ch (p pos) = nI 118 := (hT pos hp).trans hL
  have st := PO_start (rows := rows) (col := col) (sh := 3) hn hp hc hLp (by decide +kernel) (by decide) (by decide) (by decide)
  rcases dig_2 (k := 0) (mm := 1) (cnt := cnt) hn (show pos + 1 ≤ n by omega) hT (by omega) hc (Or.inl rfl) with ⟨v0, P0, a0, b0, s0, t0⟩ | ⟨s0, t0⟩
  rotate_left
  · refine ⟨false, _, cnt, pos + 1, _, (st).trans (L46_no (show 3 < 7 by decide) (by decide) (show 0 < sLen.getD 3 0 by decide) (show sCh 3 0 = nI (48 + 1) by decide +kernel) (s0 _)), by omega, by omega, fun z => (by cases z), fun ord told => ?_⟩
    obtain ⟨told0, d0⟩ := t0 told
    refine ⟨q pos, told0, ?_, fun z => (by cases z)⟩
    unfold f9_isOrder
    rw [if_neg (show ¬ nI pos = nI n by rw [nJ_eq (by omega) (by omega)]; omega), inb_t (by omega) (by omega), if_pos rfl, lt_eq, nJ_nat (by omega), hL, if_neg (by decide), if_neg (by decide), if_neg (by decide), if_neg (by decide), if_neg (by decide), if_pos rfl, lt_eq, nI_add pos 1]
    simp only [d0, bnd, bT, bF, reduceIte]
  rcases sig_2 (e := 60) hn (show P0 ≤ n by omega) hT (by decide +kernel) (by omega) (by decide) (by decide) with ⟨a1, s1, t1⟩ | ⟨s1, t1⟩
  rotate_left
  · refine ⟨false, _, cnt, P0, _, ((st).trans (L46_yes (show 3 < 7 by decide) (by decide) (show 0 < sLen.getD 3 0 by decide) (show sCh 3 0 = nI (48 + 1) by decide +kernel) (s0 _))).trans (L46_no (show 3 < 7 by decide) (by decide) (show 1 < sLen.getD 3 0 by decide) (show sCh 3 1 = nI 60 by decide +kernel) (s1 _ _ _)), by omega, by omega, fun z => (by cases z), fun ord told => ?_⟩
    obtain ⟨told0, d0, e0, f0⟩ := t0 told
    refine ⟨q pos, told0, ?_, fun z => (by cases z)⟩
    unfold f9_isOrder
    rw [if_neg (show ¬ nI pos = nI n by rw [nJ_eq (by omega) (by omega)]; omega), inb_t (by omega) (by omega), if_pos rfl, lt_eq, nJ_nat (by omega), hL, if_neg (by decide), if_neg (by decide), if_neg (by decide), if_neg (by decide), if_neg (by decide), if_pos rfl, lt_eq, nI_add pos 1]
    simp only [d0, t1, bnd, bT, bF, reduceIte]
  rcases dig_2 (k := 1) (mm := 2) (cnt := cnt) hn (show P0 + 1 ≤ n by omega) hT (by omega) hc (Or.inr rfl) with ⟨v2, P2, a2, b2, s2, t2⟩ | ⟨s2, t2⟩
  rotate_left
  · refine ⟨false, _, cnt, P0 + 1, _, (((st).trans (L46_yes (show 3 < 7 by decide) (by decide) (show 0 < sLen.getD 3 0 by decide) (show sCh 3 0 = nI (48 + 1) by decide +kernel) (s0 _))).trans (L46_yes (show 3 < 7 by decide) (by decide) (show 1 < sLen.getD 3 0 by decide) (show sCh 3 1 = nI 60 by decide +kernel) (s1 _ _ _))).trans (L46_no (show 3 < 7 by decide) (by decide) (show 2 < sLen.getD 3 0 by decide) (show sCh 3 2 = nI (48 + 2) by decide +kernel) (s2 _)), by omega, by omega, fun z => (by cases z), fun ord told => ?_⟩
    obtain ⟨told0, d0, e0, f0⟩ := t0 told
    obtain ⟨told2, d2⟩ := t2 told0
    refine ⟨q pos, told2, ?_, fun z => (by cases z)⟩
    unfold f9_isOrder
    rw [if_neg (show ¬ nI pos = nI n by rw [nJ_eq (by omega) (by omega)]; omega), inb_t (by omega) (by omega), if_pos rfl, lt_eq, nJ_nat (by omega), hL, if_neg (by decide), if_neg (by decide), if_neg (by decide), if_neg (by decide), if_neg (by decide), if_pos rfl, lt_eq, nI_add pos 1]
    simp only [d0, t1, d2, bnd, bT, bF, reduceIte]
  rcases sig_2 (e := 33) hn (show P2 ≤ n by omega) hT (by decide +kernel) (by omega) (by decide) (by decide) with ⟨a3, s3, t3⟩ | ⟨s3, t3⟩
  rotate_left
  · refine ⟨false, _, cnt, P2, _, ((((st).trans (L46_yes (show 3 < 7 by decide) (by decide) (show 0 < sLen.getD 3 0 by decide) (show sCh 3 0 = nI (48 + 1) by decide +kernel) (s0 _))).trans (L46_yes (show 3 < 7 by decide) (by decide) (show 1 < sLen.getD 3 0 by decide) (show sCh 3 1 = nI 60 by decide +kernel) (s1 _ _ _))).trans (L46_yes (show 3 < 7 by decide) (by decide) (show 2 < sLen.getD 3 0 by decide) (show sCh 3 2 = nI (48 + 2) by decide +kernel) (s2 _))).trans (L46_no (show 3 < 7 by decide) (by decide) (show 3 < sLen.getD 3 0 by decide) (show sCh 3 3 = nI 33 by decide +kernel) (s3 _ _ _)), by omega, by omega, fun z => (by cases z), fun ord told => ?_⟩
    obtain ⟨told0, d0, e0, f0⟩ := t0 told
    obtain ⟨told2, d2, e2, f2⟩ := t2 told0
    refine ⟨q pos, told2, ?_, fun z => (by cases z)⟩
    unfold f9_isOrder
    rw [if_neg (show ¬ nI pos = nI n by rw [nJ_eq (by omega) (by omega)]; omega), inb_t (by omega) (by omega), if_pos rfl, lt_eq, nJ_nat (by omega), hL, if_neg (by decide), if_neg (by decide), if_neg (by decide), if_neg (by decide), if_neg (by decide), if_pos rfl, lt_eq, nI_add pos 1]
    simp only [d0, t1, d2, t3, bnd, bT, bF, reduceIte]
  rcases dig_2 (k := 2) (mm := 1) (cnt := cnt) hn (show P2 + 1 ≤ n by omega) hT (by omega) hc (Or.inl rfl) with ⟨v4, P4, a4, b4, s4, t4⟩ | ⟨s4, t4⟩
  rotate_left
  · refine ⟨false, _, cnt, P2 + 1, _, (((((st).trans (L46_yes (show 3 < 7 by decide) (by decide) (show 0 < sLen.getD 3 0 by decide) (show sCh 3 0 = nI (48 + 1) by decide +kernel) (s0 _))).trans (L46_yes (show 3 < 7 by decide) (by decide) (show 1 < sLen.getD 3 0 by decide) (show sCh 3 1 = nI 60 by decide +kernel) (s1 _ _ _))).trans (L46_yes (show 3 < 7 by decide) (by decide) (show 2 < sLen.getD 3 0 by decide) (show sCh 3 2 = nI (48 + 2) by decide +kernel) (s2 _))).trans (L46_yes (show 3 < 7 by decide) (by decide) (show 3 < sLen.getD 3 0 by decide) (show sCh 3 3 = nI 33 by decide +kernel) (s3 _ _ _))).trans (L46_no (show 3 < 7 by decide) (by decide) (show 4 < sLen.getD 3 0 by decide) (show sCh 3 4 = nI (48 + 1) by decide +kernel) (s4 _)), by omega, by omega, fun z => (by cases z), fun ord told => ?_⟩
    obtain ⟨told0, d0, e0, f0⟩ := t0 told
    obtain ⟨told2, d2, e2, f2⟩ := t2 told0
    obtain ⟨told4, d4⟩ := t4 told2
    refine ⟨q pos, told4, ?_, fun z => (by cases z)⟩
    unfold f9_isOrder
    rw [if_neg (show ¬ nI pos = nI n by rw [nJ_eq (by omega) (by omega)]; omega), inb_t (by omega) (by omega), if_pos rfl, lt_eq, nJ_nat (by omega), hL, if_neg (by decide), if_neg (by decide), if_neg (by decide), if_neg (by decide), if_neg (by decide), if_pos rfl, lt_eq, nI_add pos 1]
    simp only [d0, t1, d2, t3, d4, bnd, bT, bF, reduceIte]
  refine ⟨true, _, cnt + 1, P4, _, ((((((st).trans (L46_yes (show 3 < 7 by decide) (by decide) (show 0 < sLen.getD 3 0 by decide) (show sCh 3 0 = nI (48 + 1) by decide +kernel) (s0 _))).trans (L46_yes (show 3 < 7 by decide) (by decide) (show 1 < sLen.getD 3 0 by decide) (show sCh 3 1 = nI 60 by decide +kernel) (s1 _ _ _))).trans (L46_yes (show 3 < 7 by decide) (by decide) (show 2 < sLen.getD 3 0 by decide) (show sCh 3 2 = nI (48 + 2) by decide +kernel) (s2 _))).trans (L46_yes (show 3 < 7 by decide) (by decide) (show 3 < sLen.getD 3 0 by decide) (show sCh 3 3 = nI 33 by decide +kernel) (s3 _ _ _))).trans (L46_yes (show 3 < 7 by decide) (by decide) (show 4 < sLen.getD 3 0 by decide) (show sCh 3 4 = nI (48 + 1) by decide +kernel) (s4 _))).trans (L46_end (by decide) (by decide) (by decide)), by omega, by omega, fun _ => ⟨rfl, by omega, fun j hj => ?_⟩, fun ord told => ?_⟩
  · rw [upd_n _ _ (by omega), upd_n _ _ (by omega), upd_n _ _ (by omega), upd_n _ _ (by omega)]
  · obtain ⟨told0, d0, e0, f0⟩ := t0 told
    obtain ⟨told2, d2, e2, f2⟩ := t2 told0
    obtain ⟨told4, d4, e4, f4⟩ := t4 told2
    refine ⟨q pos, told4, ?_, fun _ => ⟨?_, 3, Or.inr (Or.inr (Or.inr (Or.inr (Or.inl ⟨hL, rfl⟩)))), fun i hi => ?_⟩⟩
    · unfold f9_isOrder
      rw [if_neg (show ¬ nI pos = nI n by rw [nJ_eq (by omega) (by omega)]; omega), inb_t (by omega) (by omega), if_pos rfl, lt_eq, nJ_nat (by omega), hL, if_neg (by decide), if_neg (by decide), if_neg (by decide), if_neg (by decide), if_neg (by decide), if_pos rfl, lt_eq, nI_add pos 1]
      simp only [d0, t1, d2, t3, d4, bnd, bT, bF, reduceIte]
    · rw [upd_n _ _ (by omega), upd_n _ _ (by omega), upd_n _ _ (by omega), upd_s, hL]
    · rcases (show i = 0 ∨ i = 1 ∨ i = 2 by omega) with rfl | rfl | rfl
      · rw [upd_n _ _ (by omega), upd_n _ _ (by omega), upd_s, f4 0 (by decide), f2 0 (by decide), e0]
      · rw [upd_n _ _ (by omega), upd_s, f4 1 (by decide), e2]
      · rw [upd_s, e4]
theorem ord_no (hn : n ≤ 60) (hp : pos ≤ n) (hT : ∀ i, i < n → ch (p i) = ch (q i)) (h : pos = n ∨ (pos < n ∧ ¬ ch (q pos) = nI 101 ∧ ¬ ch (q pos) = nI 102 ∧ ¬ ch (q pos) = nI 109 ∧ ¬ ch (q pos) = nI 112 ∧ ¬ ch (q pos) = nI 114 ∧ ¬ ch (q pos) = nI 118)) : ORC p q n pos cnt rows col := by
  have key : ∀ r1, f3_signAt (nI pos) p (nI n) = some r1 → f6_shapeOf r1 = some 5 → f6_parseOrder rows (nI cnt) (nI pos) col p (nI n) = some (false, rows, nI cnt, nI pos, col) := by
    intro r1 e1 e2
    unfold f6_parseOrder
    rw [e1, bnd, e2, bnd, if_pos (show 5 < 7 by decide), show decide (nI (sLen.getD 5 0) = 0) = true by decide, if_neg b2iT]
  rcases h with rfl | ⟨h0, h1, h2, h3, h4, h5, h6⟩
  · refine ⟨false, rows, cnt, pos, col, key _ (sg_out hn (by omega) (by omega)) (by decide +kernel), by omega, by omega, fun z => (by cases z), fun ord told => ⟨ord, told, ?_, fun z => (by cases z)⟩⟩
    unfold f9_isOrder
    rw [if_pos rfl]
  · refine ⟨false, rows, cnt, pos, col, key _ (sg_in hn h0) ?_, by omega, by omega, fun z => (by cases z), fun ord told => ⟨q pos, told, ?_, fun z => (by cases z)⟩⟩
    · unfold f6_shapeOf
      rw [hT pos h0, if_neg h1, if_neg h2, if_neg h3, if_neg h4, if_neg h5, if_neg h6]
    · unfold f9_isOrder
      rw [if_neg (show ¬ nI pos = nI n by rw [nJ_eq (by omega) (by omega)]; omega), inb_t (by omega) (by omega), if_pos rfl, lt_eq, nJ_nat (by omega), if_neg h1, if_neg h2, if_neg h3, if_neg h4, if_neg h5, if_neg h6]
theorem ord_2 (hn : n ≤ 60) (hp : pos ≤ n) (hT : ∀ i, i < n → ch (p i) = ch (q i)) (hc : cnt ≤ 20) : ORC p q n pos cnt rows col := by
  by_cases h : pos < n
  · by_cases h1 : ch (q pos) = nI 101
    · exact ord_101 hn h hT hc h1
    by_cases h2 : ch (q pos) = nI 102
    · exact ord_102 hn h hT hc h2
    by_cases h3 : ch (q pos) = nI 109
    · exact ord_109 hn h hT hc h3
    by_cases h4 : ch (q pos) = nI 112
    · exact ord_112 hn h hT hc h4
    by_cases h5 : ch (q pos) = nI 114
    · exact ord_114 hn h hT hc h5
    by_cases h6 : ch (q pos) = nI 118
    · exact ord_118 hn h hT hc h6
    exact ord_no hn hp hT (Or.inr ⟨h, h1, h2, h3, h4, h5, h6⟩)
  · exact ord_no hn hp hT (Or.inl (by omega))
end MX9
/-! a whole text -/
/-- d orders from the one with number cnt on, which begins at pos -/
def SQ (rows q : AI) (n : Nat) : Nat → Nat → Nat → Prop
  | 0, _, _ => False
  | d + 1, cnt, pos => ∃ pos', pos' ≤ n ∧ (∀ ord told, ∃ ord' told', f9_isOrder q (nI n) (nI pos) ord told = some (true, nI pos', ord', told') ∧ ROW rows cnt ord' told') ∧ ((d = 0 ∧ f9_sign (nI 59) q (nI n) (nI pos') = some (false, nI pos')) ∨ (0 < d ∧ f9_sign (nI 59) q (nI n) (nI pos') = some (true, nI (pos' + 1)) ∧ SQ rows q n d (cnt + 1) (pos' + 1)))
section MY
variable {p q rows told N M K mx : AI} {x x1 x2 x3 col un er rs dt an th cf fc : Int32} {n m k pos cnt j e sh f : Nat}
theorem ROW_c {rows' : AI} {ord : Int32} (h : ROW rows cnt ord told) (hr : ∀ j, j < 4 * (cnt + 1) → rows' j = rows j) : ROW rows' cnt ord told := by
  obtain ⟨h1, ar, h2, h3⟩ := h
  refine ⟨by rw [hr _ (by omega)]; exact h1, ar, h2, fun i hi => ?_⟩
  have : ar ≤ 3 := by
    rcases h2 with ⟨_, a⟩ | ⟨_, a⟩ | ⟨_, a⟩ | ⟨_, a⟩ | ⟨_, a⟩ | ⟨_, a⟩ <;> omega
  rw [hr _ (by omega)]; exact h3 i hi
/-- the reference's first reading from an order on -/
def R1 (q : AI) (n n9 pos : Nat) (ord : Int32) (told N M K : AI) (un er rs dt an th : Int32) (mx : AI) (cf fc : Int32) : Option (Int32 × AI × AI × AI × Int32 × Int32 × Int32 × Int32 × AI × Int32 × Int32 × Int32 × Int32 × Int32 × AI × Int32 × Int32) :=
  (f9_isOrder q (nI n) (nI pos) ord told).bind fun r => f9_read_L19 q n9 (b2i r.1) N M K un (nI n) r.2.1 r.2.2.1 r.2.2.2 er rs dt an th mx cf fc
theorem L19_no {at_ ord : Int32} : f9_read_L19 q (f + 1) (b2i false) N M K un (nI n) at_ ord told er rs dt an th mx cf fc = some (nI 0, N, M, K, un, nI 0, at_, ord, told, at_, rs, dt, an, nI 1, mx, cf, fc) := by
  rw [f9_read_L19, if_pos b2iF, if_pos b2iF, rai_e, bnd]
theorem L19_end {ord : Int32} {at_ : Nat} (h : n ≤ at_) (h2 : at_ < 1000) : f9_read_L19 q (f + 1) (b2i true) N M K un (nI n) (nI at_) ord told er rs dt an th mx cf fc = f9_read_L94 q fuel (nI 0) (nI 0) (nI 1) N M K un (nI n) (nI 0) ord told er rs dt an th mx cf fc := by
  rw [f9_read_L19, if_neg b2iT, if_pos (by rw [nJ_le (by omega) (by omega)]; omega), if_neg b2iT]
theorem L19_sgn {ord : Int32} {at_ : Nat} (h : at_ < n) (h2 : n ≤ 60) (hs : f9_sign (nI 59) q (nI n) (nI at_) = some (false, nI at_)) : f9_read_L19 q (f + 1 + 1) (b2i true) N M K un (nI n) (nI at_) ord told er rs dt an th mx cf fc = some (nI 0, N, M, K, un, nI 0, nI at_, ord, told, nI at_, rs, dt, an, nI 1, mx, cf, fc) := by
  rw [f9_read_L19, if_neg b2iT, if_neg (by rw [nJ_le (by omega) (by omega)]; omega), hs, bnd]
  dsimp only
  rw [if_pos b2iF]
  exact L19_no
theorem L19_go {ord : Int32} {at_ : Nat} (h : at_ < n) (h2 : n ≤ 60) (hs : f9_sign (nI 59) q (nI n) (nI at_) = some (true, nI (at_ + 1))) {ok : Bool} {ord' at' : Int32} {told' : AI} (ho : f9_isOrder q (nI n) (nI (at_ + 1)) ord told = some (ok, at', ord', told')) : f9_read_L19 q (f + 1) (b2i true) N M K un (nI n) (nI at_) ord told er rs dt an th mx cf fc = R1 q n f (at_ + 1) ord told N M K un er rs dt an th mx cf fc := by
  rw [f9_read_L19, if_neg b2iT, if_neg (by rw [nJ_le (by omega) (by omega)]; omega), hs, bnd]
  dsimp only
  rw [if_neg b2iT]
  unfold R1
  rw [ho, bnd, bnd]
  dsimp only
  cases ok
  · rw [if_pos b2iF]; rfl
  · rw [if_neg b2iT]; rfl
theorem parse_L (hn : n ≤ 60) (hT : ∀ i, i < n → ch (p i) = ch (q i)) : ∀ (d cnt pos nf n9 : Nat) (rows : AI) (col ord : Int32) (told : AI), n - pos < d → pos ≤ n → 3 * cnt ≤ pos → d < nf → d + 1 < n9 →
    (∃ e rowsF cntF posF colF ordF toldF, f6_parse_L12 p (nI n) nf (nI cnt) rows (nI cnt) (nI pos) col = some (nI e, rowsF, cntF, posF, colF) ∧ e ≤ 60 ∧ R1 q n n9 pos ord told N M K un er rs dt an th mx cf fc = some (nI 0, N, M, K, un, nI 0, nI e, ordF, toldF, nI e, rs, dt, an, nI 1, mx, cf, fc)) ∨
    (∃ m rowsF posF colF ordF toldF, f6_parse_L12 p (nI n) nf (nI cnt) rows (nI cnt) (nI pos) col = some (-1, rowsF, nI (cnt + m), posF, colF) ∧ cnt + m ≤ 21 ∧ R1 q n n9 pos ord told N M K un er rs dt an th mx cf fc = f9_read_L94 q fuel (nI 0) (nI 0) (nI 1) N M K un (nI n) (nI 0) ordF toldF er rs dt an th mx cf fc ∧ (∀ j, j < 4 * cnt → rowsF j = rows j) ∧ SQ rowsF q n m cnt pos) := by
  intro d
  induction d with
  | zero => intro cnt pos nf n9 rows col ord told h; omega
  | succ d ih =>
    intro cnt pos nf n9 rows col ord told h1 h2 h3 h4 h5
    obtain ⟨nf, rfl⟩ : ∃ n', nf = n' + 1 := ⟨nf - 1, by omega⟩
    obtain ⟨n9, rfl⟩ : ∃ n', n9 = n' + 1 + 1 := ⟨n9 - 2, by omega⟩
    obtain ⟨ok, rows', cnt', pos', col', w1, w2, w3, w4, w5⟩ := ord_2 (rows := rows) (col := col) hn h2 hT (show cnt ≤ 20 by omega)
    obtain ⟨ord', told', v1, v2⟩ := w5 ord told
    have hR : R1 q n (n9 + 1 + 1) pos ord told N M K un er rs dt an th mx cf fc = f9_read_L19 q (n9 + 1 + 1) (b2i ok) N M K un (nI n) (nI pos') ord' told' er rs dt an th mx cf fc := by
      unfold R1
      rw [v1, bnd]
    rw [f6_parse_L12, if_neg (by rw [nJ_le (by omega) (by omega)]; omega), w1, bnd, hR]
    dsimp only
    cases ok with
    | false =>
      left
      rw [if_pos b2iF, L19_no]
      exact ⟨pos', _, _, _, _, _, _, rfl, by omega, rfl⟩
    | true =>
      obtain ⟨rfl, hpos, hrows⟩ := w4 rfl
      rw [if_neg b2iT]
      rcases sig_2 (e := 59) hn w3 hT (by decide +kernel) (by omega) (by decide) (by decide) with ⟨a, -, t⟩ | ⟨-, t⟩
      · -- a semicolon
        have hs : ch (p pos') = nI 59 := by
          unfold f9_sign at t
          rw [if_neg (by rw [nJ_eq (by omega) (by omega)]; omega), inb_t (by omega) (by omega), if_pos rfl, nJ_nat (by omega), ← hT pos' a] at t
          by_cases e : ch (p pos') = ch (nI 59)
          · rw [e]; decide +kernel
          · rw [if_neg e] at t; cases t
        rw [sg_in hn a, bnd, hs, if_neg (show ¬ nI 59 = -1 by decide), if_pos rfl, lt_eq, nI_add, nI_add]
        obtain ⟨ok2, rows2, cnt2, pos2, col2, u1, u2, u3, u4, u5⟩ := ord_2 (rows := rows') (col := col') hn (show pos' + 1 ≤ n by omega) hT (show cnt + 1 ≤ 20 by omega)
        obtain ⟨ord2, told2, z1, z2⟩ := u5 ord' told'
        rw [L19_go a hn t z1]
        rcases ih (cnt + 1) (pos' + 1) nf (n9 + 1) rows' col' ord' told' (by omega) (by omega) (by omega) (by omega) (by omega) with ⟨e, rF, cF, pF, colF, oF, tF, g1, g2, g3⟩ | ⟨m, rF, pF, colF, oF, tF, g1, g2, g3, g4, g5⟩
        · left
          exact ⟨e, rF, cF, pF, colF, oF, tF, g1, g2, g3⟩
        · right
          refine ⟨m + 1, rF, pF, colF, oF, tF, by rw [show cnt + (m + 1) = cnt + 1 + m by omega]; exact g1, by omega, g3, fun j hj => (g4 j (by omega)).trans (hrows j hj), pos', w3, fun ord told => ?_, Or.inr ⟨?_, t, g5⟩⟩
          · obtain ⟨o3, t3, y1, y2⟩ := w5 ord told
            exact ⟨o3, t3, y1, ROW_c (y2 rfl) g4⟩
          · cases m with
            | zero => exact absurd g5 id
            | succ m => omega
      · -- no semicolon
        by_cases hend : pos' < n
        · have hs : ¬ ch (p pos') = nI 59 := by
            intro e
            unfold f9_sign at t
            rw [if_neg (by rw [nJ_eq (by omega) (by omega)]; omega), inb_t (by omega) (by omega), if_pos rfl, nJ_nat (by omega), ← hT pos' hend, e, if_pos (by decide +kernel), lt_eq] at t
            cases t
          have hm : ¬ ch (p pos') = -1 := by
            intro e
            have e2 : ch (p pos') = nI 65535 ∨ True := Or.inr trivial
            have h0 : 0 ≤ (ch (p pos')).toInt := by
              unfold ch
              have h1 : ((p pos').toUInt32 % 65536).toNat < 65536 := by rw [UInt32.toNat_mod]; exact Nat.mod_lt _ (by decide)
              have h3 : ((p pos').toUInt32 % 65536).toInt32.toInt = ((p pos').toUInt32 % 65536).toBitVec.toInt := rfl
              rw [h3, BitVec.toInt_eq_toNat_of_lt (by have h4 : ((p pos').toUInt32 % 65536).toBitVec.toNat = ((p pos').toUInt32 % 65536).toNat := rfl; omega)]
              omega
            rw [e] at h0
            exact absurd h0 (by decide)
          left
          rw [sg_in hn hend, bnd, if_neg hm, if_neg hs, L19_sgn hend hn t]
          exact ⟨pos', _, _, _, _, _, _, rfl, by omega, rfl⟩
        · right
          have : pos' = n := by omega
          subst this
          rw [sg_out hn (by omega) (by omega), bnd, if_pos rfl, L19_end (by omega) (by omega)]
          refine ⟨1, rows', _, _, _, _, rfl, by omega, rfl, hrows, pos', by omega, fun ord told => ?_, Or.inl ⟨rfl, t⟩⟩
          obtain ⟨o3, t3, y1, y2⟩ := w5 ord told
          exact ⟨o3, t3, y1, y2 rfl⟩
end MY
/-! carrying a text out -/
section MZ
variable {S : SS} {φ φ' : Fo} {p q rows told N M K mx row : AI} {x x1 x2 x3 col un er rs dt rs9 dt9 an th cf fc cc lo ord : Int32} {n m k pos cnt j e sh f len tot : Nat}
theorem numAt (hc : cnt ≤ 20) (hj : j < 4) : f6_numberAt (nI cnt) (nI j) rows = some (rows (4 * cnt + j)) := by
  unfold f6_numberAt
  rw [nJ_mul, nI_add, if_neg (by rw [nJ_lt0 (by omega)]; exact fun q => q), if_neg (by rw [nJ_le (by omega) (by omega)]; omega), inb_t (by omega) (by omega), if_pos rfl, nJ_nat (by omega), Nat.mul_comm]
theorem carry_2 (hR : ROW rows cnt ord told) (hc : cnt ≤ 20) (h : WF S) (hF : RF φ S) (hN : RN N S) (hE : RE rs dt rs9 dt9) : ∃ r rs' dt' row' cc' lo' φ' is N' rs9' dt9' an' m' c' f', f6_carryOutOrder (nI cnt) rows rs dt row cc lo φ = some (r, rs', dt', row', cc', lo', φ') ∧ f9_carries N ord told rs9 dt9 an mx cf fc = some (is, N', rs9', dt9', an', m', c', f') ∧ RE rs' dt' rs9' dt9' ∧ OKR φ N r φ' is N' an' := by
  obtain ⟨h1, ar, h2, h3⟩ := hR
  unfold f6_carryOutOrder f9_carries
  rw [numAt hc (by omega), numAt hc (by omega), numAt hc (by omega), numAt hc (by omega), bnd, bnd, bnd, bnd, h1, show (nI 0).toNatClampNeg = 0 from rfl, show (nI 1).toNatClampNeg = 1 from rfl, show (nI 2).toNatClampNeg = 2 from rfl]
  rcases h2 with ⟨e, rfl⟩ | ⟨e, rfl⟩ | ⟨e, rfl⟩ | ⟨e, rfl⟩ | ⟨e, rfl⟩ | ⟨e, rfl⟩
  · rw [e, if_pos rfl, if_pos rfl, show rows (4 * cnt + 1) = told 0 from h3 0 (by omega), show rows (4 * cnt + 2) = told 1 from h3 1 (by omega), show rows (4 * cnt + 3) = told 2 from h3 2 (by omega)]
    obtain ⟨r, rs', dt', row', φ', is, N', rs9', dt9', an', q1, q2, q3, q4⟩ := edit_2 (x1 := told 0) (x2 := told 1) (x3 := told 2) (an9 := an) (row := row) h hF hN hE
    rw [q1, q2]
    exact ⟨_, _, _, _, _, _, _, _, _, _, _, _, _, _, _, rfl, rfl, q3, q4⟩
  · rw [e, if_neg (by decide), if_pos rfl, if_neg (by decide), if_pos rfl, show rows (4 * cnt + 1) = told 0 from h3 0 (by omega)]
    obtain ⟨r, rs', dt', φ', is, N', rs9', dt9', an', q1, q2, q3, q4⟩ := fork_2 (x1 := told 0) (an9 := an) h hF hN hE
    rw [q1, q2]
    exact ⟨_, _, _, _, _, _, _, _, _, _, _, _, _, _, _, rfl, rfl, q3, OKQ_R q4⟩
  · rw [e, if_neg (by decide), if_neg (by decide), if_pos rfl, if_neg (by decide), if_neg (by decide), if_pos rfl, show rows (4 * cnt + 1) = told 0 from h3 0 (by omega), show rows (4 * cnt + 2) = told 1 from h3 1 (by omega), show rows (4 * cnt + 3) = told 2 from h3 2 (by omega)]
    obtain ⟨r, rs', dt', row', cc', lo', φ', is, N', rs9', dt9', an', m', c', f', q1, q2, q3, q4⟩ := merge_2 (x1 := told 0) (x2 := told 1) (x3 := told 2) (an9 := an) (row := row) (cc := cc) (lo := lo) (row9 := mx) (cc9 := cf) (fc9 := fc) h hF hN hE
    rw [q1, q2]
    exact ⟨_, _, _, _, _, _, _, _, _, _, _, _, _, _, _, rfl, rfl, q3, q4⟩
  · rw [e, if_neg (by decide), if_neg (by decide), if_neg (by decide), if_pos rfl, if_neg (by decide), if_neg (by decide), if_neg (by decide), if_pos rfl, show rows (4 * cnt + 1) = told 0 from h3 0 (by omega), show rows (4 * cnt + 2) = told 1 from h3 1 (by omega), show rows (4 * cnt + 3) = told 2 from h3 2 (by omega)]
    obtain ⟨r, rs', dt', row', cc', lo', φ', is, N', rs9', dt9', an', m', c', f', q1, q2, q3, q4⟩ := pick_2 (x1 := told 0) (x2 := told 1) (x3 := told 2) (an9 := an) (row := row) (cc := cc) (lo := lo) (row9 := mx) (cc9 := cf) (fc9 := fc) h hF hN hE
    rw [q1, q2]
    exact ⟨_, _, _, _, _, _, _, _, _, _, _, _, _, _, _, rfl, rfl, q3, q4⟩
  · rw [e, if_neg (by decide), if_neg (by decide), if_neg (by decide), if_neg (by decide), if_neg (by decide), if_pos rfl, if_neg (by decide), if_neg (by decide), if_neg (by decide), if_neg (by decide), if_pos rfl, show rows (4 * cnt + 1) = told 0 from h3 0 (by omega), show rows (4 * cnt + 2) = told 1 from h3 1 (by omega), show rows (4 * cnt + 3) = told 2 from h3 2 (by omega)]
    obtain ⟨r, rs', dt', row', cc', lo', φ', is, N', rs9', dt9', an', m', c', f', q1, q2, q3, q4⟩ := revert_2 (x1 := told 0) (x2 := told 1) (x3 := told 2) (an9 := an) (row := row) (cc := cc) (lo := lo) (row9 := mx) (cc9 := cf) (fc9 := fc) h hF hN hE
    rw [q1, q2]
    exact ⟨_, _, _, _, _, _, _, _, _, _, _, _, _, _, _, rfl, rfl, q3, q4⟩
  · rw [e, if_neg (by decide), if_neg (by decide), if_neg (by decide), if_neg (by decide), if_pos rfl, if_neg (by decide), if_neg (by decide), if_neg (by decide), if_neg (by decide), if_neg (by decide), show rows (4 * cnt + 1) = told 0 from h3 0 (by omega), show rows (4 * cnt + 2) = told 1 from h3 1 (by omega)]
    obtain ⟨r, rs', dt', φ', is, N', rs9', dt9', an', q1, q2, q3, q4⟩ := reset_2 (x1 := told 0) (x2 := told 1) (an9 := an) h hF hN hE
    rw [q1, q2]
    exact ⟨_, _, _, _, _, _, _, _, _, _, _, _, _, _, _, rfl, rfl, q3, OKQ_R q4⟩
theorem L94_one {at' ord' is rs9' dt9' an' c' f' : Int32} {N' told' m' : AI} (ho : f9_isOrder q (nI len) (nI pos) ord told = some (true, at', ord', told')) (hcr : f9_carries N ord' told' rs9 dt9 an mx cf fc = some (is, N', rs9', dt9', an', m', c', f')) : (¬ is = 0 → f9_read_L94 q (f + 1) x2 x3 (nI 1) N M K un (nI len) (nI pos) ord told er rs9 dt9 an th mx cf fc = f9_read_L94 q f x2 is (nI 0) N' M K un (nI len) at' ord' told' er rs9' dt9' an' th m' c' f') ∧ (is = nI 0 → ∀ {b : Bool} {at2 : Int32}, f9_sign (nI 59) q (nI len) at' = some (b, at2) → f9_read_L94 q (f + 1) x2 x3 (nI 1) N M K un (nI len) (nI pos) ord told er rs9 dt9 an th mx cf fc = f9_read_L94 q f (x2 + nI 1) is (b2i b) N' M K un (nI len) at2 ord' told' er rs9' dt9' an' th m' c' f') := by
  constructor
  · intro hi
    rw [f9_read_L94, if_neg (show ¬ nI 1 = 0 by decide), ho, bnd]
    dsimp only
    rw [hcr, bnd]
    dsimp only
    rw [if_neg hi, if_neg hi]
  · intro hi b at2 hs
    subst hi
    rw [f9_read_L94, if_neg (show ¬ nI 1 = 0 by decide), ho, bnd]
    dsimp only
    rw [hcr, bnd]
    dsimp only
    rw [if_pos (show nI 0 = 0 from rfl), if_pos (show nI 0 = 0 from rfl), hs, bnd]
    dsimp only
    cases b
    · rw [if_pos b2iF]; rfl
    · rw [if_neg b2iT]; rfl
def OKL (tot : Nat) (r : Int32) (φ' : Fo) (is xc : Int32) (N' : AI) : Prop := (∃ S', WF S' ∧ RF φ' S' ∧ RN N' S' ∧ r = nI tot ∧ xc = nI tot ∧ is = nI 0) ∨ (r = -3 ∧ is = nI 3) ∨ (r = -2 ∧ (is = nI 1 ∨ is = nI 2))
theorem carry_L (ht : tot ≤ 21) : ∀ (m cnt pos n n9 : Nat) (S : SS) (φ : Fo) (N : AI) (rs dt rs9 dt9 an : Int32) (row mx : AI) (cc lo cf fc ord : Int32) (told : AI), SQ rows q len m cnt pos → cnt + m = tot → m < n → m < n9 → WF S → RF φ S → RN N S → RE rs dt rs9 dt9 →
    ∃ r rs' dt' row' cc' lo' φ' is N' rs9' dt9' an' mx' cf' fc' xc at' ord' told' k9, f6_carryOut_L2 rows (nI tot) n (nI cnt) rs dt row cc lo φ = some (r, rs', dt', row', cc', lo', φ') ∧ f9_read_L94 q (n9 + 1) (nI cnt) (nI 0) (nI 1) N M K un (nI len) (nI pos) ord told er rs9 dt9 an th mx cf fc = f9_read_L94 q (k9 + 1) xc is (nI 0) N' M K un (nI len) at' ord' told' er rs9' dt9' an' th mx' cf' fc' ∧ RE rs' dt' rs9' dt9' ∧ OKL tot r φ' is xc N' := by
  intro m
  induction m with
  | zero => intro cnt pos n n9 S φ N rs dt rs9 dt9 an row mx cc lo cf fc ord told h; exact absurd h id
  | succ m ih =>
    intro cnt pos n n9 S φ N rs dt rs9 dt9 an row mx cc lo cf fc ord told hS hct hn hn9 h hF hN hE
    obtain ⟨n, rfl⟩ : ∃ n', n = n' + 1 := ⟨n - 1, by omega⟩
    obtain ⟨n9, rfl⟩ : ∃ n', n9 = n' + 1 := ⟨n9 - 1, by omega⟩
    obtain ⟨pos', hp', hord, hsg⟩ := hS
    obtain ⟨ord', told', w1, w2⟩ := hord ord told
    obtain ⟨r, rs', dt', row', cc', lo', φ', is, N', rs9', dt9', an', m', c', f', q1, q2, q3, q4⟩ := carry_2 (an := an) (row := row) (cc := cc) (lo := lo) (mx := mx) (cf := cf) (fc := fc) w2 (by omega) h hF hN hE
    obtain ⟨z1, z2⟩ := L94_one (f := n9 + 1) (x2 := nI cnt) (x3 := nI 0) (M := M) (K := K) (un := un) (er := er) (th := th) w1 q2
    rw [f6_carryOut_L2, if_neg (by rw [nJ_le (by omega) (by omega)]; omega), q1, bnd]
    dsimp only
    rcases q4 with ⟨a, S', v1, v2, v3, v4, rfl, rfl, rfl⟩ | ⟨v1, v2, v3⟩
    · rw [if_pos (show (0 : Int32) ≤ nI a from nI_pos' v4), nI_add]
      rcases hsg with ⟨e0, s⟩ | ⟨e0, s, hS2⟩
      · subst e0
        obtain ⟨n, rfl⟩ : ∃ n', n = n' + 1 := ⟨n - 1, by omega⟩
        rw [z2 rfl s, f6_carryOut_L2, if_pos (by rw [nJ_le (by omega) (by omega)]; omega), nI_add]
        refine ⟨_, _, _, _, _, _, _, _, _, _, _, _, _, _, _, _, _, _, _, n9, rfl, rfl, q3, Or.inl ⟨S', v1, v2, v3, rfl, ?_, rfl⟩⟩
        rw [show cnt + 1 = tot by omega]
      · rw [z2 rfl s, nI_add]
        exact ih (cnt + 1) (pos' + 1) n n9 S' φ' N' rs' dt' rs9' dt9' _ row' m' cc' lo' c' f' ord' told' hS2 (by omega) (by omega) (by omega) v1 v2 v3 q3
    · rcases v3 with ⟨e1, e2⟩ | ⟨e1, e2⟩ | ⟨e1, e2⟩
      · subst e1; subst e2
        rw [if_neg (by decide), if_neg (by decide), z1 (by decide)]
        exact ⟨_, _, _, _, _, _, _, _, _, _, _, _, _, _, _, _, _, _, _, n9, rfl, rfl, q3, Or.inr (Or.inr ⟨rfl, Or.inl rfl⟩)⟩
      · subst e1; subst e2
        rw [if_neg (by decide), if_neg (by decide), z1 (by decide)]
        exact ⟨_, _, _, _, _, _, _, _, _, _, _, _, _, _, _, _, _, _, _, n9, rfl, rfl, q3, Or.inr (Or.inr ⟨rfl, Or.inr rfl⟩)⟩
      · subst e1; subst e2
        rw [if_neg (by decide), if_pos rfl, z1 (by decide)]
        exact ⟨_, _, _, _, _, _, _, _, _, _, _, _, _, _, _, _, _, _, _, n9, rfl, rfl, q3, Or.inr (Or.inl ⟨rfl, rfl⟩)⟩
theorem L94_fin {at_ : Int32} : (∀ {K' : AI} {un' : Int32}, f9_keeps x2 M K un = some (x2, K', un') → f9_read_L94 q (f + 1) x2 (nI 0) (nI 0) N M K un (nI len) at_ ord told er rs9 dt9 an th mx cf fc = some (x2, N, M, K', un', nI 0, at_, ord, told, er, rs9, dt9, an, th, mx, cf, fc)) ∧ (∀ {N' : AI}, f9_comesBack N M = some N' → f9_read_L94 q (f + 1) x2 (nI 3) (nI 0) N M K un (nI len) at_ ord told er rs9 dt9 an th mx cf fc = some (nI 0, N', M, K, un, nI 0, at_, ord, told, er, rs9, dt9, an, nI 2, mx, cf, fc) ∧ ∀ {is : Int32}, is = nI 1 ∨ is = nI 2 → f9_read_L94 q (f + 1) x2 is (nI 0) N M K un (nI len) at_ ord told er rs9 dt9 an th mx cf fc = some (nI 0, N', M, K, un, nI 0, at_, ord, told, er, rs9, dt9, an, nI 1, mx, cf, fc)) := by
  refine ⟨fun hk => ?_, fun hb => ⟨?_, fun hi => ?_⟩⟩
  · rw [f9_read_L94, if_pos (show nI 0 = 0 from rfl), if_pos (show nI 0 = 0 from rfl), hk, bnd]
  · rw [f9_read_L94, if_pos (show nI 0 = 0 from rfl), if_neg (show ¬ nI 3 = 0 by decide), hb, bnd, if_pos rfl, rai_e, bnd]
  · rcases hi with rfl | rfl
    · rw [f9_read_L94, if_pos (show nI 0 = 0 from rfl), if_neg (show ¬ nI 1 = 0 by decide), hb, bnd, if_neg (by decide), rai_e, bnd]
    · rw [f9_read_L94, if_pos (show nI 0 = 0 from rfl), if_neg (show ¬ nI 2 = 0 by decide), hb, bnd, if_neg (by decide), rai_e, bnd]
theorem read_R1 {M' at_ : AI} {at0 : Int32} (ht : f9_tries N M th = some (M', nI 0)) : f9_read N M K un q (nI len) at0 ord told er rs9 dt9 an th mx cf fc = R1 q len fuel 0 ord told N M' K un (-1) rs9 dt9 an (nI 0) mx cf fc := by
  unfold f9_read R1
  rw [ht, bnd]
end MZ
