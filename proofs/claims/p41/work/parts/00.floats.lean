/-! a law of the library's floats, named first: what lies behind it is read over the whole library -/
theorem fl_first {x : UInt32} : FP.Core.val32 x ≠ FP.Core.Datum.nan ↔ x.toNat % 2 ^ 31 ≤ 2139095040 := FP.Core.ne_nan32 x
