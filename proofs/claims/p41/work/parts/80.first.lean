/-! a fresh object, and the law's first piece, which no script reaches -/
def tNew : TO := (0, -1, -1, -1, fun _ => 0, nI 0, -1, fo0, fo0, fo0, fun _ => fo0, 0, 0, fun _ => 0, nI 0, nI 0, fun _ => 0, nI 0, fun _ => 0, nI 0, nI 0, nI 0, fun _ => 0, nI 0)
theorem tNew_M : MK S0 tNew := ⟨S0_wf, S0_rf, rfl, ⟨0, by omega, rfl⟩, Or.inl rfl, 0, fun _ => fo0, 0, by omega, by omega, rfl, rfl, fun t ht => absurd ht (by omega)⟩
set_option maxRecDepth 100000 in
theorem fw_e_n : (fw_e tNew).isSome = true := by decide +kernel
theorem fw_e_x : ∃ τ, fw_e tNew = some τ := Option.isSome_iff_exists.mp fw_e_n
