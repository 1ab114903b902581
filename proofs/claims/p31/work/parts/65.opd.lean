/-! sensors, text, undo, slots -/
theorem c_32 : (32 : Int32).toInt = 32 := by decide
theorem c_126 : (126 : Int32).toInt = 126 := by decide
theorem nar_by : ∀ k : Nat, k < 127 → vp_nar .byte (Int8.toInt32 (Int32.toInt8 (nI k))) = nI k := by decide +kernel
