/-! the calls that record -/
/-- a new ship and new numbers -/
theorem plN_ok {m : Nat} {vn : Nat → Int32} : okN m (upd (upd (upd (upd (upd vn 0 0) 5 (-5)) 2 0) 4 0) 3 0) := ⟨.inl rfl, (by decide : 0 ≤ (0 : Int32).toInt ∧ (0 : Int32).toInt ≤ 5), .inl rfl, .inr rfl⟩
theorem sl_facts : ∀ j : Nat, j < 8 → 0 ≤ (sLE j).toInt ∧ (sGR j).toInt ≤ 10000 ∧ (j = 4 → (sGR j).toInt ≤ 500) ∧ (j = 5 → (sGR j).toInt ≤ 500) := by decide +kernel
theorem c_7 : (7 : Int32).toInt = 7 := by decide
theorem nar_0 : vp_nar .boolean (0 : Int32) = 0 := by decide +kernel
theorem nar_1 : vp_nar .boolean (1 : Int32) = 1 := by decide +kernel
