/-! the states that are kept, on both sides -/
/-! the model keeps -/
theorem ix_a (c j : Nat) : nI c * (40 : Int32) + nI j = nI (40 * c + j) := by
  rw [show (40 : Int32) = nI 40 by rfl, nI_mul, nI_add, Nat.mul_comm]
theorem ix_b (c j : Nat) : (5 : Int32) * nI c + nI j = nI (5 * c + j) := by
  rw [show (5 : Int32) = nI 5 by rfl, nI_mul, nI_add]
theorem nI_le0 {a j : Nat} (ha : a < 1000) (hj : j < 1000) : nI a ≤ nI j ↔ a ≤ j := nI_leI (by omega) (by omega)
theorem hset_eq {hh : Nat → Sx} {c : Nat} {x : Cx} : (hset hh c x c).2 = x := by
  unfold hset
  rw [if_pos rfl]
theorem hset_ne {hh : Nat → Sx} {c i : Nat} {x : Cx} (h : ¬ i = c) : hset hh c x i = hh i := by
  unfold hset
  rw [if_neg h]
