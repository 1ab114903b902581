/-! whole numbers of the machine as whole numbers -/
theorem i_le (a b : Int32) : a ≤ b ↔ a.toInt ≤ b.toInt := Int32.le_iff_toInt_le
theorem i_lt (a b : Int32) : a < b ↔ a.toInt < b.toInt := Int32.lt_iff_toInt_lt
theorem i_eq (a b : Int32) : a = b ↔ a.toInt = b.toInt := Int32.toInt_inj.symm
theorem i_add {a b : Int32} (h1 : -2147483648 ≤ a.toInt + b.toInt) (h2 : a.toInt + b.toInt < 2147483648) : (a + b).toInt = a.toInt + b.toInt := by
  rw [Int32.toInt_add, Int.bmod_eq_of_le (by omega) (by omega)]
theorem i_sub {a b : Int32} (h1 : -2147483648 ≤ a.toInt - b.toInt) (h2 : a.toInt - b.toInt < 2147483648) : (a - b).toInt = a.toInt - b.toInt := by
  rw [Int32.toInt_sub, Int.bmod_eq_of_le (by omega) (by omega)]
theorem i_mul {a b : Int32} (h1 : -2147483648 ≤ a.toInt * b.toInt) (h2 : a.toInt * b.toInt < 2147483648) : (a * b).toInt = a.toInt * b.toInt := by
  rw [Int32.toInt_mul, Int.bmod_eq_of_le (by omega) (by omega)]
theorem i_neg {a : Int32} (h1 : -2147483648 < a.toInt) : (-a).toInt = -a.toInt := by
  have := a.toInt_lt
  rw [Int32.toInt_neg, Int.bmod_eq_of_le (by omega) (by omega)]
theorem i_cl (a : Int32) : a.toNatClampNeg = a.toInt.toNat := rfl
theorem i_in (a : Int32) (n : Nat) : vp_in a n ↔ 0 ≤ a.toInt ∧ a.toInt < n := by
  unfold vp_in
  rw [Int32.lt_iff_toInt_lt, i_cl]
  simp only [Int32.toInt_zero]
  omega
theorem i_nI {j : Nat} (h : j < 2147483648) : (nI j).toInt = j := by
  unfold nI
  rw [Int32.toInt_ofNat_of_lt (by omega)]
theorem i_of {a : Int32} (h : 0 ≤ a.toInt) : a = nI a.toInt.toNat := by
  have := a.toInt_lt
  rw [i_eq, i_nI (by omega)]
  omega
theorem nI_m1 {j : Nat} (h : 1 ≤ j) : nI j - 1 = nI (j - 1) := by
  obtain ⟨k, rfl⟩ : ∃ k, j = k + 1 := ⟨j - 1, by omega⟩
  rw [nI_pred]
  rfl
theorem nI_p1 {j : Nat} (h : 1 ≤ j) : nI j + (-1 : Int32) = nI (j - 1) := by
  rw [← nI_m1 h]
  rw [i_eq, Int32.toInt_add, Int32.toInt_sub]
  rfl
theorem nI_in2 {j n : Nat} (h : j < n) (hn : n < 2147483648) : vp_in (nI j) n := by
  rw [i_in, i_nI (by omega)]
  omega
theorem nI_cl {j : Nat} (h : j < 2147483648) : (nI j).toNatClampNeg = j := by
  rw [i_cl, i_nI h]
  rfl
