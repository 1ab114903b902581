theorem jd_nn (n : Nat) (vs vp vq : Nat → Int32) (vf : Nat → UInt32) : ¬ jd n vs vp vq vf < (0 : Int32) := by
  unfold jd
  cases offB vs (vf 0) (vf 1) <;> cases fastB n vp vq (vf 0) (vf 2) <;> cases driftB vs vf (vf 2) <;> decide
theorem nI_nn {j : Nat} (h : j < 100000) : ¬ nI j < (0 : Int32) := by
  rw [i_lt, i_nI (by omega), c_0]
  omega
