/-! floats: magnitudes, no NaN, no zero with a sign -/
/-- the size of a is below 2 to the K - 127 -/
def mg (K : Nat) (a : UInt32) : Prop := a.toNat % 2 ^ 31 < K * 2 ^ 23
/-- .. at most 2 to the K - 127 -/
def ml (K : Nat) (a : UInt32) : Prop := a.toNat % 2 ^ 31 ≤ K * 2 ^ 23
theorem mg.mono {K L : Nat} {a : UInt32} (h : mg K a) (hl : K ≤ L) : mg L a := Nat.lt_of_lt_of_le h (Nat.mul_le_mul_right _ hl)
theorem ml.mg {K : Nat} {a : UInt32} (h : ml K a) : mg (K + 1) a := by
  unfold ml at h
  show _ < (K + 1) * 2 ^ 23
  rw [Nat.add_mul]
  exact Nat.lt_of_le_of_lt h (Nat.lt_add_of_pos_right (by decide))
theorem mg.ml {K : Nat} {a : UInt32} (h : mg K a) : ml K a := Nat.le_of_lt h
theorem ml.mono {K L : Nat} {a : UInt32} (h : ml K a) (hl : K ≤ L) : ml L a := Nat.le_trans h (Nat.mul_le_mul_right _ hl)
theorem mg.n32 {K : Nat} {a : UInt32} (h : mg K a) (hK : K ≤ 255) : vf_n32 a := by
  have h2 : a.toNat % 2 ^ 31 < 255 * 2 ^ 23 := h.mono hK
  unfold vf_n32
  rw [UInt32.le_iff_toNat_le, FP.Core.mask_toNat32]
  exact Nat.le_of_lt h2
theorem mg.ffin {K : Nat} {a : UInt32} (h : mg K a) (hK : K ≤ 255) : FP.Core.FFin a := FP.Core.fin_of_lt32 h hK
theorem mg.nn {K : Nat} {a : UInt32} (h : mg K a) (hK : K ≤ 255) : FP.Core.val32 a ≠ .nan := (h.ffin hK).ne_nan
theorem mg_add {K : Nat} {a b : UInt32} (ha : mg K a) (hb : mg K b) (hK : K ≤ 255) : mg (K + 2) (FP.fadd a b) := FP.Core.fadd_mag ha hb hK
theorem mg_sub {K : Nat} {a b : UInt32} (ha : mg K a) (hb : mg K b) (hK : K ≤ 255) : mg (K + 2) (FP.fsub a b) := FP.Core.fsub_mag ha hb hK
theorem mg_mul {K L : Nat} {a b : UInt32} (ha : mg K a) (hb : mg L b) (hK : K ≤ 255) (hL : L ≤ 255) : mg (K + L - 129 + 3) (FP.fmul a b) := FP.Core.fmul_mag ha hb hK hL
theorem mg_div {K L : Nat} {a b : UInt32} (ha : mg K a) (hb : L * 2 ^ 23 ≤ b.toNat % 2 ^ 31) (hb2 : b.toNat % 2 ^ 31 < 255 * 2 ^ 23) (hK : K ≤ 255) (hL : 1 ≤ L) : mg (K + (149 - 23 - 1) - L + 3) (FP.fdiv a b) := FP.Core.fdiv_mag ha hb hb2 hK hL
theorem mg_i2f (v : Int32) : mg 160 (FP.i2f v) := FP.Core.i2f_mag v
theorem fneg_toNat (a : UInt32) : (FP.fneg a).toNat = a.toNat + 2 ^ 31 ∨ a.toNat = (FP.fneg a).toNat + 2 ^ 31 := by
  have e : (FP.fneg a).toNat = a.toNat ^^^ 2 ^ 31 := by
    unfold FP.fneg
    rw [UInt32.toNat_xor]
    rfl
  have hlt := a.toNat_lt
  have hd := Nat.div_add_mod a.toNat (2 ^ 31)
  have hd2 := Nat.div_add_mod (FP.fneg a).toNat (2 ^ 31)
  have h1 : (FP.fneg a).toNat / 2 ^ 31 = (a.toNat / 2 ^ 31) ^^^ 1 := by
    rw [e, Nat.xor_div_two_pow]
  have h2 : (FP.fneg a).toNat % 2 ^ 31 = a.toNat % 2 ^ 31 := by
    rw [e, Nat.xor_mod_two_pow]
    simp
  rw [h1, h2] at hd2
  have h3 : a.toNat / 2 ^ 31 = 0 ∨ a.toNat / 2 ^ 31 = 1 := by
    have : a.toNat / 2 ^ 31 < 2 := Nat.div_lt_of_lt_mul (by exact hlt)
    omega
  rcases h3 with h | h <;> rw [h] at hd hd2
  · left
    have : (0 ^^^ 1 : Nat) = 1 := rfl
    rw [this] at hd2
    omega
  · right
    have : (1 ^^^ 1 : Nat) = 0 := rfl
    rw [this] at hd2
    omega
theorem fneg_mod (a : UInt32) : (FP.fneg a).toNat % 2 ^ 31 = a.toNat % 2 ^ 31 := by
  rcases fneg_toNat a with h | h <;> rw [h] <;> simp
theorem mg_neg {K : Nat} {a : UInt32} (h : mg K a) : mg K (FP.fneg a) := by
  unfold mg at *
  rw [fneg_mod]
  exact h
theorem ml_neg {K : Nat} {a : UInt32} (h : ml K a) : ml K (FP.fneg a) := by
  unfold ml at *
  rw [fneg_mod]
  exact h
theorem fneg_val (a : UInt32) : FP.Core.val32 (FP.fneg a) = FP.Core.negate (FP.Core.val32 a) := FP.Core.val32_neg_bits ((fneg_toNat a).symm.imp (fun h => h) (fun h => h))
/-! rounding a sum that is hardly above a power of two -/
theorem rr_sat (sg : Bool) {N K : Nat} (h27 : 27 ≤ K) (h254 : K ≤ 254) (h1 : 2 ^ (K + 22) ≤ N) (h2 : N ≤ 2 ^ (K + 22) + 2 ^ (K - 4)) : FP.Core.roundRatio FP.Core.b32 sg N 1 (-149) = .fin sg (2 ^ 23) ((K : Int) - 150) := by
  have p1 : 0 < 2 ^ (K + 22) := Nat.two_pow_pos _
  have hN : N ≠ 0 := by omega
  have e1 : 2 ^ (K + 23) = 2 * 2 ^ (K + 22) := by rw [show K + 23 = (K + 22) + 1 by omega, Nat.pow_succ, Nat.mul_comm]
  have e2 : 2 ^ (K + 22) = 2 ^ 23 * 2 ^ (K - 1) := by rw [← Nat.pow_add, show 23 + (K - 1) = K + 22 by omega]
  have e3 : 2 ^ (K - 1) = 8 * 2 ^ (K - 4) := by rw [show K - 1 = (K - 4) + 3 by omega, Nat.pow_add, Nat.mul_comm]
  have p4 : 0 < 2 ^ (K - 4) := Nat.two_pow_pos _
  have hq : FP.Core.quantum FP.Core.b32 N 1 (-149) = (K : Int) - 150 := by
    refine FP.Core.quantum_eq (by omega) (by decide) (by rw [FP.Core.qmin_b32]; omega) ?_ (Or.inr ?_)
    · show FP.Core.Below N 1 ((K : Int) - 150 - -149 + ((24 : Nat) : Int))
      unfold FP.Core.Below
      rw [show (-((K : Int) - 150 - -149 + ((24 : Nat) : Int))).toNat = 0 by omega, show ((K : Int) - 150 - -149 + ((24 : Nat) : Int)).toNat = K + 23 by omega]
      omega
    · show ¬ FP.Core.Below N 1 ((K : Int) - 150 - -149 + (((24 : Nat) : Int) - 1))
      unfold FP.Core.Below
      rw [show (-((K : Int) - 150 - -149 + (((24 : Nat) : Int) - 1))).toNat = 0 by omega, show ((K : Int) - 150 - -149 + (((24 : Nat) : Int) - 1)).toNat = K + 22 by omega]
      omega
  unfold FP.Core.roundRatio
  rw [if_neg hN, hq]
  unfold FP.Core.roundAt FP.Core.unitsNum FP.Core.unitsDen
  rw [show ((-149 : Int) - ((K : Int) - 150)).toNat = 0 by omega, show ((K : Int) - 150 - -149).toNat = K - 1 by omega, Nat.pow_zero, Nat.mul_one, Nat.one_mul]
  have hn : FP.Core.nearest N (2 ^ (K - 1)) = 2 ^ 23 := by
    have hp := Nat.two_pow_pos (K - 1)
    obtain ⟨r, hr⟩ : ∃ r, N = r + 2 ^ 23 * 2 ^ (K - 1) := ⟨N - 2 ^ 23 * 2 ^ (K - 1), by omega⟩
    have hr2 : r ≤ 2 ^ (K - 4) := by omega
    have hd : N / 2 ^ (K - 1) = 2 ^ 23 := by
      rw [hr, Nat.add_mul_div_right _ _ hp, Nat.div_eq_of_lt (by omega), Nat.zero_add]
    have hm : N % 2 ^ (K - 1) = r := by
      rw [hr, Nat.add_mul_mod_self_right, Nat.mod_eq_of_lt (by omega)]
    unfold FP.Core.nearest
    rw [hd, hm, if_pos (by omega)]
  rw [hn]
  unfold FP.Core.settle FP.Core.bound
  rw [if_pos (by decide), if_pos (by show (K : Int) - 150 ≤ FP.Core.b32.qmax; rw [show FP.Core.b32.qmax = 104 by decide]; omega)]
theorem ml_units {K : Nat} {a : UInt32} (h : ml K a) (hK : 1 ≤ K) : FP.Core.unitsOf FP.Core.b32 (a.toNat % 2 ^ 31) ≤ 2 ^ (K + 22) := by
  have h1 : FP.Core.unitsOf FP.Core.b32 (a.toNat % 2 ^ 31) ≤ FP.Core.unitsOf FP.Core.b32 (K * FP.Core.b32.tails) := FP.Core.unitsOf_le_iff.mpr (by rw [FP.Core.tails_b32]; exact h)
  rw [FP.Core.unitsOf_start hK, FP.Core.tails_b32, ← Nat.pow_add, show 23 + (K - 1) = K + 22 by omega] at h1
  exact h1
/-- a small addend doesn't carry a number above its bound -/
theorem ml_sat {K : Nat} {a b : UInt32} (h27 : 30 ≤ K) (h254 : K ≤ 254) (ha : ml K a) (hb : ml (K - 26) b) : ml K (FP.fadd a b) := by
  have fa := (ha.mg).ffin (by omega)
  have fb := ((hb.mono (show K - 26 ≤ K by omega)).mg).ffin (by omega)
  have za := FP.Core.zmag_toNat32 fa.ne_nan
  have zb := FP.Core.zmag_toNat32 fb.ne_nan
  have ua := ml_units ha (by omega)
  have ub := ml_units hb (by omega)
  rw [show K - 26 + 22 = K - 4 by omega] at ub
  obtain ⟨s, c, q, va⟩ := fa
  obtain ⟨t, d, r, vb⟩ := fb
  have hfa := FP.Core.val32_fits a
  have hfb := FP.Core.val32_fits b
  rw [va] at hfa za
  rw [vb] at hfb zb
  obtain ⟨sg, v, e, p1, p2, p3⟩ := FP.Core.sum_units hfa hfb
  have hv : FP.Core.val32 (FP.fadd a b) = FP.Core.roundRatio FP.Core.b32 sg v 1 e := by
    rw [FP.Core.val32_fadd, va, vb, p1]
    rfl
  rw [FP.Core.qmin_b32] at p2 p3
  have hN : FP.Core.inUnits v e (-149) ≤ 2 ^ (K + 22) + 2 ^ (K - 4) := by
    have := congrArg Int.natAbs p3
    rw [FP.Core.natAbs_signed] at this
    rw [this]
    refine Nat.le_trans (Int.natAbs_add_le _ _) ?_
    unfold FP.Core.zval
    rw [FP.Core.natAbs_signed, FP.Core.natAbs_signed, za, zb]
    omega
  have hc : FP.Core.roundRatio FP.Core.b32 sg v 1 e = FP.Core.roundRatio FP.Core.b32 sg (FP.Core.inUnits v e (-149)) 1 (-149) := by
    refine FP.Core.roundRatio_congr (by decide) (by decide) ?_
    unfold FP.Core.inUnits
    rw [show (-149 - e).toNat = 0 by omega]
    simp
  rw [hc] at hv
  generalize FP.Core.inUnits v e (-149) = N at hv hN
  unfold ml
  rcases Nat.lt_or_ge (2 ^ (K + 22)) N with h | h
  · rw [rr_sat sg (by omega) h254 (Nat.le_of_lt h) hN] at hv
    have hne : FP.Core.val32 (FP.fadd a b) ≠ .nan := by rw [hv]; exact FP.Core.Datum.noConfusion
    have z := FP.Core.zmag_toNat32 hne
    rw [hv] at z
    have z2 : FP.Core.unitsOf FP.Core.b32 ((FP.fadd a b).toNat % 2 ^ 31) ≤ FP.Core.unitsOf FP.Core.b32 (K * FP.Core.b32.tails) := by
      rw [← z, FP.Core.unitsOf_start (by omega), FP.Core.tails_b32]
      show FP.Core.inUnits (2 ^ 23) ((K : Int) - 150) FP.Core.b32.qmin ≤ _
      unfold FP.Core.inUnits
      rw [FP.Core.qmin_b32, show ((K : Int) - 150 - -149).toNat = K - 1 by omega]
      exact Nat.le_refl _
    have := FP.Core.unitsOf_le_iff.mp z2
    rw [FP.Core.tails_b32] at this
    exact this
  · have hm := FP.Core.mag_le FP.Core.good_b32 (n := (FP.fadd a b).toNat) (m := K * 2 ^ 23) (s := sg) (A := N) (B := 1) (e := -149) (e0 := -149) hv (by decide) (by rw [FP.Core.qmin_b32]; decide) (by decide) (by
      have : FP.Core.unitsOf FP.Core.b32 (K * 2 ^ 23) = 2 ^ (K + 22) := by
        rw [← FP.Core.tails_b32, FP.Core.unitsOf_start (by omega), FP.Core.tails_b32, ← Nat.pow_add, show 23 + (K - 1) = K + 22 by omega]
      rw [this, FP.Core.qmin_b32]
      unfold FP.Core.inUnits
      simpa using h)
    rw [FP.Core.mag_toNat32] at hm
    exact hm
