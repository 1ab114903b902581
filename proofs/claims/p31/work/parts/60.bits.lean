/-! the bits of a number -/
abbrev U (a : UInt32) : Nat := FP.Core.unitsOf FP.Core.b32 (a.toNat % 2 ^ 31)
theorem u_def (m : Nat) : FP.Core.unitsOf FP.Core.b32 m = if m < 2 ^ 23 then m else (2 ^ 23 + m % 2 ^ 23) * 2 ^ (m / 2 ^ 23 - 1) := by
  unfold FP.Core.unitsOf
  rw [FP.Core.tails_b32]
/-- a finite number from its units -/
theorem val_rr {a : UInt32} (f : FP.Core.FFin a) : FP.Core.val32 a = FP.Core.roundRatio FP.Core.b32 (FP.Core.sgn (FP.Core.val32 a)) (U a) 1 (-149) := by
  have z := FP.Core.zmag_toNat32 f.ne_nan
  obtain ⟨s, c, q, va⟩ := f
  have hf := FP.Core.val32_fits a
  rw [va] at hf z
  have h1 := FP.Core.round_of_fits FP.Core.good_b32 hf
  have hq := hf.2.1
  rw [FP.Core.qmin_b32] at hq
  rw [va]
  refine h1.symm.trans ?_
  show FP.Core.roundRatio FP.Core.b32 s c 1 q = FP.Core.roundRatio FP.Core.b32 s (U a) 1 (-149)
  refine FP.Core.roundRatio_congr (by decide) (by decide) ?_
  unfold U
  rw [← z]
  show c * 1 * 2 ^ (q - -149).toNat = c * 2 ^ (q - FP.Core.b32.qmin).toNat * 1 * 2 ^ (-149 - q).toNat
  rw [FP.Core.qmin_b32, show (-149 - q).toNat = 0 by omega]
  simp
theorem sgn_pos {a : UInt32} (h : a.toNat < 2 ^ 31) (n : FP.Core.val32 a ≠ .nan) : FP.Core.sgn (FP.Core.val32 a) = false := by
  rw [FP.Core.sgn_bits32 n]
  exact decide_eq_false (by omega)
theorem pos_of {a : UInt32} (n : FP.Core.val32 a ≠ .nan) (h : FP.Core.sgn (FP.Core.val32 a) = false) : a.toNat < 2 ^ 31 := by
  rw [FP.Core.sgn_bits32 n] at h
  have := of_decide_eq_false h
  omega
theorem u_two : U FP.fconst2 = 2 ^ 150 := by decide +kernel
theorem f_two : FP.Core.FFin FP.fconst2 := (show mg 129 FP.fconst2 by unfold mg; decide).ffin (by decide)
/-- halved -/
theorem halve {a : UInt32} (h1 : 2 * 2 ^ 23 ≤ a.toNat) (h2 : a.toNat < 255 * 2 ^ 23) : (FP.fdiv a FP.fconst2).toNat = a.toNat - 2 ^ 23 ∧ U a = 2 * U (FP.fdiv a FP.fconst2) := by
  have fa : FP.Core.FFin a := (show mg 255 a by unfold mg; omega).ffin (by decide)
  have hb : (UInt32.ofNat (a.toNat - 2 ^ 23)).toNat = a.toNat - 2 ^ 23 := by
    rw [UInt32.toNat_ofNat']
    omega
  generalize hbe : UInt32.ofNat (a.toNat - 2 ^ 23) = b at hb
  have fb : FP.Core.FFin b := (show mg 255 b by unfold mg; omega).ffin (by decide)
  have hu : U a = 2 * U b := by
    unfold U
    rw [hb, u_def, u_def, if_neg (by omega), if_neg (by omega)]
    have e1 : (a.toNat - 2 ^ 23) % 2 ^ 31 = a.toNat - 2 ^ 23 := by omega
    have e2 : a.toNat % 2 ^ 31 = a.toNat := by omega
    rw [e1, e2]
    obtain ⟨k, hk⟩ : ∃ k, a.toNat / 2 ^ 23 = k + 2 := ⟨a.toNat / 2 ^ 23 - 2, by omega⟩
    have e3 : (a.toNat - 2 ^ 23) / 2 ^ 23 = k + 1 := by omega
    have e4 : (a.toNat - 2 ^ 23) % 2 ^ 23 = a.toNat % 2 ^ 23 := by omega
    rw [hk, e3, e4, show k + 2 - 1 = k + 1 by omega, show k + 1 - 1 = k by omega, Nat.pow_succ 2 k]
    ac_rfl
  have e : FP.Core.val32 (FP.fdiv a FP.fconst2) = FP.Core.val32 b := by
    obtain ⟨s, hs, hv⟩ := div_units fa f_two (by decide)
    rw [sgn_pos (by omega) fa.ne_nan, show FP.Core.sgn (FP.Core.val32 FP.fconst2) = false by decide +kernel] at hs
    rw [hv, val_rr fb, sgn_pos (by omega) fb.ne_nan, hs]
    refine FP.Core.roundRatio_congr (by decide +kernel) (by decide) ?_
    show U a * 1 * 2 ^ (0 - -149 : Int).toNat = U b * U FP.fconst2 * 2 ^ (-149 - 0 : Int).toNat
    rw [u_two, hu, show (0 - -149 : Int).toNat = 149 by decide, show (-149 - 0 : Int).toNat = 0 by decide, show (2 : Nat) ^ 150 = 2 * 2 ^ 149 by decide +kernel]
    simp only [Nat.pow_zero, Nat.mul_one]
    ac_rfl
  have e2 : FP.fdiv a FP.fconst2 = b := (FP.Core.val32_inj fb.ne_nan e.symm).symm
  rw [e2]
  exact ⟨hb, hu⟩
/-- a product with a power of two, in units -/
theorem mul_rr {a p : UInt32} {P : Nat} {r : Int} (fa : FP.Core.FFin a) (ha : a.toNat < 2 ^ 31) (hp : FP.Core.val32 p = .fin false P r) {b : UInt32} (fb : FP.Core.FFin b) (hb : b.toNat < 2 ^ 31) (hu : ∀ (c w : Nat), U a = c * 2 ^ w → ∃ x y : Nat, c * P * 2 ^ x = U b * 2 ^ y ∧ (x : Int) - y = w + r) : FP.fmul a p = b := by
  have z := FP.Core.zmag_toNat32 fa.ne_nan
  have sa := sgn_pos ha fa.ne_nan
  obtain ⟨s, c, q, va⟩ := fa
  have hf := FP.Core.val32_fits a
  rw [va] at hf z sa
  have hq := hf.2.1
  rw [FP.Core.qmin_b32] at hq
  have sa : s = false := sa
  subst sa
  have z : c * 2 ^ (q - FP.Core.b32.qmin).toNat = U a := z
  rw [FP.Core.qmin_b32] at z
  obtain ⟨x, y, hxy, hw⟩ := hu c (q - -149).toNat z.symm
  have e : FP.Core.val32 (FP.fmul a p) = FP.Core.val32 b := by
    rw [FP.Core.val32_fmul, va, hp, val_rr fb, sgn_pos hb fb.ne_nan]
    show FP.Core.roundRatio FP.Core.b32 false (c * P) 1 (q + r) = FP.Core.roundRatio FP.Core.b32 false (U b) 1 (-149)
    refine FP.Core.roundRatio_congr (by decide) (by decide) ?_
    rw [Nat.mul_one, Nat.mul_one]
    have hp2 := Nat.two_pow_pos y
    have hp3 := Nat.two_pow_pos x
    have h4 : (q + r - -149).toNat + y = x + (-149 - (q + r)).toNat := by omega
    refine Nat.eq_of_mul_eq_mul_right hp2 ?_
    calc c * P * 2 ^ (q + r - -149).toNat * 2 ^ y = c * P * (2 ^ ((q + r - -149).toNat + y)) := by rw [Nat.pow_add]; ac_rfl
      _ = c * P * 2 ^ x * 2 ^ (-149 - (q + r)).toNat := by rw [h4, Nat.pow_add]; ac_rfl
      _ = U b * 2 ^ y * 2 ^ (-149 - (q + r)).toNat := by rw [hxy]
      _ = U b * 2 ^ (-149 - (q + r)).toNat * 2 ^ y := by ac_rfl
  exact (FP.Core.val32_inj fb.ne_nan e.symm).symm
theorem v_two : FP.Core.val32 FP.fconst2 = .fin false (2 ^ 23) (-22) := by decide +kernel
/-- doubled -/
theorem double {a : UInt32} (h2 : a.toNat < 127 * 2 ^ 23) : (FP.fmul a FP.fconst2).toNat < 128 * 2 ^ 23 ∧ U (FP.fmul a FP.fconst2) = 2 * U a := by
  have fa : FP.Core.FFin a := (show mg 255 a by unfold mg; omega).ffin (by decide)
  have key : ∀ n : Nat, n < 128 * 2 ^ 23 → FP.Core.unitsOf FP.Core.b32 n = 2 * U a → (FP.fmul a FP.fconst2).toNat < 128 * 2 ^ 23 ∧ U (FP.fmul a FP.fconst2) = 2 * U a := by
    intro n hn hu
    have hb : (UInt32.ofNat n).toNat = n := by
      rw [UInt32.toNat_ofNat']
      omega
    generalize UInt32.ofNat n = b at hb
    have fb : FP.Core.FFin b := (show mg 255 b by unfold mg; omega).ffin (by decide)
    have hub : U b = 2 * U a := by
      unfold U
      rw [hb, show n % 2 ^ 31 = n by omega]
      exact hu
    have e := mul_rr fa (by omega) v_two fb (by omega) (by
      intro c w hc
      refine ⟨w, 22, ?_, by omega⟩
      rw [hub, hc, show (2 : Nat) ^ 23 = 2 * 2 ^ 22 by decide]
      ac_rfl)
    rw [e]
    exact ⟨by omega, hub⟩
  rcases Nat.lt_or_ge a.toNat (2 ^ 23) with h | h
  · refine key (2 * a.toNat) (by omega) ?_
    unfold U
    rw [u_def, u_def, if_pos (show a.toNat % 2 ^ 31 < 2 ^ 23 by omega)]
    split
    · omega
    · rw [show 2 * a.toNat / 2 ^ 23 = 1 by omega]
      simp only [Nat.sub_self, Nat.pow_zero, Nat.mul_one]
      omega
  · refine key (a.toNat + 2 ^ 23) (by omega) ?_
    unfold U
    rw [u_def, u_def, if_neg (by omega), if_neg (by omega)]
    obtain ⟨k, hk⟩ : ∃ k, a.toNat / 2 ^ 23 = k + 1 := ⟨a.toNat / 2 ^ 23 - 1, by omega⟩
    rw [show a.toNat % 2 ^ 31 = a.toNat by omega, show (a.toNat + 2 ^ 23) / 2 ^ 23 = k + 2 by omega, hk, show (a.toNat + 2 ^ 23) % 2 ^ 23 = a.toNat % 2 ^ 23 by omega, show k + 2 - 1 = k + 1 by omega, show k + 1 - 1 = k by omega, Nat.pow_succ 2 k]
    ac_rfl
theorem v_23 : FP.Core.val32 (1258291200 : UInt32) = .fin false (2 ^ 23) 0 := by decide +kernel
/-- scaled by 2 to the 23 and cut -/
theorem cut23 {a : UInt32} (h : a.toNat < 128 * 2 ^ 23) : mg 160 (FP.fmul a (1258291200 : UInt32)) ∧ FP.f2i (FP.fmul a (1258291200 : UInt32)) = nI (U a / 2 ^ 126) := by
  have fa : FP.Core.FFin a := (show mg 255 a by unfold mg; omega).ffin (by decide)
  have hmul := (mg_mul (show mg 128 a by unfold mg; omega) (show mg 151 (1258291200 : UInt32) by unfold mg; decide) (by decide) (by decide)).mono (show _ ≤ 160 by decide)
  refine ⟨hmul, ?_⟩
  have hne := hmul.nn (by decide)
  have z := FP.Core.zmag_toNat32 fa.ne_nan
  have sa := sgn_pos (by omega) fa.ne_nan
  have hUlt : U a < 2 ^ 150 := by
    have : U a < FP.Core.unitsOf FP.Core.b32 (128 * 2 ^ 23) := FP.Core.unitsOf_lt (by omega)
    rw [show FP.Core.unitsOf FP.Core.b32 (128 * 2 ^ 23) = 2 ^ 150 by decide +kernel] at this
    exact this
  obtain ⟨s, c, q, va⟩ := fa
  have hf := FP.Core.val32_fits a
  rw [va] at hf z sa
  have hq := hf.2.1
  have hc := hf.1
  have hcan := hf.2.2.2
  rw [FP.Core.qmin_b32] at hq hcan
  rw [FP.Core.tails_b32] at hcan
  have sa : s = false := sa
  subst sa
  have z : c * 2 ^ (q - FP.Core.b32.qmin).toNat = U a := z
  rw [FP.Core.qmin_b32] at z
  have hq2 : q ≤ -22 := by
    rcases hcan with h1 | h1
    · omega
    · by_cases h3 : q ≤ -22
      · exact h3
      · exfalso
        have h4 : 2 ^ 127 ≤ 2 ^ (q - -149).toNat := Nat.pow_le_pow_right (by decide) (by omega)
        have h5 := Nat.mul_le_mul h1 h4
        rw [z, ← Nat.pow_add] at h5
        omega
  have ev : FP.Core.val32 (FP.fmul a (1258291200 : UInt32)) = FP.Core.round FP.Core.b32 (.fin false c (q + 23)) := by
    rw [FP.Core.val32_fmul, va, v_23]
    show FP.Core.roundRatio FP.Core.b32 false (c * 2 ^ 23) 1 (q + 0) = FP.Core.roundRatio FP.Core.b32 false c 1 (q + 23)
    refine FP.Core.roundRatio_congr (by decide) (by decide) ?_
    rw [show (q + 0 - (q + 23)).toNat = 0 by omega, show (q + 23 - (q + 0)).toNat = 23 by omega]
    simp
  obtain ⟨c', q', r1, r2⟩ := FP.Core.round_exact FP.Core.good_b32 false (c := c) (q := q + 23) hc (by rw [FP.Core.qmin_b32]; omega) (by rw [show FP.Core.b32.qmax = 104 by decide]; omega)
  have zm : FP.Core.zmag FP.Core.b32 (FP.Core.val32 (FP.fmul a (1258291200 : UInt32))) = U a * 2 ^ 23 := by
    rw [ev, r1]
    show FP.Core.inUnits c' q' FP.Core.b32.qmin = _
    rw [r2, ← z, FP.Core.qmin_b32]
    unfold FP.Core.inUnits
    rw [show (q + 23 - -149).toNat = (q - -149).toNat + 23 by omega, Nat.pow_add, Nat.mul_assoc]
  have sg : FP.Core.sgn (FP.Core.val32 (FP.fmul a (1258291200 : UInt32))) = false := by
    rw [ev, r1]
    rfl
  have ei : (FP.f2i (FP.fmul a (1258291200 : UInt32))).toInt = _ := FP.Core.f2i_val hne
  rw [zm, sg] at ei
  have e3 : U a * 2 ^ 23 / FP.Core.one32 = U a / 2 ^ 126 := by
    rw [show FP.Core.one32 = 2 ^ 126 * 2 ^ 23 by decide +kernel]
    exact Nat.mul_div_mul_right _ _ (by decide)
  rw [e3] at ei
  have h7 : U a / 2 ^ 126 < 2 ^ 24 := Nat.div_lt_of_lt_mul (by rw [← Nat.pow_add]; exact hUlt)
  rw [i_eq, ei, i_nI (by omega)]
  unfold FP.Core.signed
  rw [if_neg (by decide)]
  generalize U a / 2 ^ 126 = w at *
  omega
theorem u_norm {m : Nat} (h : m < 2 ^ 23) : FP.Core.unitsOf FP.Core.b32 (127 * 2 ^ 23 + m) = (2 ^ 23 + m) * 2 ^ 126 := by
  rw [u_def, if_neg (by omega), show (127 * 2 ^ 23 + m) / 2 ^ 23 = 127 by omega, show (127 * 2 ^ 23 + m) % 2 ^ 23 = m by omega]
/-- less one -/
theorem less1 {a : UInt32} {m : Nat} (hm : m < 2 ^ 23) (ha : a.toNat = 127 * 2 ^ 23 + m) : (FP.fsub a FP.fconst1).toNat < 128 * 2 ^ 23 ∧ U (FP.fsub a FP.fconst1) = m * 2 ^ 126 := by
  rcases Nat.eq_zero_or_pos m with h0 | h0
  · subst h0
    have : a = FP.fconst1 := UInt32.toNat_inj.mp ha
    subst this
    rw [show FP.fsub FP.fconst1 FP.fconst1 = 0 by decide +kernel]
    exact ⟨by decide, by decide +kernel⟩
  have fa : FP.Core.FFin a := (show mg 255 a by unfold mg; omega).ffin (by decide)
  have za := FP.Core.zmag_toNat32 fa.ne_nan
  have sa := sgn_pos (by omega) fa.ne_nan
  rw [ha, show (127 * 2 ^ 23 + m) % 2 ^ 31 = 127 * 2 ^ 23 + m by omega, u_norm hm] at za
  have fr := (mg_sub (show mg 128 a by unfold mg; omega) (show mg 128 FP.fconst1 by unfold mg; decide) (by decide))
  obtain ⟨s, c, q, va⟩ := fa
  have hfa := FP.Core.val32_fits a
  rw [va] at hfa za sa
  have sa : s = false := sa
  subst sa
  have hfb := FP.Core.negate_fits (FP.Core.val32_fits FP.fconst1)
  have vb : FP.Core.val32 FP.fconst1 = .fin false (2 ^ 23) (-23) := FP.Core.val32_fconst1
  rw [vb] at hfb
  obtain ⟨sg, v, e, p1, p2, p3⟩ := FP.Core.sum_units hfa hfb
  have hv : FP.Core.val32 (FP.fsub a FP.fconst1) = FP.Core.roundRatio FP.Core.b32 sg v 1 e := by
    rw [FP.Core.val32_fsub, va, vb]
    exact congrArg (FP.Core.round FP.Core.b32) p1
  have q1 : FP.Core.zval FP.Core.b32 (.fin false c q) = (((2 ^ 23 + m) * 2 ^ 126 : Nat) : Int) := by
    unfold FP.Core.zval
    rw [za]
    rfl
  have q2 : FP.Core.zval FP.Core.b32 (.fin (!false) (2 ^ 23) (-23)) = -((2 ^ 23 * 2 ^ 126 : Nat) : Int) := by decide +kernel
  rw [q1, q2, Nat.add_mul] at p3
  have hmp : 0 < m * 2 ^ 126 := Nat.mul_pos h0 (by decide)
  have hsg : sg = false ∧ FP.Core.inUnits v e FP.Core.b32.qmin = m * 2 ^ 126 := by
    generalize FP.Core.inUnits v e FP.Core.b32.qmin = N at *
    unfold FP.Core.signed at p3
    cases sg
    · refine ⟨rfl, ?_⟩
      rw [if_neg (by decide)] at p3
      omega
    · rw [if_pos rfl] at p3
      omega
  obtain ⟨rfl, hN⟩ := hsg
  have e2 : FP.Core.roundRatio FP.Core.b32 false v 1 e = FP.Core.round FP.Core.b32 (.fin false m (-23)) := by
    refine FP.Core.roundRatio_congr (by decide) (by decide) ?_
    rw [FP.Core.qmin_b32] at p2 hN
    unfold FP.Core.inUnits at hN
    have h4 : (e - -23).toNat + 126 = (e - -149).toNat + (-23 - e).toNat := by omega
    refine Nat.eq_of_mul_eq_mul_right (Nat.two_pow_pos 126) ?_
    calc v * 1 * 2 ^ (e - -23).toNat * 2 ^ 126 = v * 2 ^ ((e - -23).toNat + 126) := by rw [Nat.pow_add, Nat.mul_one, Nat.mul_assoc]
      _ = v * 2 ^ (e - -149).toNat * 2 ^ (-23 - e).toNat := by rw [h4, Nat.pow_add, Nat.mul_assoc]
      _ = m * 1 * 2 ^ (-23 - e).toNat * 2 ^ 126 := by rw [hN]; rw [Nat.mul_one]; ac_rfl
  obtain ⟨c', q', r1, r2⟩ := FP.Core.round_exact FP.Core.good_b32 false (c := m) (q := -23) (Nat.lt_trans hm (by decide)) (by decide) (by decide)
  have hne := fr.nn (by decide)
  have z := FP.Core.zmag_toNat32 hne
  have zz : FP.Core.zmag FP.Core.b32 (FP.Core.val32 (FP.fsub a FP.fconst1)) = m * 2 ^ 126 := by
    rw [hv, e2, r1]
    show FP.Core.inUnits c' q' FP.Core.b32.qmin = _
    rw [r2]
    rfl
  have hpos : (FP.fsub a FP.fconst1).toNat < 2 ^ 31 := by
    refine pos_of hne ?_
    rw [hv, e2, r1]
    rfl
  rw [zz] at z
  refine ⟨?_, z.symm⟩
  have h6 : FP.Core.unitsOf FP.Core.b32 ((FP.fsub a FP.fconst1).toNat % 2 ^ 31) < FP.Core.unitsOf FP.Core.b32 (128 * 2 ^ 23) := by
    rw [← z, show FP.Core.unitsOf FP.Core.b32 (128 * 2 ^ 23) = 2 ^ 24 * 2 ^ 126 by decide +kernel]
    exact Nat.mul_lt_mul_of_pos_right (by omega) (by decide)
  rw [FP.Core.unitsOf_lt_iff] at h6
  omega
/-! the bits of a number, on both sides -/
def bitsA (a : UInt32) : Int32 := if fk a < 0 then nI (a.toNat % 2 ^ 31) ||| (-2147483648 : Int32) else nI (a.toNat % 2 ^ 31)
theorem shl23 : ∀ e : Nat, e < 256 → nI e <<< ((23 : Int32) &&& 31) = nI (e * 2 ^ 23) := by decide +kernel
theorem or_fld {e m : Nat} (he : e < 256) (hm : m < 2 ^ 23) : nI (e * 2 ^ 23) ||| nI m = nI (e * 2 ^ 23 + m) := by
  have h : e * 2 ^ 23 + m = (e * 2 ^ 23) ||| m := by
    rw [← Nat.shiftLeft_eq]
    exact (Nat.shiftLeft_add_eq_or_of_lt hm e)
  rw [h]
  apply Int32.toBitVec_inj.mp
  rw [Int32.toBitVec_or]
  show BitVec.ofNat 32 (e * 2 ^ 23) ||| BitVec.ofNat 32 m = BitVec.ofNat 32 (e * 2 ^ 23 ||| m)
  exact (BitVec.ofNat_or).symm
/-- what the loops keep -/
def bI (b0 : Nat) (r : UInt32) (e : Nat) : Prop := 1 ≤ e ∧ e ≤ 254 ∧ r.toNat < 255 * 2 ^ 23 ∧ U r * 2 ^ e = FP.Core.unitsOf FP.Core.b32 b0 * 2 ^ 127
theorem u_255 {m : Nat} (h : m < 255 * 2 ^ 23) : FP.Core.unitsOf FP.Core.b32 m < 2 ^ 277 := by
  have : FP.Core.unitsOf FP.Core.b32 m < FP.Core.unitsOf FP.Core.b32 (255 * 2 ^ 23) := FP.Core.unitsOf_lt h
  rw [show FP.Core.unitsOf FP.Core.b32 (255 * 2 ^ 23) = 2 ^ 277 by decide +kernel] at this
  exact this
theorem bI_half {b0 : Nat} {r : UInt32} {e : Nat} (hb : b0 < 255 * 2 ^ 23) (h : bI b0 r e) (h2 : 128 * 2 ^ 23 ≤ r.toNat) : bI b0 (FP.fdiv r FP.fconst2) (e + 1) ∧ mg 255 (FP.fdiv r FP.fconst2) ∧ e < 254 ∧ (FP.fdiv r FP.fconst2).toNat < r.toNat := by
  obtain ⟨h1, h3, h4, h5⟩ := h
  obtain ⟨q1, q2⟩ := halve (by omega) h4
  have he : e < 254 := by
    rcases Nat.lt_or_ge e 254 with q | q
    · exact q
    · exfalso
      obtain rfl : e = 254 := by omega
      have hU : 2 ^ 150 ≤ U r := by
        have : FP.Core.unitsOf FP.Core.b32 (128 * 2 ^ 23) ≤ U r := FP.Core.unitsOf_le_iff.mpr (by omega)
        rw [show FP.Core.unitsOf FP.Core.b32 (128 * 2 ^ 23) = 2 ^ 150 by decide +kernel] at this
        exact this
      have a1 := Nat.mul_le_mul_right (2 ^ 254) hU
      have a2 := Nat.mul_lt_mul_of_pos_right (u_255 hb) (show 0 < 2 ^ 127 from Nat.two_pow_pos _)
      rw [h5] at a1
      rw [← Nat.pow_add] at a1 a2
      have a3 := Nat.lt_of_le_of_lt a1 a2
      exact absurd a3 (by decide +kernel)
  refine ⟨⟨by omega, by omega, by omega, ?_⟩, by unfold mg; omega, he, by omega⟩
  rw [Nat.pow_succ, ← h5, q2]
  ac_rfl
theorem bI_dbl {b0 : Nat} {r : UInt32} {e : Nat} (h : bI b0 r e) (h2 : r.toNat < 127 * 2 ^ 23) (h1 : 2 ≤ e) : bI b0 (FP.fmul r FP.fconst2) (e - 1) ∧ mg 128 (FP.fmul r FP.fconst2) ∧ (FP.fmul r FP.fconst2).toNat < 128 * 2 ^ 23 := by
  obtain ⟨h1', h3, h4, h5⟩ := h
  obtain ⟨q1, q2⟩ := double h2
  refine ⟨⟨by omega, by omega, by omega, ?_⟩, by unfold mg; omega, q1⟩
  obtain ⟨k, rfl⟩ : ∃ k, e = k + 1 := ⟨e - 1, by omega⟩
  rw [Nat.add_sub_cancel, ← h5, q2, Nat.pow_succ]
  ac_rfl
/-- at the end, one or more -/
theorem bI_end {b0 : Nat} {r : UInt32} {e : Nat} (hb : b0 < 255 * 2 ^ 23) (h : bI b0 r e) (h1 : 127 * 2 ^ 23 ≤ r.toNat) (h2 : r.toNat < 128 * 2 ^ 23) : ∃ m, m < 2 ^ 23 ∧ r.toNat = 127 * 2 ^ 23 + m ∧ b0 = e * 2 ^ 23 + m := by
  obtain ⟨e1, e2, -, h5⟩ := h
  refine ⟨r.toNat - 127 * 2 ^ 23, by omega, by omega, ?_⟩
  obtain ⟨m, hm⟩ : ∃ m, r.toNat = 127 * 2 ^ 23 + m := ⟨r.toNat - 127 * 2 ^ 23, by omega⟩
  have hm2 : m < 2 ^ 23 := by omega
  rw [hm, Nat.add_sub_cancel_left]
  unfold U at h5
  rw [hm, show (127 * 2 ^ 23 + m) % 2 ^ 31 = 127 * 2 ^ 23 + m by omega, u_norm hm2] at h5
  obtain ⟨k, rfl⟩ : ∃ k, e = k + 1 := ⟨e - 1, by omega⟩
  have hu : FP.Core.unitsOf FP.Core.b32 ((k + 1) * 2 ^ 23 + m) = (2 ^ 23 + m) * 2 ^ k := by
    rw [u_def, if_neg (by omega), show ((k + 1) * 2 ^ 23 + m) / 2 ^ 23 = k + 1 by omega, show ((k + 1) * 2 ^ 23 + m) % 2 ^ 23 = m by omega, Nat.add_sub_cancel]
  have h6 : FP.Core.unitsOf FP.Core.b32 b0 = FP.Core.unitsOf FP.Core.b32 ((k + 1) * 2 ^ 23 + m) := by
    rw [hu]
    refine Nat.eq_of_mul_eq_mul_right (Nat.two_pow_pos 127) ?_
    rw [← h5, Nat.pow_succ 2 k, show (2 : Nat) ^ 127 = 2 ^ 126 * 2 by decide +kernel]
    ac_rfl
  exact Nat.le_antisymm (FP.Core.unitsOf_le_iff.mp (Nat.le_of_eq h6)) (FP.Core.unitsOf_le_iff.mp (Nat.le_of_eq h6.symm))
/-- at the end, below one -/
theorem bI_sub {b0 : Nat} {r : UInt32} (h : bI b0 r 1) (h1 : r.toNat < 127 * 2 ^ 23) : U r / 2 ^ 126 = b0 := by
  obtain ⟨-, -, -, h5⟩ := h
  have e : U r = FP.Core.unitsOf FP.Core.b32 b0 * 2 ^ 126 := by
    refine Nat.eq_of_mul_eq_mul_right (show 0 < 2 ^ 1 by decide) ?_
    rw [h5, show (2 : Nat) ^ 127 = 2 ^ 126 * 2 ^ 1 by decide +kernel, Nat.mul_assoc]
  rw [e, Nat.mul_div_cancel _ (Nat.two_pow_pos _)]
  have hlt : U r < FP.Core.unitsOf FP.Core.b32 (127 * 2 ^ 23) := FP.Core.unitsOf_lt (by omega)
  rw [show FP.Core.unitsOf FP.Core.b32 (127 * 2 ^ 23) = 2 ^ 23 * 2 ^ 126 by decide +kernel, e] at hlt
  have h3 := Nat.lt_of_mul_lt_mul_right hlt
  rcases Nat.lt_or_ge b0 (2 ^ 23) with q | q
  · rw [u_def, if_pos q]
  · exfalso
    have : FP.Core.unitsOf FP.Core.b32 (2 ^ 23) ≤ FP.Core.unitsOf FP.Core.b32 b0 := FP.Core.unitsOf_le_iff.mpr q
    rw [show FP.Core.unitsOf FP.Core.b32 (2 ^ 23) = 2 ^ 23 by decide +kernel] at this
    omega
theorem nI_le1 {e : Nat} (h : e < 1000) : nI e ≤ (1 : Int32) ↔ e ≤ 1 := nI_le0 (j := 1) h (by decide)
theorem nn_1 : FP.Core.val32 FP.fconst1 ≠ .nan := (show mg 128 FP.fconst1 by unfold mg; decide).nn (by decide)
theorem nn_2 : FP.Core.val32 FP.fconst2 ≠ .nan := f_two.ne_nan
theorem fk_1 : fk FP.fconst1 = ((127 * 2 ^ 23 : Nat) : Int) := by decide +kernel
theorem fk_2 : fk FP.fconst2 = ((128 * 2 ^ 23 : Nat) : Int) := by decide +kernel
theorem fk_pos {a : UInt32} (h : a.toNat < 2 ^ 31) : fk a = (a.toNat : Int) := by
  unfold fk FP.Core.fkey
  rw [if_neg (by omega)]
theorem sz_pos {a : UInt32} (hz : nz a) : (sz a).toNat = a.toNat % 2 ^ 31 := by
  have h0 := a.toNat_lt
  unfold sz
  split
  · rename_i h
    have : 2 ^ 31 ≤ a.toNat := by
      rcases Nat.lt_or_ge a.toNat (2 ^ 31) with q | q
      · rw [fk_pos q] at h
        omega
      · exact q
    rcases fneg_toNat a with e | e
    · have := (FP.fneg a).toNat_lt
      omega
    · omega
  · rename_i h
    rcases Nat.lt_or_ge a.toNat (2 ^ 31) with q | q
    · omega
    · exfalso
      unfold nz at hz
      unfold fk FP.Core.fkey at h
      rw [if_pos q] at h
      apply h
      have : (2147483648 : Int) < (a.toNat : Int) := by omega
      show ((2147483648 : Nat) : Int) - (a.toNat : Int) < 0
      omega
theorem cg_ltz {a b : UInt32} (ha : FP.Core.val32 a ≠ .nan) (hb : FP.Core.val32 b ≠ .nan) : fcg a b < (0 : Int32) ↔ fk a < fk b := by
  show Op.cmpValue (FP.fcmp a b) .g < (0 : Int32) ↔ _
  have e : FP.fcmp a b = some (compare (fk a) (fk b)) := FP.Core.fcmp_key ha hb
  rw [e]
  rcases Int.lt_trichotomy (fk a) (fk b) with h | h | h
  · rw [(FP.Core.compare_lt_iff _ _).mpr h]
    exact ⟨fun q => by omega, fun q => by decide⟩
  · rw [(FP.Core.compare_eq_iff _ _).mpr h]
    exact ⟨fun q => absurd q (by decide), fun q => by omega⟩
  · rw [(FP.Core.compare_gt_iff _ _).mpr h]
    exact ⟨fun q => absurd q (by decide), fun q => by omega⟩
theorem s6_bits {a : UInt32} (ha : mg 255 a) (hz : nz a) {K : Int32 → Unit → Prop} (hK : K (bitsA a) ()) : vX6_bitsOf a K := by
  have hb : a.toNat % 2 ^ 31 < 255 * 2 ^ 23 := ha
  have hna := ha.nn (by decide)
  unfold vX6_bitsOf
  refine s6_size ha (by decide) ?_
  have h52 : ∀ (r : UInt32) (e : Nat), bI (a.toNat % 2 ^ 31) r e → r.toNat < 128 * 2 ^ 23 → (127 * 2 ^ 23 ≤ r.toNat ∨ e = 1) → vX6_bitsOf_52 a r (nI e) K := by
    intro r e hI hr he
    obtain ⟨c1, c2⟩ := cut23 hr
    have hX : ((nI e - 1) <<< ((23 : Int32) &&& 31)) + FP.f2i (FP.fmul r (1258291200 : UInt32)) = nI (a.toNat % 2 ^ 31) := by
      have he1 := hI.1
      have he2 := hI.2.1
      rw [nI_m1 he1, shl23 _ (by omega), c2, nI_add]
      rcases Nat.lt_or_ge r.toNat (127 * 2 ^ 23) with q | q
      · obtain rfl : e = 1 := by omega
        rw [bI_sub hI q, Nat.sub_self, Nat.zero_mul, Nat.zero_add]
      · obtain ⟨m, m1, m2, m3⟩ := bI_end hb hI q hr
        unfold U
        rw [m3, m2, show (127 * 2 ^ 23 + m) % 2 ^ 31 = 127 * 2 ^ 23 + m by omega, u_norm m1, Nat.mul_div_cancel _ (Nat.two_pow_pos _), show (e - 1) * 2 ^ 23 + (2 ^ 23 + m) = e * 2 ^ 23 + m by omega]
    unfold vX6_bitsOf_52
    rw [hX, cg_le hna nn_0, fk_0]
    unfold bitsA at hK
    refine ⟨c1.n32 (by decide), fun h => ?_, fun h => ?_⟩
    · rw [if_neg (by omega)] at hK
      exact hK
    · rw [if_pos (by omega)] at hK
      exact hK
  have h31 : ∀ (r : UInt32) (e : Nat), bI (a.toNat % 2 ^ 31) r e → r.toNat < 128 * 2 ^ 23 → ∃ k, lp (vX6_bitsOf_31F a K) k (r, nI e) := by
    intro r e hI hr
    refine lp_ex (fun z : UInt32 × Int32 => ∃ e : Nat, z.2 = nI e ∧ bI (a.toNat % 2 ^ 31) z.1 e ∧ z.1.toNat < 128 * 2 ^ 23) (fun z => z.2.toNatClampNeg) _ ⟨e, rfl, hI, hr⟩ ?_
    rintro B ⟨r, z⟩ ⟨e, hz, hI, hr⟩ hB
    dsimp only at hz hI hr hB
    subst hz
    have he2 := hI.2.1
    have he1 := hI.1
    have hn := (show mg 255 r by unfold mg; omega).nn (by decide)
    unfold vX6_bitsOf_31F vX6_bitsOf_31b
    dsimp only
    rw [cg_le hn nn_1, fk_1, fk_pos (by omega), nI_le1 (by omega)]
    refine ⟨fun h => h52 r e hI hr (.inl (by omega)), fun h => ⟨fun h3 => h52 r e hI hr (.inr (by omega)), fun h3 => ?_⟩⟩
    obtain ⟨d1, d2, d3⟩ := bI_dbl hI (by omega) (by omega)
    refine ⟨d2.n32 (by decide), hB _ ⟨e - 1, nI_p1 he1, d1, d3⟩ ?_⟩
    dsimp only
    rw [nI_p1 he1, nI_cl (by omega), nI_cl (by omega)]
    omega
  refine lp_ex (fun z : UInt32 × Int32 => ∃ e : Nat, z.2 = nI e ∧ bI (a.toNat % 2 ^ 31) z.1 e) (fun z => z.1.toNat) _ ⟨127, rfl, by decide, by decide, by rw [sz_pos hz]; exact hb, by unfold U; rw [sz_pos hz, Nat.mod_mod]⟩ ?_
  rintro B ⟨r, z⟩ ⟨e, hz, hI⟩ hB
  dsimp only at hz hI hB
  subst hz
  have hr := hI.2.2.1
  have he2 := hI.2.1
  have hn := (show mg 255 r by unfold mg; omega).nn (by decide)
  unfold vX6_bitsOf_8F vX6_bitsOf_8b
  dsimp only
  rw [cl_lt hn nn_2, fk_2, fk_pos (by omega), show (254 : Int32) = nI 254 by rfl, nI_le0 (by omega) (by omega)]
  refine ⟨fun h => h31 r e hI (by omega), fun h => ⟨fun h3 => ?_, fun h3 => ?_⟩⟩
  · have := (bI_half hb hI (by omega)).2.2.1
    omega
  · obtain ⟨d1, d2, d3, d4⟩ := bI_half hb hI (by omega)
    exact ⟨d2.n32 (by decide), hB _ ⟨e + 1, nI_1 e, d1⟩ d4⟩
theorem or_swap (x y : Int32) : x ||| y = y ||| x := Int32.or_comm x y
