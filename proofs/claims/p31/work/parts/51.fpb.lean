/-! floats: order, sums that are no zero with a sign, quotients, metres -/
abbrev fk (a : UInt32) : Int := FP.Core.fkey a
theorem cg_le {a b : UInt32} (ha : FP.Core.val32 a ≠ .nan) (hb : FP.Core.val32 b ≠ .nan) : (0 : Int32) ≤ fcg a b ↔ fk b ≤ fk a := by
  show (0 : Int32) ≤ Op.cmpValue (FP.fcmp a b) .g ↔ _
  have e : FP.fcmp a b = some (compare (fk a) (fk b)) := FP.Core.fcmp_key ha hb
  rw [e]
  rcases Int.lt_trichotomy (fk a) (fk b) with h | h | h
  · rw [(FP.Core.compare_lt_iff _ _).mpr h]
    exact ⟨fun q => absurd q (by decide), fun q => by omega⟩
  · rw [(FP.Core.compare_eq_iff _ _).mpr h]
    exact ⟨fun q => by omega, fun q => by decide⟩
  · rw [(FP.Core.compare_gt_iff _ _).mpr h]
    exact ⟨fun q => by omega, fun q => by decide⟩
theorem cg_lt {a b : UInt32} (ha : FP.Core.val32 a ≠ .nan) (hb : FP.Core.val32 b ≠ .nan) : (0 : Int32) < fcg a b ↔ fk b < fk a := by
  show (0 : Int32) < Op.cmpValue (FP.fcmp a b) .g ↔ _
  have e : FP.fcmp a b = some (compare (fk a) (fk b)) := FP.Core.fcmp_key ha hb
  rw [e]
  rcases Int.lt_trichotomy (fk a) (fk b) with h | h | h
  · rw [(FP.Core.compare_lt_iff _ _).mpr h]
    exact ⟨fun q => absurd q (by decide), fun q => by omega⟩
  · rw [(FP.Core.compare_eq_iff _ _).mpr h]
    exact ⟨fun q => absurd q (by decide), fun q => by omega⟩
  · rw [(FP.Core.compare_gt_iff _ _).mpr h]
    exact ⟨fun q => by omega, fun q => by decide⟩
theorem cl_le {a b : UInt32} (ha : FP.Core.val32 a ≠ .nan) (hb : FP.Core.val32 b ≠ .nan) : fcl a b ≤ (0 : Int32) ↔ fk a ≤ fk b := by
  show Op.cmpValue (FP.fcmp a b) .l ≤ (0 : Int32) ↔ _
  have e : FP.fcmp a b = some (compare (fk a) (fk b)) := FP.Core.fcmp_key ha hb
  rw [e]
  rcases Int.lt_trichotomy (fk a) (fk b) with h | h | h
  · rw [(FP.Core.compare_lt_iff _ _).mpr h]
    exact ⟨fun q => by omega, fun q => by decide⟩
  · rw [(FP.Core.compare_eq_iff _ _).mpr h]
    exact ⟨fun q => by omega, fun q => by decide⟩
  · rw [(FP.Core.compare_gt_iff _ _).mpr h]
    exact ⟨fun q => absurd q (by decide), fun q => by omega⟩
theorem cl_lt {a b : UInt32} (ha : FP.Core.val32 a ≠ .nan) (hb : FP.Core.val32 b ≠ .nan) : fcl a b < (0 : Int32) ↔ fk a < fk b := by
  show Op.cmpValue (FP.fcmp a b) .l < (0 : Int32) ↔ _
  have e : FP.fcmp a b = some (compare (fk a) (fk b)) := FP.Core.fcmp_key ha hb
  rw [e]
  rcases Int.lt_trichotomy (fk a) (fk b) with h | h | h
  · rw [(FP.Core.compare_lt_iff _ _).mpr h]
    exact ⟨fun q => by omega, fun q => by decide⟩
  · rw [(FP.Core.compare_eq_iff _ _).mpr h]
    exact ⟨fun q => absurd q (by decide), fun q => by omega⟩
  · rw [(FP.Core.compare_gt_iff _ _).mpr h]
    exact ⟨fun q => absurd q (by decide), fun q => by omega⟩
theorem cl_eq {a b : UInt32} (ha : FP.Core.val32 a ≠ .nan) (hb : FP.Core.val32 b ≠ .nan) : fcl a b = (0 : Int32) ↔ fk a = fk b := by
  show Op.cmpValue (FP.fcmp a b) .l = (0 : Int32) ↔ _
  have e : FP.fcmp a b = some (compare (fk a) (fk b)) := FP.Core.fcmp_key ha hb
  rw [e]
  rcases Int.lt_trichotomy (fk a) (fk b) with h | h | h
  · rw [(FP.Core.compare_lt_iff _ _).mpr h]
    exact ⟨fun q => absurd q (by decide), fun q => by omega⟩
  · rw [(FP.Core.compare_eq_iff _ _).mpr h]
    exact ⟨fun q => h, fun q => by decide⟩
  · rw [(FP.Core.compare_gt_iff _ _).mpr h]
    exact ⟨fun q => absurd q (by decide), fun q => by omega⟩
theorem fk_abs (a : UInt32) : (fk a).natAbs = a.toNat % 2 ^ 31 := by
  have h := a.toNat_lt
  unfold fk FP.Core.fkey
  split <;> omega
theorem fk_neg (a : UInt32) : fk (FP.fneg a) = - fk a := by
  have h1 := a.toNat_lt
  have h2 := (FP.fneg a).toNat_lt
  rcases fneg_toNat a with h | h <;> unfold fk FP.Core.fkey <;> split <;> split <;> omega
theorem fk_0 : fk FP.fconst0 = 0 := by decide +kernel
/-- no zero with a sign -/
def nz (a : UInt32) : Prop := a.toNat ≠ 2147483648
theorem fits_unit : FP.Core.fits FP.Core.b32 (.fin false 1 FP.Core.b32.qmin) := ⟨by decide, Int.le_refl _, by decide, .inl rfl⟩
theorem zmag_unit : FP.Core.zmag FP.Core.b32 (.fin false 1 FP.Core.b32.qmin) = 1 := by decide +kernel
/-- a rounded number that is no zero before stays no zero, if it has one unit -/
theorem rr_pos {s : Bool} {A B : Nat} {e : Int} (hB : 0 < B) (he : FP.Core.b32.qmin ≤ e) (h : B ≤ FP.Core.inUnits A e FP.Core.b32.qmin) : 1 ≤ FP.Core.zmag FP.Core.b32 (FP.Core.roundRatio FP.Core.b32 s A B e) := by
  have := FP.Core.zmag_roundRatio_ge FP.Core.good_b32 (s := s) (A := A) (B := B) (e := e) (e0 := FP.Core.b32.qmin) (V := .fin false 1 FP.Core.b32.qmin) hB fits_unit (Int.le_refl _) he (by
    rw [zmag_unit]
    simpa using h)
  rw [zmag_unit] at this
  exact this
theorem nz_of {a : UInt32} (h : FP.Core.val32 a ≠ .nan) (hs : FP.Core.sgn (FP.Core.val32 a) = true → 1 ≤ FP.Core.zmag FP.Core.b32 (FP.Core.val32 a)) : nz a := by
  intro hc
  have h1 := hs (by rw [FP.Core.sgn_bits32 h, hc]; decide)
  rw [FP.Core.zmag_toNat32 h, hc, FP.Core.unitsOf_zero] at h1
  omega
theorem nz_fadd {a b : UInt32} (fa : FP.Core.FFin a) (fb : FP.Core.FFin b) (h : nz a ∨ nz b) : nz (FP.fadd a b) := by
  have na := fa.ne_nan
  have nb := fb.ne_nan
  have za := FP.Core.zmag_toNat32 na
  have zb := FP.Core.zmag_toNat32 nb
  have sa := FP.Core.sgn_bits32 na
  have sb := FP.Core.sgn_bits32 nb
  obtain ⟨s, c, q, va⟩ := fa
  obtain ⟨t, d, r, vb⟩ := fb
  have hfa := FP.Core.val32_fits a
  have hfb := FP.Core.val32_fits b
  rw [va] at hfa za sa
  rw [vb] at hfb zb sb
  obtain ⟨sg, v, e, p1, p2, p3⟩ := FP.Core.sum_units hfa hfb
  have hv : FP.Core.val32 (FP.fadd a b) = FP.Core.roundRatio FP.Core.b32 sg v 1 e := by
    rw [FP.Core.val32_fadd, va, vb, p1]
    rfl
  have hne : FP.Core.val32 (FP.fadd a b) ≠ .nan := by
    rw [hv]
    exact FP.Core.roundRatio_ne_nan _ _ _ _ _
  refine nz_of hne ?_
  rw [hv, FP.Core.sgn_roundRatio]
  intro hs
  refine rr_pos (by decide) p2 ?_
  rcases Nat.eq_zero_or_pos (FP.Core.inUnits v e FP.Core.b32.qmin) with h0 | h0
  · exfalso
    have v0 : v = 0 := by
      unfold FP.Core.inUnits at h0
      rcases Nat.mul_eq_zero.mp h0 with h1 | h1
      · exact h1
      · exact absurd h1 (Nat.ne_of_gt (Nat.two_pow_pos _))
    unfold FP.Core.exactSum at p1
    simp only [FP.Core.Datum.fin.injEq] at p1
    obtain ⟨p4, p5, p6⟩ := p1
    have h5 : FP.Core.sumUnits s c q t d r (min q r) = 0 := by omega
    rw [h5] at p4
    unfold FP.Core.sumSign at p4
    rw [if_pos rfl, hs] at p4
    have p7 : s = true ∧ t = true := by
      cases s <;> cases t <;> simp_all
    obtain ⟨rfl, rfl⟩ := p7
    rw [h0, FP.Core.signed_zero] at p3
    unfold FP.Core.zval at p3
    have e1 : FP.Core.sgn (.fin true c q) = true := rfl
    have e2 : FP.Core.sgn (.fin true d r) = true := rfl
    rw [e1, e2] at p3
    simp only [FP.Core.signed, if_true] at p3
    have z1 : FP.Core.unitsOf FP.Core.b32 (a.toNat % 2 ^ 31) = 0 := by omega
    have z2 : FP.Core.unitsOf FP.Core.b32 (b.toNat % 2 ^ 31) = 0 := by omega
    rw [FP.Core.unitsOf_eq_zero] at z1 z2
    rw [e1] at sa
    rw [e2] at sb
    have q1 := of_decide_eq_true sa.symm
    have q2 := of_decide_eq_true sb.symm
    have := a.toNat_lt
    have := b.toNat_lt
    unfold nz at h
    omega
  · exact h0
theorem nz_pos {a : UInt32} (h : a.toNat < 2 ^ 31) : nz a := by
  unfold nz
  omega
/-- the quotient, in units -/
theorem div_units {a b : UInt32} (fa : FP.Core.FFin a) (fb : FP.Core.FFin b) (hb : b.toNat % 2 ^ 31 ≠ 0) : ∃ s : Bool, s = (FP.Core.sgn (FP.Core.val32 a) != FP.Core.sgn (FP.Core.val32 b)) ∧ FP.Core.val32 (FP.fdiv a b) = FP.Core.roundRatio FP.Core.b32 s (FP.Core.unitsOf FP.Core.b32 (a.toNat % 2 ^ 31)) (FP.Core.unitsOf FP.Core.b32 (b.toNat % 2 ^ 31)) 0 := by
  have za := FP.Core.zmag_toNat32 fa.ne_nan
  have zb := FP.Core.zmag_toNat32 fb.ne_nan
  obtain ⟨s, c, q, va⟩ := fa
  obtain ⟨t, d, r, vb⟩ := fb
  have hfa := FP.Core.val32_fits a
  have hfb := FP.Core.val32_fits b
  rw [va] at hfa za
  rw [vb] at hfb zb
  have hq := hfa.2.1
  have hr := hfb.2.1
  have hz : FP.Core.unitsOf FP.Core.b32 (b.toNat % 2 ^ 31) ≠ 0 := fun h => hb (FP.Core.unitsOf_eq_zero.mp h)
  have hd : d ≠ 0 := by
    intro h
    subst h
    apply hz
    rw [← zb]
    show FP.Core.inUnits 0 r FP.Core.b32.qmin = 0
    unfold FP.Core.inUnits
    simp
  refine ⟨s != t, by rw [va, vb]; rfl, ?_⟩
  rw [FP.Core.val32_fdiv, va, vb]
  show (if d = 0 then _ else FP.Core.roundRatio FP.Core.b32 (s != t) c d (q - r)) = _
  rw [if_neg hd]
  refine FP.Core.roundRatio_congr (Nat.pos_of_ne_zero hd) (Nat.pos_of_ne_zero hz) ?_
  rw [← za, ← zb]
  show c * (d * 2 ^ (r - FP.Core.b32.qmin).toNat) * 2 ^ (q - r - 0).toNat = c * 2 ^ (q - FP.Core.b32.qmin).toNat * d * 2 ^ (0 - (q - r)).toNat
  rw [FP.Core.qmin_b32] at *
  have e1 : (r - -149).toNat + (q - r - 0).toNat = (q - -149).toNat + (0 - (q - r)).toNat := by omega
  calc c * (d * 2 ^ (r - -149).toNat) * 2 ^ (q - r - 0).toNat = c * d * (2 ^ (r - -149).toNat * 2 ^ (q - r - 0).toNat) := by ac_rfl
    _ = c * d * (2 ^ (q - -149).toNat * 2 ^ (0 - (q - r)).toNat) := by rw [← Nat.pow_add, e1, Nat.pow_add]
    _ = c * 2 ^ (q - -149).toNat * d * 2 ^ (0 - (q - r)).toNat := by ac_rfl
theorem div_ge {a b : UInt32} {V : FP.Core.Datum} (fa : FP.Core.FFin a) (fb : FP.Core.FFin b) (hb : b.toNat % 2 ^ 31 ≠ 0) (hV : FP.Core.fits FP.Core.b32 V) (h : FP.Core.zmag FP.Core.b32 V * FP.Core.unitsOf FP.Core.b32 (b.toNat % 2 ^ 31) ≤ FP.Core.unitsOf FP.Core.b32 (a.toNat % 2 ^ 31) * 2 ^ 149) : FP.Core.zmag FP.Core.b32 V ≤ FP.Core.zmag FP.Core.b32 (FP.Core.val32 (FP.fdiv a b)) := by
  obtain ⟨s, -, hs⟩ := div_units fa fb hb
  rw [hs]
  refine FP.Core.zmag_roundRatio_ge FP.Core.good_b32 (e0 := FP.Core.b32.qmin) (Nat.pos_of_ne_zero (fun h => hb (FP.Core.unitsOf_eq_zero.mp h))) hV (Int.le_refl _) (by decide) ?_
  rw [FP.Core.qmin_b32]
  unfold FP.Core.inUnits
  simpa using h
theorem div_le {a b : UInt32} {V : FP.Core.Datum} (fa : FP.Core.FFin a) (fb : FP.Core.FFin b) (hb : b.toNat % 2 ^ 31 ≠ 0) (hV : FP.Core.fits FP.Core.b32 V) (hn : V ≠ .nan) (h : FP.Core.unitsOf FP.Core.b32 (a.toNat % 2 ^ 31) * 2 ^ 149 ≤ FP.Core.zmag FP.Core.b32 V * FP.Core.unitsOf FP.Core.b32 (b.toNat % 2 ^ 31)) : FP.Core.zmag FP.Core.b32 (FP.Core.val32 (FP.fdiv a b)) ≤ FP.Core.zmag FP.Core.b32 V := by
  obtain ⟨s, -, hs⟩ := div_units fa fb hb
  rw [hs]
  refine FP.Core.zmag_roundRatio_le FP.Core.good_b32 (e0 := FP.Core.b32.qmin) (Nat.pos_of_ne_zero (fun h => hb (FP.Core.unitsOf_eq_zero.mp h))) hV hn (Int.le_refl _) (by decide) ?_
  rw [FP.Core.qmin_b32]
  unfold FP.Core.inUnits
  simpa using h
/-! whole numbers over 100 and over 1000 -/
abbrev m100 (n : Int32) : UInt32 := FP.fdiv (FP.i2f n) (1120403456 : UInt32)
abbrev t1000 (n : Int32) : UInt32 := FP.fdiv (FP.i2f n) (1148846080 : UInt32)
theorem d_100 : 133 * 2 ^ 23 ≤ (1120403456 : UInt32).toNat % 2 ^ 31 ∧ (1120403456 : UInt32).toNat % 2 ^ 31 < 255 * 2 ^ 23 := by decide +kernel
theorem d_1000 : 136 * 2 ^ 23 ≤ (1148846080 : UInt32).toNat % 2 ^ 31 ∧ (1148846080 : UInt32).toNat % 2 ^ 31 < 255 * 2 ^ 23 := by decide +kernel
theorem mg_m (n : Int32) : mg 155 (m100 n) := (mg_div (mg_i2f n) (L := 133) d_100.1 d_100.2 (by decide) (by decide)).mono (by decide)
theorem mg_t (n : Int32) : mg 152 (t1000 n) := (mg_div (mg_i2f n) (L := 136) d_1000.1 d_1000.2 (by decide) (by decide)).mono (by decide)
theorem i2f_units {n : Int32} (h : n.toInt.natAbs ≤ 2 ^ 24) : FP.Core.unitsOf FP.Core.b32 ((FP.i2f n).toNat % 2 ^ 31) = n.toInt.natAbs * 2 ^ 149 := by
  have f := (mg_i2f n).ffin (by decide)
  have z := FP.Core.FInt_zval (FP.Core.i2f_int h)
  rw [← FP.Core.zmag_toNat32 f.ne_nan]
  have := congrArg Int.natAbs z
  unfold FP.Core.zval at this
  rw [FP.Core.natAbs_signed, Int.natAbs_mul] at this
  exact this
theorem i2f_sgn {n : Int32} (h : n.toInt.natAbs ≤ 2 ^ 24) (h0 : 0 ≤ n.toInt) : FP.Core.sgn (FP.Core.val32 (FP.i2f n)) = false := by
  rw [show FP.Core.val32 (FP.i2f n) = FP.Core.round FP.Core.b32 (FP.Core.ofInt n.toInt) from FP.Core.val32_i2f n]
  show FP.Core.sgn (FP.Core.roundRatio FP.Core.b32 (decide (n.toInt < 0)) n.toInt.natAbs 1 0) = false
  rw [FP.Core.sgn_roundRatio]
  exact decide_eq_false (by omega)
theorem u_100 : FP.Core.unitsOf FP.Core.b32 ((1120403456 : UInt32).toNat % 2 ^ 31) = 100 * 2 ^ 149 := by decide +kernel
theorem u_1000 : FP.Core.unitsOf FP.Core.b32 ((1148846080 : UInt32).toNat % 2 ^ 31) = 1000 * 2 ^ 149 := by decide +kernel
theorem f_100 : FP.Core.FFin (1120403456 : UInt32) := (show mg 134 (1120403456 : UInt32) by unfold mg; decide).ffin (by decide)
theorem f_1000 : FP.Core.FFin (1148846080 : UInt32) := (show mg 137 (1148846080 : UInt32) by unfold mg; decide).ffin (by decide)
theorem s_100 : FP.Core.sgn (FP.Core.val32 (1120403456 : UInt32)) = false := by decide +kernel
theorem s_1000 : FP.Core.sgn (FP.Core.val32 (1148846080 : UInt32)) = false := by decide +kernel
theorem nz_div {a b : UInt32} (fa : FP.Core.FFin a) (fb : FP.Core.FFin b) (hb : b.toNat % 2 ^ 31 ≠ 0) (h : FP.Core.sgn (FP.Core.val32 a) = false ∧ FP.Core.sgn (FP.Core.val32 b) = false ∨ FP.Core.unitsOf FP.Core.b32 (b.toNat % 2 ^ 31) ≤ FP.Core.unitsOf FP.Core.b32 (a.toNat % 2 ^ 31) * 2 ^ 149) : nz (FP.fdiv a b) := by
  obtain ⟨s, hs, hv⟩ := div_units fa fb hb
  have hne : FP.Core.val32 (FP.fdiv a b) ≠ .nan := by
    rw [hv]
    exact FP.Core.roundRatio_ne_nan _ _ _ _ _
  refine nz_of hne ?_
  rw [hv, FP.Core.sgn_roundRatio]
  intro h1
  rcases h with ⟨h2, h3⟩ | h2
  · rw [h2, h3] at hs
    rw [hs] at h1
    exact absurd h1 (by decide)
  · refine rr_pos (Nat.pos_of_ne_zero (fun h => hb (FP.Core.unitsOf_eq_zero.mp h))) (by decide) ?_
    rw [FP.Core.qmin_b32]
    unfold FP.Core.inUnits
    simpa using h2
theorem nz_m {n : Int32} (h : n.toInt.natAbs ≤ 2 ^ 24) : nz (m100 n) := by
  refine nz_div ((mg_i2f n).ffin (by decide)) f_100 (by decide) ?_
  rcases Nat.eq_zero_or_pos n.toInt.natAbs with h0 | h0
  · exact .inl ⟨i2f_sgn h (by omega), s_100⟩
  · right
    rw [u_100, i2f_units h]
    have : 1 * 2 ^ 149 ≤ n.toInt.natAbs * 2 ^ 149 := Nat.mul_le_mul_right _ h0
    omega
theorem nz_t {n : Int32} (h : n.toInt.natAbs ≤ 2 ^ 24) : nz (t1000 n) := by
  refine nz_div ((mg_i2f n).ffin (by decide)) f_1000 (by decide) ?_
  rcases Nat.eq_zero_or_pos n.toInt.natAbs with h0 | h0
  · exact .inl ⟨i2f_sgn h (by omega), s_1000⟩
  · right
    rw [u_1000, i2f_units h]
    have : 1 * 2 ^ 149 ≤ n.toInt.natAbs * 2 ^ 149 := Nat.mul_le_mul_right _ h0
    omega
/-- at most a half -/
theorem t_half {n : Int32} (h0 : 0 ≤ n.toInt) (h : n.toInt ≤ 500) : ml 126 (t1000 n) := by
  have hn := (mg_t n).nn (by decide)
  have hh := div_le (V := FP.Core.val32 (1056964608 : UInt32)) ((mg_i2f n).ffin (by decide)) f_1000 (by decide) (FP.Core.val32_fits _) (by decide +kernel) (by
    rw [i2f_units (by omega), u_1000, show FP.Core.zmag FP.Core.b32 (FP.Core.val32 (1056964608 : UInt32)) = 2 ^ 148 by decide +kernel]
    have : n.toInt.natAbs ≤ 500 := by omega
    have e : 2 ^ 148 * (1000 * 2 ^ 149) = 500 * 2 ^ 149 * 2 ^ 149 := by decide +kernel
    rw [e]
    exact Nat.mul_le_mul_right _ (Nat.mul_le_mul_right _ this))
  rw [FP.Core.zmag_toNat32 hn, FP.Core.zmag_toNat32 (by decide +kernel), FP.Core.unitsOf_le_iff] at hh
  unfold ml
  exact Nat.le_trans hh (by decide)
theorem t_sgn {n : Int32} (h0 : 0 ≤ n.toInt) (h : n.toInt ≤ 2 ^ 24) : 0 ≤ fk (t1000 n) := by
  obtain ⟨s, hs, hv⟩ := div_units ((mg_i2f n).ffin (by decide)) f_1000 (by decide)
  have hn := (mg_t n).nn (by decide)
  rw [i2f_sgn (by omega) h0, s_1000] at hs
  have h2 := FP.Core.sgn_bits32 hn
  rw [hv, FP.Core.sgn_roundRatio, hs] at h2
  have h3 := of_decide_eq_false h2.symm
  unfold fk FP.Core.fkey
  rw [if_neg h3]
  omega
theorem m_sgn {n : Int32} (h0 : 0 ≤ n.toInt) (h : n.toInt ≤ 2 ^ 24) : 0 ≤ fk (m100 n) := by
  obtain ⟨s, hs, hv⟩ := div_units ((mg_i2f n).ffin (by decide)) f_100 (by decide)
  have hn := (mg_m n).nn (by decide)
  rw [i2f_sgn (by omega) h0, s_100] at hs
  have h2 := FP.Core.sgn_bits32 hn
  rw [hv, FP.Core.sgn_roundRatio, hs] at h2
  have h3 := of_decide_eq_false h2.symm
  unfold fk FP.Core.fkey
  rw [if_neg h3]
  omega
/-- what is held between -g and g is not greater than g -/
theorem ml_held {K : Nat} {v g : UInt32} (hg : ml K g) (h1 : fk (FP.fneg g) ≤ fk v) (h2 : fk v ≤ fk g) : ml K v := by
  rw [fk_neg] at h1
  unfold ml at *
  rw [← fk_abs] at *
  omega
/-- a grid point -/
theorem grid {k : Nat} (h : k < 2 ^ 24) : ∃ V, FP.Core.fits FP.Core.b32 V ∧ V ≠ .nan ∧ FP.Core.zmag FP.Core.b32 V = k * 2 ^ 135 ∧ FP.Core.sgn V = false := by
  obtain ⟨c, q, h1, h2⟩ := FP.Core.round_exact FP.Core.good_b32 false (c := k) (q := -14) h (by decide) (by decide)
  refine ⟨FP.Core.round FP.Core.b32 (.fin false k (-14)), FP.Core.round_fits FP.Core.good_b32 _, by rw [h1]; exact FP.Core.Datum.noConfusion, ?_, by rw [h1]; rfl⟩
  rw [h1]
  show FP.Core.inUnits c q FP.Core.b32.qmin = _
  rw [h2]
  rfl
theorem m_gap {i j : Int32} (h0 : 0 ≤ i.toInt) (h1 : i.toInt < j.toInt) (h2 : j.toInt ≤ 100000) : FP.Core.zval FP.Core.b32 (FP.Core.val32 (m100 i)) + ((128 * 2 ^ 135 : Nat) : Int) ≤ FP.Core.zval FP.Core.b32 (FP.Core.val32 (m100 j)) := by
  obtain ⟨V, v1, v2, v3, v4⟩ := grid (k := j.toInt.natAbs * 16384 / 100) (by omega)
  obtain ⟨U, w1, w2, w3, w4⟩ := grid (k := (i.toInt.natAbs * 16384 + 99) / 100) (by omega)
  have a1 := div_ge (V := V) ((mg_i2f j).ffin (by decide)) f_100 (by decide) v1 (by
    rw [i2f_units (by omega), u_100, v3]
    have : j.toInt.natAbs * 16384 / 100 * 100 ≤ j.toInt.natAbs * 16384 := Nat.div_mul_le_self _ _
    calc j.toInt.natAbs * 16384 / 100 * 2 ^ 135 * (100 * 2 ^ 149) = j.toInt.natAbs * 16384 / 100 * 100 * (2 ^ 135 * 2 ^ 149) := by ac_rfl
      _ ≤ j.toInt.natAbs * 16384 * (2 ^ 135 * 2 ^ 149) := Nat.mul_le_mul_right _ this
      _ = j.toInt.natAbs * 2 ^ 149 * 2 ^ 149 := by rw [show 16384 = 2 ^ 14 by decide]; ac_rfl)
  have a2 := div_le (V := U) ((mg_i2f i).ffin (by decide)) f_100 (by decide) w1 w2 (by
    rw [i2f_units (by omega), u_100, w3]
    have : i.toInt.natAbs * 16384 ≤ (i.toInt.natAbs * 16384 + 99) / 100 * 100 := by omega
    calc i.toInt.natAbs * 2 ^ 149 * 2 ^ 149 = i.toInt.natAbs * 16384 * (2 ^ 135 * 2 ^ 149) := by rw [show 16384 = 2 ^ 14 by decide]; ac_rfl
      _ ≤ (i.toInt.natAbs * 16384 + 99) / 100 * 100 * (2 ^ 135 * 2 ^ 149) := Nat.mul_le_mul_right _ this
      _ = (i.toInt.natAbs * 16384 + 99) / 100 * 2 ^ 135 * (100 * 2 ^ 149) := by ac_rfl)
  rw [v3] at a1
  rw [w3] at a2
  have b1 := FP.Core.sgn_bits32 ((mg_m i).nn (by decide))
  have b2 := FP.Core.sgn_bits32 ((mg_m j).nn (by decide))
  have s1 := m_sgn h0 (by omega)
  have s2 := m_sgn (n := j) (by omega) (by omega)
  have c1 : FP.Core.sgn (FP.Core.val32 (m100 i)) = true → FP.Core.zmag FP.Core.b32 (FP.Core.val32 (m100 i)) = 0 := by
    intro h
    rw [h] at b1
    have := of_decide_eq_true b1.symm
    rw [FP.Core.zmag_toNat32 ((mg_m i).nn (by decide)), FP.Core.unitsOf_eq_zero, ← fk_abs]
    unfold fk FP.Core.fkey at *
    rw [if_pos this] at *
    omega
  have c2 : FP.Core.sgn (FP.Core.val32 (m100 j)) = true → FP.Core.zmag FP.Core.b32 (FP.Core.val32 (m100 j)) = 0 := by
    intro h
    rw [h] at b2
    have := of_decide_eq_true b2.symm
    rw [FP.Core.zmag_toNat32 ((mg_m j).nn (by decide)), FP.Core.unitsOf_eq_zero, ← fk_abs]
    unfold fk FP.Core.fkey at *
    rw [if_pos this] at *
    omega
  have d1 : FP.Core.zval FP.Core.b32 (FP.Core.val32 (m100 i)) = FP.Core.zmag FP.Core.b32 (FP.Core.val32 (m100 i)) := by
    unfold FP.Core.zval
    cases h : FP.Core.sgn (FP.Core.val32 (m100 i))
    · rfl
    · rw [c1 h]; rfl
  have d2 : FP.Core.zval FP.Core.b32 (FP.Core.val32 (m100 j)) = FP.Core.zmag FP.Core.b32 (FP.Core.val32 (m100 j)) := by
    unfold FP.Core.zval
    cases h : FP.Core.sgn (FP.Core.val32 (m100 j))
    · rfl
    · rw [c2 h]; rfl
  rw [d1, d2]
  have e : (i.toInt.natAbs * 16384 + 99) / 100 + 128 ≤ j.toInt.natAbs * 16384 / 100 := by omega
  have e2 := Nat.mul_le_mul_right (2 ^ 135) e
  rw [Nat.add_mul] at e2
  generalize FP.Core.zmag FP.Core.b32 (FP.Core.val32 (m100 i)) = x at *
  generalize FP.Core.zmag FP.Core.b32 (FP.Core.val32 (m100 j)) = y at *
  omega
