/-! more calls that look -/
theorem c_13 : (13 : Int32).toInt = 13 := by decide
theorem c_20 : (20 : Int32).toInt = 20 := by decide
theorem c_8 : (8 : Int32).toInt = 8 := by decide
theorem c_5 : (5 : Int32).toInt = 5 := by decide
theorem s7_closed {m : Nat} {vn vs vp vq vd vo mn : Nat → Int32} (hR : rN vn vs vp vq vd vo mn) (hs : sOk vn vd vo m) {K : Int32 → Unit → Prop} (hK : K (nI (cc vo m)) ()) : vX7_closed mn K := by
  obtain ⟨h4, hn, hb, hd⟩ := hs
  unfold vX7_closed
  refine lp_ex (fun z : Int32 × Int32 => ∃ i : Nat, i ≤ m ∧ z = (nI (cc vo i), nI i)) (fun z => 5 - z.2.toNatClampNeg) _ ⟨0, by omega, rfl⟩ ?_
  rintro B z ⟨i, hi, rfl⟩ hB
  unfold vX7_closed_4F vX7_closed_4b vX7_closed_29
  dsimp only
  rw [hR.1 11 (by decide), hn]
  refine ⟨fun h => ?_, fun h => ?_⟩
  · rw [nI_leI (by omega) (by omega)] at h
    obtain rfl : i = m := by omega
    exact hK
  · rw [nI_leI (by omega) (by omega)] at h
    refine s7_isClosed hR (by omega) (fun h1 => ⟨fun _ => hB _ ⟨i + 1, by omega, ?_⟩ ?_, fun q => absurd rfl q⟩) (fun h1 => ⟨fun q => absurd q (by decide), fun _ => hB _ ⟨i + 1, by omega, ?_⟩ ?_⟩)
    · rw [cc_s, if_neg h1, nI_1, Int32.add_zero]
    · dsimp only
      rw [nI_1, nI_cl (by omega), nI_cl (by omega)]
      omega
    · rw [cc_s, if_pos h1, nI_1, nI_1]
    · dsimp only
      rw [nI_1, nI_cl (by omega), nI_cl (by omega)]
      omega
theorem h_op_23 : op_23 LIx := by
  intro vn vf vs vp vq vd vo un uf us up uq ud uo tm tx hc hh ss sv mn mf mk mG mv mt mm s1 hL
  have hL' := hL
  obtain ⟨⟨n, m, ⟨hp, hs, ht, hf, ho⟩, hW⟩, ⟨c, hc5, e1, e2, -⟩, -, ⟨l, hl, t1, t2, -⟩⟩ := hL'
  have hR := hW.1
  have k0 := hW.2.1 0 (by decide)
  unfold vX6_total vX7_total
  have hno : ∀ (k : Nat) {Q : Int32 → Unit → Prop}, k < 13 → Q 0 () → vX7_isIn (nI k) 13 20 Q := fun k Q hk hQ => s7_isIn c_13 c_20 (fun a b => by
    rw [i_nI (by omega)] at a
    omega) (fun _ => hQ)
  have h92 : ∀ (k : Nat) (Q : Int32 → Unit → Prop), k < 5 → Q (vn k) () → vX7_total_92 mn mf mm (nI k) Q := by
    intro k Q hk hQ
    unfold vX7_total_92
    rw [nI_cl (by omega), hR.1 k (by omega)]
    exact ⟨nI_in2 (by omega) (by omega), hQ⟩
  have h104 : ∀ (k : Nat) (Q : Int32 → Unit → Prop), k < 8 → Q (vn (k + 4)) () → vX7_total_104 mn mf mm (nI k) Q := by
    intro k Q hk hQ
    unfold vX7_total_104
    rw [show (4 : Int32) = nI 4 by rfl, nI_add, nI_cl (by omega), hR.1 (k + 4) (by omega)]
    exact ⟨nI_in2 (by omega) (by omega), hQ⟩
  have h128 : ∀ (k : Nat) (Q : Int32 → Unit → Prop), k < 12 → Q (vn k) () → vX7_total_128 mn mf mm (nI (k + 3)) Q := by
    intro k Q hk hQ
    unfold vX7_total_128
    have e : nI (k + 3) - (3 : Int32) = nI k := by
      rw [← nI_add]
      exact Int32.add_sub_cancel _ _
    rw [e, nI_cl (by omega), hR.1 k (by omega)]
    exact ⟨nI_in2 (by omega) (by omega), hQ⟩
  refine ⟨fun h => ?_, fun h0 => ⟨fun h => ?_, fun h1 => ⟨fun h => ?_, fun h2 => ⟨fun h => ?_, fun h3 => ⟨fun h => ?_, fun h4 => ⟨fun h => ?_, fun h5 => ⟨fun h => ?_, fun h6 => ⟨fun h => ?_, fun h7 => ⟨fun h => ?_, fun h8 => ⟨fun h => ?_, fun h9 => ⟨fun h => ?_, fun h10 => ⟨fun h => ?_, fun h11 => ⟨fun h => ?_, fun h12 => ?_⟩⟩⟩⟩⟩⟩⟩⟩⟩⟩⟩⟩⟩
  · subst h
    refine hno 0 (by decide) ⟨fun _ => ?_, fun q => absurd rfl q⟩
    repeat (first | refine ⟨fun _ => ?_, fun q => absurd rfl q⟩ | refine ⟨fun q => absurd q (by decide), fun _ => ?_⟩)
    exact h92 0 _ (by decide) ⟨rfl, hL⟩
  · subst h
    refine hno 1 (by decide) ⟨fun _ => ?_, fun q => absurd rfl q⟩
    repeat (first | refine ⟨fun _ => ?_, fun q => absurd rfl q⟩ | refine ⟨fun q => absurd q (by decide), fun _ => ?_⟩)
    exact h92 1 _ (by decide) ⟨rfl, hL⟩
  · subst h
    refine hno 2 (by decide) ⟨fun _ => ?_, fun q => absurd rfl q⟩
    repeat (first | refine ⟨fun _ => ?_, fun q => absurd rfl q⟩ | refine ⟨fun q => absurd q (by decide), fun _ => ?_⟩)
    exact h92 2 _ (by decide) ⟨rfl, hL⟩
  · subst h
    refine hno 3 (by decide) ⟨fun _ => ?_, fun q => absurd rfl q⟩
    repeat (first | refine ⟨fun _ => ?_, fun q => absurd rfl q⟩ | refine ⟨fun q => absurd q (by decide), fun _ => ?_⟩)
    exact h92 3 _ (by decide) ⟨rfl, hL⟩
  · subst h
    refine ⟨fun z => hno 4 (by decide) ⟨fun _ => ?_, fun q => absurd rfl q⟩, fun z => hno 4 (by decide) ⟨fun _ => ?_, fun q => absurd rfl q⟩⟩
    · repeat (first | refine ⟨fun _ => ?_, fun q => absurd rfl q⟩ | refine ⟨fun q => absurd q (by decide), fun _ => ?_⟩)
      exact h92 4 _ (by decide) ⟨z.symm, hL⟩
    · repeat (first | refine ⟨fun _ => ?_, fun q => absurd rfl q⟩ | refine ⟨fun q => absurd q (by decide), fun _ => ?_⟩)
      exact h92 4 _ (by decide) ⟨(ho.1.resolve_left z).symm, hL⟩
  · subst h
    refine s5_nextBelow hs (hf.1.1.mg.mono (by decide)) (hno 5 (by decide) ⟨fun _ => ?_, fun q => absurd rfl q⟩)
    repeat (first | refine ⟨fun _ => ?_, fun q => absurd rfl q⟩ | refine ⟨fun q => absurd q (by decide), fun _ => ?_⟩)
    refine s7_nextStop hR hs ((hW.fOk hf).1.1.mg.mono (by decide)) ⟨?_, hL⟩
    rw [k0]
  · subst h
    refine hno 6 (by decide) ⟨fun _ => ?_, fun q => absurd rfl q⟩
    repeat (first | refine ⟨fun _ => ?_, fun q => absurd rfl q⟩ | refine ⟨fun q => absurd q (by decide), fun _ => ?_⟩)
    exact h104 6 _ (by decide) ⟨rfl, hL⟩
  · subst h
    refine hno 7 (by decide) ⟨fun _ => ?_, fun q => absurd rfl q⟩
    repeat (first | refine ⟨fun _ => ?_, fun q => absurd rfl q⟩ | refine ⟨fun q => absurd q (by decide), fun _ => ?_⟩)
    exact h104 7 _ (by decide) ⟨rfl, hL⟩
  · subst h
    refine s5_countClosed hs (hno 8 (by decide) ⟨fun _ => ?_, fun q => absurd rfl q⟩)
    repeat (first | refine ⟨fun _ => ?_, fun q => absurd rfl q⟩ | refine ⟨fun q => absurd q (by decide), fun _ => ?_⟩)
    exact s7_closed hR hs ⟨rfl, hL⟩
  · subst h
    refine hno 9 (by decide) ⟨fun _ => ?_, fun q => absurd rfl q⟩
    repeat (first | refine ⟨fun _ => ?_, fun q => absurd rfl q⟩ | refine ⟨fun q => absurd q (by decide), fun _ => ?_⟩)
    exact ⟨e1.trans e2.symm, hL⟩
  · subst h
    refine hno 10 (by decide) ⟨fun _ => ?_, fun q => absurd rfl q⟩
    repeat (first | refine ⟨fun _ => ?_, fun q => absurd rfl q⟩ | refine ⟨fun q => absurd q (by decide), fun _ => ?_⟩)
    exact ⟨t1.trans t2.symm, hL⟩
  · subst h
    refine hno 11 (by decide) ⟨fun _ => ?_, fun q => absurd rfl q⟩
    repeat (first | refine ⟨fun _ => ?_, fun q => absurd rfl q⟩ | refine ⟨fun q => absurd q (by decide), fun _ => ?_⟩)
    exact h128 8 _ (by decide) ⟨rfl, hL⟩
  · subst h
    refine hno 12 (by decide) ⟨fun _ => ?_, fun q => absurd rfl q⟩
    repeat (first | refine ⟨fun _ => ?_, fun q => absurd rfl q⟩ | refine ⟨fun q => absurd q (by decide), fun _ => ?_⟩)
    exact h128 9 _ (by decide) ⟨rfl, hL⟩
  · have hsub : 13 ≤ s1.toInt → s1.toInt ≤ 20 → (s1 - 13).toInt = s1.toInt - 13 := fun a b => by
      rw [i_sub] <;> rw [c_13] <;> omega
    unfold vX6_settingAt vX6_settingAt_10
    rw [i_lt, i_lt, c_0, c_8]
    refine ⟨fun h => ?_, fun h => ⟨fun g => ?_, fun g => ?_⟩⟩
    · have hb : ¬ (13 ≤ s1.toInt ∧ s1.toInt ≤ 20) := fun q => by
        have := hsub q.1 q.2
        omega
      refine s7_isIn c_13 c_20 (fun a b => absurd ⟨a, b⟩ hb) (fun _ => ⟨fun _ => ?_, fun q => absurd rfl q⟩)
      exact ⟨fun q => absurd q h0, fun _ => ⟨fun q => absurd q h1, fun _ => ⟨fun q => absurd q h2, fun _ => ⟨fun q => absurd q h3, fun _ => ⟨fun q => absurd q h4, fun _ => ⟨fun q => absurd q h5, fun _ => ⟨fun q => absurd q h6, fun _ => ⟨fun q => absurd q h7, fun _ => ⟨fun q => absurd q h8, fun _ => ⟨fun q => absurd q h9, fun _ => ⟨fun q => absurd q h10, fun _ => ⟨fun q => absurd q h11, fun _ => ⟨fun q => absurd q h12, fun _ => ⟨rfl, hL⟩⟩⟩⟩⟩⟩⟩⟩⟩⟩⟩⟩⟩⟩
    · obtain ⟨j, hj, e⟩ : ∃ j : Nat, j < 8 ∧ s1 - 13 = nI j := ⟨(s1 - 13).toInt.toNat, by omega, i_of (by omega)⟩
      have es : s1 = nI (j + 13) := by
        have := Int32.sub_add_cancel s1 13
        rw [← this, e]
        exact nI_add j 13
      rw [e, nI_cl (by omega)]
      refine ⟨nI_in2 (by omega) (by omega), ?_⟩
      rw [es]
      refine s7_isIn c_13 c_20 (fun a b => ⟨fun q => absurd q (by decide), fun _ => ?_⟩) (fun q => by
        rw [i_nI (by omega)] at q
        omega)
      have e3 : (12 : Int32) + nI (j + 13) - 13 = nI (12 + j) := by
        rw [show (12 : Int32) = nI 12 by rfl, nI_add, show 12 + (j + 13) = (12 + j) + 13 by omega, ← nI_add]
        exact Int32.add_sub_cancel _ _
      rw [e3, nI_cl (by omega), hR.2.1 j (by omega)]
      exact ⟨nI_in2 (by omega) (by omega), rfl, hL⟩
    · have hb : ¬ (13 ≤ s1.toInt ∧ s1.toInt ≤ 20) := fun q => by
        have := hsub q.1 q.2
        omega
      refine s7_isIn c_13 c_20 (fun a b => absurd ⟨a, b⟩ hb) (fun _ => ⟨fun _ => ?_, fun q => absurd rfl q⟩)
      exact ⟨fun q => absurd q h0, fun _ => ⟨fun q => absurd q h1, fun _ => ⟨fun q => absurd q h2, fun _ => ⟨fun q => absurd q h3, fun _ => ⟨fun q => absurd q h4, fun _ => ⟨fun q => absurd q h5, fun _ => ⟨fun q => absurd q h6, fun _ => ⟨fun q => absurd q h7, fun _ => ⟨fun q => absurd q h8, fun _ => ⟨fun q => absurd q h9, fun _ => ⟨fun q => absurd q h10, fun _ => ⟨fun q => absurd q h11, fun _ => ⟨fun q => absurd q h12, fun _ => ⟨rfl, hL⟩⟩⟩⟩⟩⟩⟩⟩⟩⟩⟩⟩⟩⟩
/-! the least square of a drift -/
theorem nz_sq {x y : UInt32} (hx : mg 179 x) (hy : mg 179 y) : nz (sqF x y) := by
  have q := sq_mg hx hy
  have fx := hx.ffin (by decide)
  refine nz_fadd (q.1.ffin (by decide)) (q.2.1.ffin (by decide)) (.inl (nz_pos (pos_of (q.1.nn (by decide)) ?_)))
  obtain ⟨s, c, r, v⟩ := fx
  rw [show FP.Core.val32 (FP.fmul x x) = FP.Core.round FP.Core.b32 (FP.Core.exactProduct (FP.Core.val32 x) (FP.Core.val32 x)) from FP.Core.val32_fmul x x, v]
  show FP.Core.sgn (FP.Core.roundRatio FP.Core.b32 (s != s) (c * c) 1 (r + r)) = false
  rw [FP.Core.sgn_roundRatio]
  cases s <;> rfl
def lsS (vx vy : UInt32) : Nat → UInt32 → UInt32 → UInt32 → UInt32
  | 0, _, _, l => l
  | k + 1, x, y, l => lsS vx vy k (FP.fadd x vx) (FP.fadd y vy) (if fk (sqF (FP.fadd x vx) (FP.fadd y vy)) < fk l then sqF (FP.fadd x vx) (FP.fadd y vy) else l)
theorem ls_s (vx vy : UInt32) (k : Nat) (x y l : UInt32) : lsS vx vy (k + 1) x y l = lsS vx vy k (FP.fadd x vx) (FP.fadd y vy) (if fk (sqF (FP.fadd x vx) (FP.fadd y vy)) < fk l then sqF (FP.fadd x vx) (FP.fadd y vy) else l) := rfl
theorem ls_mg {vx vy : UInt32} (hx : ml 152 vx) (hy : ml 152 vy) : ∀ (k : Nat) (x y l : UInt32), ml 178 x → ml 178 y → mg 234 l → nz l → mg 234 (lsS vx vy k x y l) ∧ nz (lsS vx vy k x y l) := by
  intro k
  induction k with
  | zero => intro x y l _ _ h1 h2; exact ⟨h1, h2⟩
  | succ k ih =>
    intro x y l h1 h2 h3 h4
    rw [ls_s]
    have mx := ml_sat (by decide) (by decide) h1 (show ml (178 - 26) vx from hx)
    have my := ml_sat (by decide) (by decide) h2 (show ml (178 - 26) vy from hy)
    refine ih _ _ _ mx my ?_ ?_
    · split
      · exact (sq_mg mx.mg my.mg).2.2
      · exact h3
    · split
      · exact nz_sq mx.mg my.mg
      · exact h4
theorem s4_least {vf : Nat → UInt32} (hf : fOk vf) {t : Nat} (ht : t ≤ 1000) {K : UInt32 → Unit → Prop} (hK : K (lsS (vf 2) (vf 3) t (vf 0) (vf 1) (sqF (vf 0) (vf 1))) ()) : vX4_leastSquare vf (nI t) K := by
  obtain ⟨⟨a0, a1, a2, a3, a4⟩, -⟩ := hf
  have q := sq_mg a0.mg a1.mg
  unfold vX4_leastSquare
  refine ⟨q.1.n32 (by decide), q.2.1.n32 (by decide), q.2.2.n32 (by decide), ?_⟩
  refine lp_ex (fun z : UInt32 × UInt32 × UInt32 × Int32 => ∃ i : Nat, i ≤ t ∧ z.2.2.2 = nI i ∧ ml 178 z.1 ∧ ml 178 z.2.1 ∧ mg 234 z.2.2.1 ∧ K (lsS (vf 2) (vf 3) (t - i) z.1 z.2.1 z.2.2.1) ()) (fun z => t - z.2.2.2.toNatClampNeg) _ ⟨0, by omega, rfl, a0, a1, q.2.2, hK⟩ ?_
  rintro B ⟨x, y, l, z⟩ ⟨i, hi, hz, hx, hy, hl, hKi⟩ hB
  dsimp only at hz hx hy hl hKi hB
  subst hz
  unfold vX4_leastSquare_22F vX4_leastSquare_22b vX4_leastSquare_66
  dsimp only
  rw [nI_leI (by omega) (by omega)]
  refine ⟨fun h => ?_, fun h => ?_⟩
  · rw [show t - i = 0 by omega] at hKi
    exact hKi
  · obtain ⟨k, hk⟩ : ∃ k, t - i = k + 1 := ⟨t - i - 1, by omega⟩
    rw [hk, ls_s] at hKi
    have mx := ml_sat (by decide) (by decide) hx (show ml (178 - 26) (vf 2) from a2)
    have my := ml_sat (by decide) (by decide) hy (show ml (178 - 26) (vf 3) from a3)
    have qs := sq_mg mx.mg my.mg
    have hk2 : t - (i + 1) = k := by omega
    rw [cg_le (qs.2.2.nn (by decide)) (hl.nn (by decide))]
    refine ⟨mx.mg.n32 (by decide), my.mg.n32 (by decide), qs.1.n32 (by decide), qs.2.1.n32 (by decide), qs.2.2.n32 (by decide), fun h1 => ?_, fun h1 => ?_⟩
    · rw [if_neg (by omega)] at hKi
      refine hB _ ⟨i + 1, by omega, nI_1 i, mx, my, hl, ?_⟩ ?_
      · rw [hk2]
        exact hKi
      · dsimp only
        rw [nI_1, nI_cl (by omega), nI_cl (by omega)]
        omega
    · rw [if_pos (by omega)] at hKi
      refine hB _ ⟨i + 1, by omega, nI_1 i, mx, my, qs.2.2, ?_⟩ ?_
      · rw [hk2]
        exact hKi
      · dsimp only
        rw [nI_1, nI_cl (by omega), nI_cl (by omega)]
        omega
theorem s7_least {mf : Nat → UInt32} (hf : fOk mf) {t : Nat} (ht : t ≤ 500) {K : Int32 → Unit → Prop} (hK : K (bitsA (lsS (mf 2) (mf 3) t (mf 0) (mf 1) (sqF (mf 0) (mf 1)))) ()) : vX7_closest mf (nI t) K := by
  obtain ⟨⟨a0, a1, a2, a3, a4⟩, -⟩ := hf
  have q := sq_mg a0.mg a1.mg
  unfold vX7_closest
  refine s7_isIn c_0 c_500 (fun _ _ => ⟨fun _ => ⟨q.1.n32 (by decide), q.2.1.n32 (by decide), q.2.2.n32 (by decide), ?_⟩, fun q => absurd q (by decide)⟩) (fun q => by
    rw [i_nI (by omega)] at q
    omega)
  refine lp_ex (fun z : UInt32 × UInt32 × UInt32 × Int32 => ∃ i : Nat, i ≤ t ∧ z.2.2.2 = nI i ∧ ml 178 z.1 ∧ ml 178 z.2.1 ∧ mg 234 z.2.2.1 ∧ nz z.2.2.1 ∧ K (bitsA (lsS (mf 2) (mf 3) (t - i) z.1 z.2.1 z.2.2.1)) ()) (fun z => t - z.2.2.2.toNatClampNeg) _ ⟨0, by omega, rfl, a0, a1, q.2.2, nz_sq a0.mg a1.mg, hK⟩ ?_
  rintro B ⟨x, y, l, z⟩ ⟨i, hi, hz, hx, hy, hl, hn, hKi⟩ hB
  dsimp only at hz hx hy hl hn hKi hB
  subst hz
  unfold vX7_closest_40F vX7_closest_40b vX7_closest_88
  dsimp only
  rw [nI_leI (by omega) (by omega)]
  refine ⟨fun h => ?_, fun h => ?_⟩
  · rw [show t - i = 0 by omega] at hKi
    exact s7_bits (hl.mono (by decide)) hn hKi
  · obtain ⟨k, hk⟩ : ∃ k, t - i = k + 1 := ⟨t - i - 1, by omega⟩
    rw [hk, ls_s] at hKi
    have mx := ml_sat (by decide) (by decide) hx (show ml (178 - 26) (mf 2) from a2)
    have my := ml_sat (by decide) (by decide) hy (show ml (178 - 26) (mf 3) from a3)
    have qs := sq_mg mx.mg my.mg
    have hk2 : t - (i + 1) = k := by omega
    rw [cg_le (qs.2.2.nn (by decide)) (hl.nn (by decide))]
    refine ⟨mx.mg.n32 (by decide), my.mg.n32 (by decide), qs.1.n32 (by decide), qs.2.1.n32 (by decide), qs.2.2.n32 (by decide), fun h1 => ?_, fun h1 => ?_⟩
    · rw [if_neg (by omega)] at hKi
      refine hB _ ⟨i + 1, by omega, nI_1 i, mx, my, hl, hn, ?_⟩ ?_
      · rw [hk2]
        exact hKi
      · dsimp only
        rw [nI_1, nI_cl (by omega), nI_cl (by omega)]
        omega
    · rw [if_pos (by omega)] at hKi
      refine hB _ ⟨i + 1, by omega, nI_1 i, mx, my, qs.2.2, nz_sq mx.mg my.mg, ?_⟩ ?_
      · rw [hk2]
        exact hKi
      · dsimp only
        rw [nI_1, nI_cl (by omega), nI_cl (by omega)]
        omega
theorem h_op_26 : op_26 LIx := by
  intro vn vf vs vp vq vd vo un uf us up uq ud uo tm tx hc hh ss sv mn mf mk mG mv mt mm s1 hL
  have hL' := hL
  obtain ⟨⟨n, m, ⟨hp, hs, ht, hf, ho⟩, hW⟩, -, -, -⟩ := hL'
  have hfm := hW.fOk hf
  have bad : ¬ (0 ≤ s1.toInt ∧ s1.toInt ≤ 500) → vX7_closest mf s1 (fun q z => -2 = q ∧ LIx vn vf vs vp vq vd vo un uf us up uq ud uo tm tx hc hh ss sv mn mf mk mG mv mt mm) := fun hb => s7_isIn c_0 c_500 (fun a b => absurd ⟨a, b⟩ hb) (fun _ => ⟨fun q => absurd rfl q, fun _ => ⟨rfl, hL⟩⟩)
  unfold vX6_closest
  rw [i_lt, i_le, c_0, c_500]
  refine ⟨fun h => bad (by omega), fun h => ⟨fun h2 => ?_, fun h2 => bad (by omega)⟩⟩
  obtain ⟨t, h5, e⟩ : ∃ t : Nat, t ≤ 500 ∧ s1 = nI t := ⟨s1.toInt.toNat, by omega, i_of (by omega)⟩
  subst e
  obtain ⟨q1, q2⟩ := ls_mg hf.1.2.2.1 hf.1.2.2.2.1 t (vf 0) (vf 1) (sqF (vf 0) (vf 1)) hf.1.1 hf.1.2.1 (sq_mg hf.1.1.mg hf.1.2.1.mg).2.2 (nz_sq hf.1.1.mg hf.1.2.1.mg)
  refine s4_least hf (by omega) (s6_bits (q1.mono (by decide)) q2 (s7_least hfm h5 ⟨?_, hL⟩))
  rw [hW.2.1 0 (by decide), hW.2.1 1 (by decide), hW.2.1 2 (by decide), hW.2.1 3 (by decide)]
/-! the safe speed -/
theorem t_five {n : Int32} (h0 : 0 ≤ n.toInt) (h : n.toInt ≤ 5000) : ml 130 (t1000 n) := by
  have hn := (mg_t n).nn (by decide)
  have hh := div_le (V := FP.Core.val32 (1084227584 : UInt32)) ((mg_i2f n).ffin (by decide)) f_1000 (by decide) (FP.Core.val32_fits _) (by decide +kernel) (by
    rw [i2f_units (by omega), u_1000, show FP.Core.zmag FP.Core.b32 (FP.Core.val32 (1084227584 : UInt32)) = 5 * 2 ^ 149 by decide +kernel]
    have : n.toInt.natAbs ≤ 5000 := by omega
    have e : 5 * 2 ^ 149 * (1000 * 2 ^ 149) = 5000 * 2 ^ 149 * 2 ^ 149 := by decide +kernel
    rw [e]
    exact Nat.mul_le_mul_right _ (Nat.mul_le_mul_right _ this))
  rw [FP.Core.zmag_toNat32 hn, FP.Core.zmag_toNat32 (by decide +kernel), FP.Core.unitsOf_le_iff] at hh
  unfold ml
  exact Nat.le_trans hh (by decide)
abbrev nsp (k : Nat) : UInt32 := FP.fsub FP.fconst0 (t1000 (nI k))
theorem nsp_ml {k : Nat} (h : k ≤ 5000) : ml 152 (nsp k) := by
  have := t_five (n := nI k) (by rw [i_nI (by omega)]; omega) (by rw [i_nI (by omega)]; omega)
  exact ((mg_sub (mg_0 (K := 131) (by decide)) this.mg (by decide)).mono (by decide)).ml
def spB (n : Nat) (vs vp vq : Nat → Int32) (vf : Nat → UInt32) (k : Nat) : Bool := !(fastB n vp vq (vf 0) (nsp k)) && !(driftB vs vf (nsp k))
def spS (P : Nat → Bool) : Nat → Int32
  | 0 => -5
  | k + 1 => if P k = true then nI k else spS P k
theorem sp_s (P : Nat → Bool) (k : Nat) : spS P (k + 1) = if P k = true then nI k else spS P k := rfl
theorem b2_0 {b : Bool} : b2 b 1 = 0 ↔ b = false := by
  cases b
  · exact ⟨fun _ => rfl, fun _ => rfl⟩
  · exact ⟨fun q => absurd q (by decide), fun q => absurd q (by decide)⟩
theorem nI_m1_neg {k : Nat} (h : k < 100000) : (nI k - 1 < (0 : Int32)) ↔ k = 0 := by
  rcases Nat.eq_zero_or_pos k with q | q
  · subst q
    exact ⟨fun _ => rfl, fun _ => by decide⟩
  · rw [nI_m1 q, i_lt, i_nI (by omega), c_0]
    omega
theorem s6_safe {n : Nat} {vn vs vp vq : Nat → Int32} {vf : Nat → UInt32} (hp : pOk vn vp vq n) (ht : tOk vs) (hf : fOk vf) {K : Int32 → Unit → Prop} (hK : K (spS (spB n vs vp vq vf) 5001) ()) : vX6_safeSpeed vn vf vs vp vq K := by
  unfold vX6_safeSpeed
  refine lp_ex (fun z : Int32 => ∃ k : Nat, k ≤ 5001 ∧ z = nI k - 1 ∧ K (spS (spB n vs vp vq vf) k) ()) (fun z => (z + 1).toNatClampNeg) _ ⟨5001, by omega, by decide, hK⟩ ?_
  rintro B z ⟨k, hk, rfl, hKk⟩ hB
  unfold vX6_safeSpeed_4F vX6_safeSpeed_4b
  rw [nI_m1_neg (by omega)]
  refine ⟨fun h => ?_, fun h => ?_⟩
  · subst h
    exact hKk
  · obtain ⟨j, rfl⟩ : ∃ j, k = j + 1 := ⟨k - 1, by omega⟩
    rw [nI_m1 (by omega), Nat.add_sub_cancel]
    rw [sp_s] at hKk
    have hv := nsp_ml (k := j) (by omega)
    have nxt : spB n vs vp vq vf j = false → vX6_safeSpeed_40 vn vf vs vp vq (nI j) K (fun z0 => B z0) := by
      intro hq
      rw [if_neg (by rw [hq]; decide)] at hKk
      unfold vX6_safeSpeed_40
      refine hB _ ⟨j, by omega, i_m1 _, hKk⟩ ?_
      rw [i_m1, Int32.sub_add_cancel, Int32.sub_add_cancel, nI_cl (by omega), nI_cl (by omega)]
      omega
    refine ⟨(mg_t _).n32 (by decide), hv.mg.n32 (by decide), s4_isTooFast hp (hf.1.1.mg.mono (by decide)) (hv.mg.mono (by decide)) ⟨fun h1 => nxt ?_, fun h1 => s4_drift ht hf hv ⟨fun h2 => nxt ?_, fun h2 => ?_⟩⟩⟩
    · unfold spB
      cases hb : fastB n vp vq (vf 0) (nsp j)
      · exact absurd (b2_0.mpr hb) h1
      · rfl
    · unfold spB
      cases hb : driftB vs vf (nsp j)
      · exact absurd (b2_0.mpr hb) h2
      · exact Bool.and_false _
    · rw [if_pos (by
        unfold spB
        rw [b2_0.mp h1, b2_0.mp h2]
        rfl)] at hKk
      exact hKk
theorem s7_safe {n : Nat} {vn vs vp vq vd vo mn : Nat → Int32} {vf : Nat → UInt32} (hR : rN vn vs vp vq vd vo mn) (hp : pOk vn vp vq n) (ht : tOk vs) (hf : fOk vf) {K : Int32 → Unit → Prop} (hK : K (spS (spB n vs vp vq vf) 5001) ()) : vX7_safeSpeed mn vf K := by
  unfold vX7_safeSpeed
  refine lp_ex (fun z : Int32 => ∃ k : Nat, k ≤ 5001 ∧ z = nI k - 1 ∧ K (spS (spB n vs vp vq vf) k) ()) (fun z => (z + 1).toNatClampNeg) _ ⟨5001, by omega, by decide, hK⟩ ?_
  rintro B z ⟨k, hk, rfl, hKk⟩ hB
  unfold vX7_safeSpeed_4F vX7_safeSpeed_4b
  rw [nI_m1_neg (by omega)]
  refine ⟨fun h => ?_, fun h => ?_⟩
  · subst h
    exact hKk
  · obtain ⟨j, rfl⟩ : ∃ j, k = j + 1 := ⟨k - 1, by omega⟩
    rw [nI_m1 (by omega), Nat.add_sub_cancel]
    rw [sp_s] at hKk
    have hv := nsp_ml (k := j) (by omega)
    have nxt : spB n vs vp vq vf j = false → vX7_safeSpeed_33 mn vf (nI j) K (fun z0 => B z0) := by
      intro hq
      rw [if_neg (by rw [hq]; decide)] at hKk
      unfold vX7_safeSpeed_33
      refine hB _ ⟨j, by omega, i_m1 _, hKk⟩ ?_
      rw [i_m1, Int32.sub_add_cancel, Int32.sub_add_cancel, nI_cl (by omega), nI_cl (by omega)]
      omega
    refine s7_thousandth ⟨hv.mg.n32 (by decide), s7_isTooFast hR hp (hf.1.1.mg.mono (by decide)) (hv.mg.mono (by decide)) ⟨fun h1 => nxt ?_, fun h1 => s7_drift hR ht hf hv ⟨fun h2 => nxt ?_, fun h2 => ?_⟩⟩⟩
    · unfold spB
      cases hb : fastB n vp vq (vf 0) (nsp j)
      · exact absurd (b2_0.mpr hb) h1
      · rfl
    · unfold spB
      cases hb : driftB vs vf (nsp j)
      · exact absurd (b2_0.mpr hb) h2
      · exact Bool.and_false _
    · rw [if_pos (by
        unfold spB
        rw [b2_0.mp h1, b2_0.mp h2]
        rfl)] at hKk
      exact hKk
theorem sp_cg {n : Nat} {vs vp vq : Nat → Int32} {vf mf : Nat → UInt32} (hk : ∀ k, k < 4 → mf k = vf k) : spB n vs vp vq mf = spB n vs vp vq vf := by
  funext k
  unfold spB driftB
  rw [hk 0 (by decide), hk 1 (by decide), hk 3 (by decide)]
theorem h_op_27 : op_27 LIx := by
  intro vn vf vs vp vq vd vo un uf us up uq ud uo tm tx hc hh ss sv mn mf mk mG mv mt mm hL
  have hL' := hL
  obtain ⟨⟨n, m, ⟨hp, hs, ht, hf, ho⟩, hW⟩, -, -, -⟩ := hL'
  have hfm := hW.fOk hf
  refine s6_safe hp ht hf (s7_safe hW.1 hp ht hfm ⟨?_, hL⟩)
  rw [sp_cg hW.2.1]
