/-! the limit -/
theorem zk {a b : UInt32} (ha : FP.Core.val32 a ≠ .nan) (hb : FP.Core.val32 b ≠ .nan) : FP.Core.zval FP.Core.b32 (FP.Core.val32 a) < FP.Core.zval FP.Core.b32 (FP.Core.val32 b) ↔ fk a < fk b := by
  have h1 := FP.Core.fcmp_zval ha hb
  have h2 := FP.Core.fcmp_key ha hb
  rw [h1] at h2
  have h3 := Option.some.inj h2
  constructor
  · intro h
    rw [(FP.Core.compare_lt_iff _ _).mpr h] at h3
    exact (FP.Core.compare_lt_iff _ _).mp h3.symm
  · intro h
    have h : FP.Core.fkey a < FP.Core.fkey b := h
    rw [(FP.Core.compare_lt_iff _ _).mpr h] at h3
    exact (FP.Core.compare_lt_iff _ _).mp h3
theorem m_lt {i j : Int32} (h0 : 0 ≤ i.toInt) (h1 : i.toInt < j.toInt) (h2 : j.toInt ≤ 100000) : fk (m100 i) < fk (m100 j) := (zk ((mg_m i).nn (by decide)) ((mg_m j).nn (by decide))).mp (by
  have := m_gap h0 h1 h2
  omega)
theorem m_sub {i j : Int32} (h0 : 0 ≤ i.toInt) (h1 : i.toInt < j.toInt) (h2 : j.toInt ≤ 100000) : 120 * 2 ^ 23 ≤ (FP.fsub (m100 j) (m100 i)).toNat % 2 ^ 31 := by
  have hg := m_gap h0 h1 h2
  have fa := (mg_m j).ffin (by decide)
  have fb := (mg_m i).ffin (by decide)
  have fr := (mg_sub (mg_m j) (mg_m i) (by decide)).ffin (by decide)
  generalize m100 j = a at *
  generalize m100 i = b at *
  obtain ⟨s, c, q, va⟩ := fa
  obtain ⟨t, d, r, vb⟩ := fb
  have hfa := FP.Core.val32_fits a
  have hfb := FP.Core.negate_fits (FP.Core.val32_fits b)
  have nb := FP.Core.zval_negate FP.Core.b32 (FP.Core.val32 b)
  rw [va] at hfa hg
  rw [vb] at hfb nb hg
  obtain ⟨sg, v, e, p1, p2, p3⟩ := FP.Core.sum_units hfa hfb
  have hv : FP.Core.val32 (FP.fsub a b) = FP.Core.round FP.Core.b32 (.fin sg v e) := by
    rw [FP.Core.val32_fsub, va, vb]
    exact congrArg _ p1
  have nb : FP.Core.zval FP.Core.b32 (.fin (!t) d r) = - FP.Core.zval FP.Core.b32 (.fin t d r) := nb
  obtain ⟨V, v1, v2, v3, v4⟩ := grid (k := 128) (by decide)
  have vz : FP.Core.zval FP.Core.b32 V = ((128 * 2 ^ 135 : Nat) : Int) := by
    unfold FP.Core.zval
    rw [v4, v3]
    rfl
  have hr := FP.Core.zval_round_ge FP.Core.good_b32 (s := sg) (c := v) (q := e) (e0 := FP.Core.b32.qmin) (V := V) v1 v2 (Int.le_refl _) p2 (by
    rw [p3, vz]
    simp only [Int.sub_self, Int.toNat_zero, Nat.pow_zero]
    omega)
  rw [← hv, vz] at hr
  have hz := FP.Core.zmag_toNat32 fr.ne_nan
  have h3 : (128 * 2 ^ 135 : Nat) ≤ FP.Core.zmag FP.Core.b32 (FP.Core.val32 (FP.fsub a b)) := by
    unfold FP.Core.zval FP.Core.signed at hr
    split at hr <;> omega
  rw [hz, show (128 * 2 ^ 135 : Nat) = FP.Core.unitsOf FP.Core.b32 (120 * 2 ^ 23) by decide +kernel, FP.Core.unitsOf_le_iff] at h3
  exact h3
/-- between two points -/
abbrev ipF (vp vq : Nat → Int32) (d : UInt32) (i : Nat) : UInt32 := FP.fadd (t1000 (vq i)) (FP.fmul (FP.fsub (t1000 (vq (i + 1))) (t1000 (vq i))) (FP.fdiv (FP.fsub d (m100 (vp i))) (FP.fsub (m100 (vp (i + 1))) (m100 (vp i)))))
def lg (n : Nat) (vp vq : Nat → Int32) (d : UInt32) : Nat → UInt32
  | 0 => t1000 (vq (n - 1))
  | k + 1 => if fk d < fk (m100 (vp (n - (k + 1)))) then ipF vp vq d (n - (k + 1) - 1) else lg n vp vq d k
/-- the limit at d -/
def lim (n : Nat) (vp vq : Nat → Int32) (d : UInt32) : UInt32 := if n = 0 then (1056964608 : UInt32) else if fk d ≤ fk (m100 (vp 0)) then t1000 (vq 0) else lg n vp vq d (n - 1)
/-- the points of a profile -/
def pOk (vn vp vq : Nat → Int32) (n : Nat) : Prop := n ≤ 6 ∧ vn 10 = nI n ∧ (∀ i, i < n → 0 ≤ (vp i).toInt ∧ (vp i).toInt ≤ 100000 ∧ 1 ≤ (vq i).toInt ∧ (vq i).toInt ≤ 5000) ∧ ∀ i, i + 1 < n → (vp i).toInt < (vp (i + 1)).toInt
theorem ip_parts {vp vq : Nat → Int32} {d : UInt32} {i : Nat} (hd : mg 182 d) (h0 : 0 ≤ (vp i).toInt) (h1 : (vp i).toInt < (vp (i + 1)).toInt) (h2 : (vp (i + 1)).toInt ≤ 100000) :
    mg 154 (FP.fsub (t1000 (vq (i + 1))) (t1000 (vq i))) ∧ mg 184 (FP.fsub d (m100 (vp i))) ∧ mg 157 (FP.fsub (m100 (vp (i + 1))) (m100 (vp i))) ∧ mg 192 (FP.fdiv (FP.fsub d (m100 (vp i))) (FP.fsub (m100 (vp (i + 1))) (m100 (vp i)))) ∧ mg 220 (FP.fmul (FP.fsub (t1000 (vq (i + 1))) (t1000 (vq i))) (FP.fdiv (FP.fsub d (m100 (vp i))) (FP.fsub (m100 (vp (i + 1))) (m100 (vp i))))) ∧ mg 222 (ipF vp vq d i) := by
  have a1 := mg_sub (mg_t (vq (i + 1))) (mg_t (vq i)) (by decide)
  have a2 := mg_sub hd ((mg_m (vp i)).mono (by decide)) (by decide)
  have a3 := mg_sub (mg_m (vp (i + 1))) (mg_m (vp i)) (by decide)
  have a4 := (mg_div a2 (m_sub h0 h1 h2) (Nat.lt_of_lt_of_le a3 (by decide)) (by decide) (by decide)).mono (show _ ≤ 192 by decide)
  have a5 := (mg_mul a1 a4 (by decide) (by decide)).mono (show _ ≤ 220 by decide)
  exact ⟨a1, a2, a3, a4, a5, mg_add ((mg_t (vq i)).mono (by decide)) a5 (by decide)⟩
theorem lg_mg {n : Nat} {vn vp vq : Nat → Int32} (hp : pOk vn vp vq n) {d : UInt32} (hd : mg 182 d) (hn : 1 ≤ n) : ∀ k, k < n → mg 222 (lg n vp vq d k) ∧ nz (lg n vp vq d k) := by
  intro k
  obtain ⟨h6, -, hr, hs⟩ := hp
  induction k with
  | zero =>
    intro _
    have := hr (n - 1) (by omega)
    exact ⟨(mg_t _).mono (by decide), nz_t (by omega)⟩
  | succ k ih =>
    intro hk
    unfold lg
    split
    · obtain ⟨j, hj⟩ : ∃ j, n - (k + 1) = j + 1 := ⟨n - (k + 1) - 1, by omega⟩
      rw [hj, Nat.add_sub_cancel]
      have q := ip_parts (vq := vq) hd (hr j (by omega)).1 (hs j (by omega)) (hr (j + 1) (by omega)).2.1
      have := hr j (by omega)
      exact ⟨q.2.2.2.2.2, nz_fadd ((mg_t _).ffin (by decide)) (q.2.2.2.2.1.ffin (by decide)) (.inl (nz_t (by omega)))⟩
    · exact ih (by omega)
theorem lim_mg {n : Nat} {vn vp vq : Nat → Int32} (hp : pOk vn vp vq n) {d : UInt32} (hd : mg 182 d) : mg 222 (lim n vp vq d) ∧ nz (lim n vp vq d) := by
  unfold lim
  split
  · exact ⟨by unfold mg; decide, by unfold nz; decide⟩
  · split
    · have := hp.2.2.1 0 (by omega)
      exact ⟨(mg_t _).mono (by decide), nz_t (by omega)⟩
    · exact lg_mg hp hd (by omega) _ (by omega)
/-- beyond the last point -/
theorem lg_last {n : Nat} {vn vp vq : Nat → Int32} (hp : pOk vn vp vq n) {d : UInt32} (h : ¬ fk d < fk (m100 (vp (n - 1)))) : ∀ k, k < n → lg n vp vq d k = t1000 (vq (n - 1)) := by
  obtain ⟨h6, -, hr, hs⟩ := hp
  have hm : ∀ j, j < n → (vp (n - 1 - j)).toInt ≤ (vp (n - 1)).toInt := by
    intro j
    induction j with
    | zero => intro _; exact Int.le_refl _
    | succ j ih =>
      intro hj
      have q := hs (n - 1 - (j + 1)) (by omega)
      rw [show n - 1 - (j + 1) + 1 = n - 1 - j by omega] at q
      have := ih (by omega)
      omega
  intro k
  induction k with
  | zero => intro _; rfl
  | succ k ih =>
    intro hk
    unfold lg
    rw [if_neg, ih (by omega)]
    have q := hm k (by omega)
    rw [show n - 1 - k = n - (k + 1) by omega] at q
    have q1 := hr (n - (k + 1)) (by omega)
    have q2 := hr (n - 1) (by omega)
    rcases Int.lt_or_eq_of_le q with e | e
    · have := m_lt q1.1 e q2.2.1
      omega
    · rw [Int32.toInt_inj.mp e]
      exact h
theorem s2_limitAt {n : Nat} {vn vp vq : Nat → Int32} (hp : pOk vn vp vq n) {d : UInt32} (hd : mg 182 d) {K : UInt32 → Unit → Prop} (hK : K (lim n vp vq d) ()) : vX2_limitAt vn vp vq d K := by
  have hp' := hp
  obtain ⟨h6, hn, hr, hs⟩ := hp'
  have nd := hd.nn (by decide)
  have nm : ∀ i, FP.Core.val32 (m100 (vp i)) ≠ .nan := fun i => (mg_m _).nn (by decide)
  unfold vX2_limitAt
  rw [hn]
  unfold lim at hK
  refine ⟨fun h => ?_, fun h => ?_⟩
  · have h0 : n ≠ 0 := fun e => h (by rw [e]; rfl)
    rw [if_neg h0] at hK
    refine ⟨(mg_m _).n32 (by decide), fun h1 => ?_, fun h1 => ?_⟩
    · rw [cg_lt nd (nm 0)] at h1
      rw [if_neg (by omega)] at hK
      refine lp_ex (fun z => ∃ i, 1 ≤ i ∧ i ≤ n ∧ z = nI i ∧ K (lg n vp vq d (n - i)) ()) (fun z => 7 - z.toNatClampNeg) _ ⟨1, by omega, by omega, rfl, hK⟩ ?_
      rintro B z ⟨i, hi1, hin, rfl, hKi⟩ hB
      unfold vX2_limitAt_38F vX2_limitAt_38b
      rw [hn]
      refine ⟨fun h2 => ?_, fun h2 => ?_⟩
      · rw [nI_leI (by omega) (by omega)] at h2
        have e : n - i = 0 := by omega
        rw [e] at hKi
        rw [nI_m1 (by omega), nI_cl (by omega)]
        exact ⟨nI_in2 (by omega) (by omega), (mg_t _).n32 (by decide), hKi⟩
      · rw [nI_leI (by omega) (by omega)] at h2
        obtain ⟨j, rfl⟩ : ∃ j, i = j + 1 := ⟨i - 1, by omega⟩
        rw [nI_m1 (by omega), nI_cl (by omega), nI_cl (by omega), Nat.add_sub_cancel]
        obtain ⟨k, hk⟩ : ∃ k, n - (j + 1) = k + 1 := ⟨n - (j + 1) - 1, by omega⟩
        have hj : n - (k + 1) = j + 1 := by omega
        rw [hk] at hKi
        unfold lg at hKi
        rw [hj, Nat.add_sub_cancel] at hKi
        have step : ¬ fk d < fk (m100 (vp (j + 1))) → vX2_limitAt_129 vn vp vq d (nI (j + 1)) K (fun z0 => B z0) := by
          intro h3
          rw [if_neg h3] at hKi
          unfold vX2_limitAt_129
          rw [nI_1]
          refine hB _ ⟨j + 2, by omega, by omega, rfl, ?_⟩ ?_
          · rw [show n - (j + 2) = k by omega]
            exact hKi
          · rw [nI_cl (by omega), nI_cl (by omega)]
            omega
        have hjm := m_lt (hr j (by omega)).1 (hs j (by omega)) (hr (j + 1) (by omega)).2.1
        refine ⟨nI_in2 (by omega) (by omega), (mg_m _).n32 (by decide), nI_in2 (by omega) (by omega), (mg_m _).n32 (by decide), fun h3 => ?_, fun h3 => ⟨fun h4 => ?_, fun h4 => ?_⟩⟩
        · rw [cg_le nd (nm _)] at h3
          exact step (by omega)
        · rw [cg_le (nm _) (nm _)] at h4
          omega
        · rw [cg_le nd (nm _)] at h3
          rw [if_pos (by omega)] at hKi
          have q := ip_parts (vq := vq) hd (hr j (by omega)).1 (hs j (by omega)) (hr (j + 1) (by omega)).2.1
          exact ⟨nI_in2 (by omega) (by omega), (mg_t _).n32 (by decide), nI_in2 (by omega) (by omega), (mg_t _).n32 (by decide), q.1.n32 (by decide), q.2.1.n32 (by decide), q.2.2.1.n32 (by decide), q.2.2.2.1.n32 (by decide), q.2.2.2.2.1.n32 (by decide), q.2.2.2.2.2.n32 (by decide), hKi⟩
    · rw [cg_lt nd (nm 0)] at h1
      rw [if_pos (by omega)] at hK
      exact ⟨(mg_t _).n32 (by decide), hK⟩
  · have h0 : n = 0 := (nI_eq (by omega) (by omega)).mp h
    rw [if_pos h0] at hK
    exact hK
