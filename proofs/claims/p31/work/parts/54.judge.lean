/-! the relation of the numbers, and what both sides reckon from them -/
def tOk (vs : Nat → Int32) : Prop := (∀ j, j < 8 → 0 ≤ (vs j).toInt ∧ (vs j).toInt ≤ 10000) ∧ (vs 4).toInt ≤ 500 ∧ (vs 5).toInt ≤ 500
def fOk (vf : Nat → UInt32) : Prop := (ml 178 (vf 0) ∧ ml 178 (vf 1) ∧ ml 152 (vf 2) ∧ ml 152 (vf 3) ∧ ml 178 (vf 4)) ∧ nz (vf 0) ∧ nz (vf 1) ∧ nz (vf 2) ∧ nz (vf 3)
theorem cl_gt {a b : UInt32} (ha : FP.Core.val32 a ≠ .nan) (hb : FP.Core.val32 b ≠ .nan) : (0 : Int32) < fcl a b ↔ fk b < fk a := by
  show (0 : Int32) < Op.cmpValue (FP.fcmp a b) .l ↔ _
  have e : FP.fcmp a b = some (compare (fk a) (fk b)) := FP.Core.fcmp_key ha hb
  rw [e]
  rcases Int.lt_trichotomy (fk a) (fk b) with h | h | h
  · rw [(FP.Core.compare_lt_iff _ _).mpr h]
    exact ⟨fun q => absurd q (by decide), fun q => by omega⟩
  · rw [(FP.Core.compare_eq_iff _ _).mpr h]
    exact ⟨fun q => absurd q (by decide), fun q => by omega⟩
  · rw [(FP.Core.compare_gt_iff _ _).mpr h]
    exact ⟨fun q => by omega, fun q => by decide⟩
def sz (a : UInt32) : UInt32 := if fk a < 0 then FP.fneg a else a
theorem mg_sz {K : Nat} {a : UInt32} (h : mg K a) : mg K (sz a) := by
  unfold sz
  split
  · exact mg_neg h
  · exact h
theorem mg_0 {K : Nat} (h : 1 ≤ K) : mg K FP.fconst0 := by
  have : mg 1 FP.fconst0 := by unfold mg; decide
  exact this.mono h
theorem nn_0 : FP.Core.val32 FP.fconst0 ≠ .nan := (mg_0 (K := 1) (by decide)).nn (by decide)
theorem s6_size {K : Nat} {a : UInt32} (h : mg K a) (hl : K ≤ 255) {Q : UInt32 → Unit → Prop} (hQ : Q (sz a) ()) : vX6_size a Q := by
  unfold vX6_size
  rw [cg_le (h.nn hl) nn_0, fk_0]
  unfold sz at hQ
  refine ⟨fun q => ?_, fun q => ?_⟩
  · rw [if_neg (by omega)] at hQ
    exact hQ
  · rw [if_pos (by omega)] at hQ
    exact hQ
abbrev rsF (vs : Nat → Int32) (x : UInt32) : UInt32 := FP.fadd (FP.fmul x (t1000 (vs 0))) (m100 (vs 1))
def offB (vs : Nat → Int32) (x y : UInt32) : Bool := decide (fk (rsF vs x) < fk (sz y))
theorem off_mg {vs : Nat → Int32} {x : UInt32} (hx : mg 180 x) : mg 206 (FP.fmul x (t1000 (vs 0))) ∧ mg 208 (rsF vs x) := by
  have a := (mg_mul hx (mg_t (vs 0)) (by decide) (by decide)).mono (show _ ≤ 206 by decide)
  exact ⟨a, mg_add a ((mg_m (vs 1)).mono (by decide)) (by decide)⟩
def b2 (b : Bool) (n : Int32) : Int32 := if b = true then n else 0
/-! too fast -/
abbrev fa1 (n : Nat) (vp vq : Nat → Int32) (x : UInt32) : UInt32 := FP.fadd (lim n vp vq x) (1008981770 : UInt32)
def fastB (n : Nat) (vp vq : Nat → Int32) (x v : UInt32) : Bool := decide (fk (fa1 n vp vq x) < fk (FP.fsub FP.fconst0 v))
theorem mg_c01 {K : Nat} (h : 121 ≤ K) : mg K (1008981770 : UInt32) := by
  have : mg 121 (1008981770 : UInt32) := by unfold mg; decide
  exact this.mono h
theorem s4_isTooFast {n : Nat} {vn vp vq : Nat → Int32} (hp : pOk vn vp vq n) {vf : Nat → UInt32} {v : UInt32} (hx : mg 182 (vf 0)) (hv : mg 180 v) {K : Int32 → Unit → Prop} (hK : K (b2 (fastB n vp vq (vf 0) v) 1) ()) : vX4_isTooFast vn vf vp vq v K := by
  have q1 := mg_sub (mg_0 (K := 180) (by decide)) hv (by decide)
  have q2 := mg_add (lim_mg hp hx).1 (mg_c01 (by decide)) (by decide)
  unfold vX4_isTooFast
  refine ⟨q1.n32 (by decide), s2_limitAt hp hx ⟨q2.n32 (by decide), ?_⟩⟩
  rw [cl_le (q1.nn (by decide)) (q2.nn (by decide))]
  unfold b2 fastB fa1 at hK
  refine ⟨fun h => ?_, fun h => ?_⟩
  · rw [if_neg (by simp; omega)] at hK
    exact hK
  · rw [if_pos (decide_eq_true (Int.not_le.mp h))] at hK
    exact hK
/-! the model's limit -/
theorem nI_mul (a b : Nat) : nI a * nI b = nI (a * b) := (Int32.ofNat_mul a b).symm
theorem ix_2 (a j : Nat) : nI a + (2 : Int32) * nI j = nI (a + 2 * j) := by
  rw [show (2 : Int32) = nI 2 by rfl, nI_mul, nI_add]
/-! the drift -/
abbrev sqF (x y : UInt32) : UInt32 := FP.fadd (FP.fmul x x) (FP.fmul y y)
abbrev znF (vs : Nat → Int32) : UInt32 := FP.fmul (m100 (vs 2)) (m100 (vs 2))
def dr (vs : Nat → Int32) (vy v : UInt32) : Nat → UInt32 → UInt32 → Bool
  | 0, _, _ => false
  | k + 1, x, y => if fk (sqF (FP.fadd x v) (FP.fadd y vy)) < fk (znF vs) ∧ (offB vs (FP.fadd x v) (FP.fadd y vy) = true ∨ fk (FP.fadd x v) < 0) then true else dr vs vy v k (FP.fadd x v) (FP.fadd y vy)
theorem sq_mg {x y : UInt32} (hx : mg 179 x) (hy : mg 179 y) : mg 232 (FP.fmul x x) ∧ mg 232 (FP.fmul y y) ∧ mg 234 (sqF x y) := by
  have a := (mg_mul hx hx (by decide) (by decide)).mono (show _ ≤ 232 by decide)
  have b := (mg_mul hy hy (by decide) (by decide)).mono (show _ ≤ 232 by decide)
  exact ⟨a, b, mg_add a b (by decide)⟩
theorem zn_mg (vs : Nat → Int32) : mg 184 (znF vs) := (mg_mul (mg_m (vs 2)) (mg_m (vs 2)) (by decide) (by decide)).mono (by decide)
def driftB (vs : Nat → Int32) (vf : Nat → UInt32) (v : UInt32) : Bool := dr vs (vf 3) v (vs 6).toInt.toNat (vf 0) (vf 1)
theorem s4_drift {vs : Nat → Int32} (ht : tOk vs) {vf : Nat → UInt32} (hf : fOk vf) {v : UInt32} (hv : ml 152 v) {K : Int32 → Unit → Prop} (hK : K (b2 (driftB vs vf v) 1) ()) : vX4_hasUnsafeDrift vf vs v K := by
  obtain ⟨h61, h62⟩ := ht.1 6 (by decide)
  unfold vX4_hasUnsafeDrift
  refine ⟨(mg_t _).n32 (by decide), (mg_m _).n32 (by decide), (mg_m _).n32 (by decide), (zn_mg vs).n32 (by decide), ?_⟩
  refine lp_ex (fun z : UInt32 × UInt32 × Int32 => ∃ i : Nat, i ≤ (vs 6).toInt.toNat ∧ z.2.2 = nI i ∧ ml 178 z.1 ∧ ml 178 z.2.1 ∧ K (b2 (dr vs (vf 3) v ((vs 6).toInt.toNat - i) z.1 z.2.1) 1) ()) (fun z => 10001 - z.2.2.toNatClampNeg) _ ⟨0, by omega, rfl, hf.1.1, hf.1.2.1, hK⟩ ?_
  rintro B ⟨x, y, z⟩ ⟨i, hi, hz, hx, hy, hKi⟩ hB
  dsimp only at hz hx hy hKi hB
  subst hz
  unfold vX4_hasUnsafeDrift_56F vX4_hasUnsafeDrift_56b
  dsimp only
  have e6 : vs 6 = nI (vs 6).toInt.toNat := i_of h61
  refine ⟨fun h => ?_, fun h => ?_⟩
  · rw [i_le, i_nI (by omega)] at h
    rw [show (vs 6).toInt.toNat - i = 0 by omega] at hKi
    exact hKi
  · rw [i_le, i_nI (by omega)] at h
    obtain ⟨k, hk⟩ : ∃ k, (vs 6).toInt.toNat - i = k + 1 := ⟨(vs 6).toInt.toNat - i - 1, by omega⟩
    rw [hk] at hKi
    unfold dr at hKi
    have mx := ml_sat (by decide) (by decide) hx (show ml (178 - 26) v from hv)
    have my := ml_sat (by decide) (by decide) hy (show ml (178 - 26) (vf 3) from hf.1.2.2.2.1)
    have qs := sq_mg mx.mg my.mg
    have qo := off_mg (vs := vs) (mx.mg.mono (show 178 + 1 ≤ 180 by decide))
    have nxt : K (b2 (dr vs (vf 3) v k (FP.fadd x v) (FP.fadd y (vf 3))) 1) () → vX4_hasUnsafeDrift_124 vf vs v (t1000 (vs 0)) (m100 (vs 1)) (znF vs) (FP.fadd x v) (FP.fadd y (vf 3)) (nI i) K (fun z0 z1 z2 => B (z0, z1, z2)) := by
      intro hq
      unfold vX4_hasUnsafeDrift_124
      refine hB _ ⟨i + 1, by omega, nI_1 i, mx, my, ?_⟩ ?_
      · rw [show (vs 6).toInt.toNat - (i + 1) = k by omega]
        exact hq
      · dsimp only
        rw [nI_1, nI_cl (by omega), nI_cl (by omega)]
        omega
    refine ⟨mx.mg.n32 (by decide), my.mg.n32 (by decide), qs.1.n32 (by decide), qs.2.1.n32 (by decide), qs.2.2.n32 (by decide), fun h1 => ?_, fun h1 => ?_⟩
    · rw [cg_le (qs.2.2.nn (by decide)) ((zn_mg vs).nn (by decide))] at h1
      rw [if_neg (by omega)] at hKi
      exact nxt hKi
    · rw [cg_le (qs.2.2.nn (by decide)) ((zn_mg vs).nn (by decide))] at h1
      refine s6_size my.mg (by decide) ⟨qo.1.n32 (by decide), qo.2.n32 (by decide), fun h2 => ?_, fun h2 => ⟨fun h3 => ?_, fun h3 => ?_⟩⟩
      · rw [cl_gt ((mg_sz my.mg).nn (by decide)) (qo.2.nn (by decide))] at h2
        rw [if_pos ⟨by omega, .inl (decide_eq_true h2)⟩] at hKi
        exact hKi
      · rw [cl_gt ((mg_sz my.mg).nn (by decide)) (qo.2.nn (by decide))] at h2
        rw [cg_le (mx.mg.nn (by decide)) nn_0, fk_0] at h3
        rw [if_neg (by
          rintro ⟨-, h4 | h4⟩
          · exact h2 (of_decide_eq_true h4)
          · omega)] at hKi
        exact nxt hKi
      · rw [cg_le (mx.mg.nn (by decide)) nn_0, fk_0] at h3
        rw [if_pos ⟨by omega, .inr (by omega)⟩] at hKi
        exact hKi
/-! the judgement -/
def jd (n : Nat) (vs vp vq : Nat → Int32) (vf : Nat → UInt32) : Int32 := b2 (offB vs (vf 0) (vf 1)) 1 + b2 (fastB n vp vq (vf 0) (vf 2)) 2 + b2 (driftB vs vf (vf 2)) 4
theorem s4_judge {n : Nat} {vn vs vp vq : Nat → Int32} (hp : pOk vn vp vq n) (ht : tOk vs) {vf : Nat → UInt32} (hf : fOk vf) {K : Int32 → Unit → Prop} (hK : K (jd n vs vp vq vf) ()) : vX4_judge vn vf vs vp vq K := by
  have hx := hf.1.1.mg
  have hy := hf.1.2.1.mg
  have q := off_mg (vs := vs) (hx.mono (show 178 + 1 ≤ 180 by decide))
  have hv := hf.1.2.2.1.mg
  unfold vX4_judge
  have h58 : ∀ z : Int32, K (z + b2 (driftB vs vf (vf 2)) 4) () → vX4_judge_58 vn vf vs vp vq z K := by
    intro z hz
    unfold vX4_judge_58
    refine s4_drift ht hf hf.1.2.2.1 ⟨fun h => ?_, fun h => ?_⟩
    · cases hd : driftB vs vf (vf 2)
      · rw [hd] at hz
        exact (Int32.add_zero z) ▸ hz
      · rw [hd] at h
        exact absurd h (by decide)
    · cases hd : driftB vs vf (vf 2)
      · rw [hd] at h
        exact absurd rfl h
      · rw [hd] at hz
        exact hz
  have h43 : ∀ z : Int32, K (z + b2 (fastB n vp vq (vf 0) (vf 2)) 2 + b2 (driftB vs vf (vf 2)) 4) () → vX4_judge_43 vn vf vs vp vq z K := by
    intro z hz
    unfold vX4_judge_43
    refine s4_isTooFast hp (hx.mono (by decide)) (hv.mono (by decide)) ⟨fun h => h58 _ ?_, fun h => h58 _ ?_⟩
    · cases hd : fastB n vp vq (vf 0) (vf 2)
      · rw [hd, show b2 false 2 = (0 : Int32) by rfl, Int32.add_zero] at hz
        exact hz
      · rw [hd] at h
        exact absurd h (by decide)
    · cases hd : fastB n vp vq (vf 0) (vf 2)
      · rw [hd] at h
        exact absurd rfl h
      · rw [hd] at hz
        exact hz
  refine s6_size hy (by decide) ⟨(mg_t _).n32 (by decide), q.1.n32 (by decide), (mg_m _).n32 (by decide), q.2.n32 (by decide), fun h => h43 _ ?_, fun h => h43 _ ?_⟩
  · rw [cl_le ((mg_sz hy).nn (by decide)) (q.2.nn (by decide))] at h
    unfold jd at hK
    rw [show offB vs (vf 0) (vf 1) = false from decide_eq_false (by omega)] at hK
    exact hK
  · rw [cl_le ((mg_sz hy).nn (by decide)) (q.2.nn (by decide))] at h
    unfold jd at hK
    rw [show offB vs (vf 0) (vf 1) = true from decide_eq_true (by omega)] at hK
    exact hK
