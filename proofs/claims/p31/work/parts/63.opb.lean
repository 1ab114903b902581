/-! more calls that look -/
theorem c_13 : (13 : Int32).toInt = 13 := by decide
theorem c_20 : (20 : Int32).toInt = 20 := by decide
theorem c_8 : (8 : Int32).toInt = 8 := by decide
theorem c_5 : (5 : Int32).toInt = 5 := by decide
/-! the least square of a drift -/
theorem nz_sq {x y : UInt32} (hx : mg 179 x) (hy : mg 179 y) : nz (sqF x y) := by
  have q := sq_mg hx hy
  have fx := hx.ffin (by decide)
  refine nz_fadd (q.1.ffin (by decide)) (q.2.1.ffin (by decide)) (.inl (nz_pos (pos_of (q.1.nn (by decide)) ?_)))
  obtain ⟨s, c, r, v⟩ := fx
  rw [show FP.Core.val32 (FP.fmul x x) = FP.Core.round FP.Core.b32 (FP.Core.exactProduct (FP.Core.val32 x) (FP.Core.val32 x)) from FP.Core.val32_fmul x x, v]
  show FP.Core.sgn (FP.Core.roundRatio FP.Core.b32 (s != s) (c * c) 1 (r + r)) = false
  rw [FP.Core.sgn_roundRatio]
  cases s <;> rfl
def lsS (vx vy : UInt32) : Nat → UInt32 → UInt32 → UInt32 → UInt32
  | 0, _, _, l => l
  | k + 1, x, y, l => lsS vx vy k (FP.fadd x vx) (FP.fadd y vy) (if fk (sqF (FP.fadd x vx) (FP.fadd y vy)) < fk l then sqF (FP.fadd x vx) (FP.fadd y vy) else l)
theorem ls_s (vx vy : UInt32) (k : Nat) (x y l : UInt32) : lsS vx vy (k + 1) x y l = lsS vx vy k (FP.fadd x vx) (FP.fadd y vy) (if fk (sqF (FP.fadd x vx) (FP.fadd y vy)) < fk l then sqF (FP.fadd x vx) (FP.fadd y vy) else l) := rfl
theorem ls_mg {vx vy : UInt32} (hx : ml 152 vx) (hy : ml 152 vy) : ∀ (k : Nat) (x y l : UInt32), ml 178 x → ml 178 y → mg 234 l → nz l → mg 234 (lsS vx vy k x y l) ∧ nz (lsS vx vy k x y l) := by
  intro k
  induction k with
  | zero => intro x y l _ _ h1 h2; exact ⟨h1, h2⟩
  | succ k ih =>
    intro x y l h1 h2 h3 h4
    rw [ls_s]
    have mx := ml_sat (by decide) (by decide) h1 (show ml (178 - 26) vx from hx)
    have my := ml_sat (by decide) (by decide) h2 (show ml (178 - 26) vy from hy)
    refine ih _ _ _ mx my ?_ ?_
    · split
      · exact (sq_mg mx.mg my.mg).2.2
      · exact h3
    · split
      · exact nz_sq mx.mg my.mg
      · exact h4
/-! the safe speed -/
theorem t_five {n : Int32} (h0 : 0 ≤ n.toInt) (h : n.toInt ≤ 5000) : ml 130 (t1000 n) := by
  have hn := (mg_t n).nn (by decide)
  have hh := div_le (V := FP.Core.val32 (1084227584 : UInt32)) ((mg_i2f n).ffin (by decide)) f_1000 (by decide) (FP.Core.val32_fits _) (by decide +kernel) (by
    rw [i2f_units (by omega), u_1000, show FP.Core.zmag FP.Core.b32 (FP.Core.val32 (1084227584 : UInt32)) = 5 * 2 ^ 149 by decide +kernel]
    have : n.toInt.natAbs ≤ 5000 := by omega
    have e : 5 * 2 ^ 149 * (1000 * 2 ^ 149) = 5000 * 2 ^ 149 * 2 ^ 149 := by decide +kernel
    rw [e]
    exact Nat.mul_le_mul_right _ (Nat.mul_le_mul_right _ this))
  rw [FP.Core.zmag_toNat32 hn, FP.Core.zmag_toNat32 (by decide +kernel), FP.Core.unitsOf_le_iff] at hh
  unfold ml
  exact Nat.le_trans hh (by decide)
abbrev nsp (k : Nat) : UInt32 := FP.fsub FP.fconst0 (t1000 (nI k))
theorem nsp_ml {k : Nat} (h : k ≤ 5000) : ml 152 (nsp k) := by
  have := t_five (n := nI k) (by rw [i_nI (by omega)]; omega) (by rw [i_nI (by omega)]; omega)
  exact ((mg_sub (mg_0 (K := 131) (by decide)) this.mg (by decide)).mono (by decide)).ml
def spB (n : Nat) (vs vp vq : Nat → Int32) (vf : Nat → UInt32) (k : Nat) : Bool := !(fastB n vp vq (vf 0) (nsp k)) && !(driftB vs vf (nsp k))
def spS (P : Nat → Bool) : Nat → Int32
  | 0 => -5
  | k + 1 => if P k = true then nI k else spS P k
theorem sp_s (P : Nat → Bool) (k : Nat) : spS P (k + 1) = if P k = true then nI k else spS P k := rfl
theorem b2_0 {b : Bool} : b2 b 1 = 0 ↔ b = false := by
  cases b
  · exact ⟨fun _ => rfl, fun _ => rfl⟩
  · exact ⟨fun q => absurd q (by decide), fun q => absurd q (by decide)⟩
theorem nI_m1_neg {k : Nat} (h : k < 100000) : (nI k - 1 < (0 : Int32)) ↔ k = 0 := by
  rcases Nat.eq_zero_or_pos k with q | q
  · subst q
    exact ⟨fun _ => rfl, fun _ => by decide⟩
  · rw [nI_m1 q, i_lt, i_nI (by omega), c_0]
    omega
theorem sp_cg {n : Nat} {vs vp vq : Nat → Int32} {vf mf : Nat → UInt32} (hk : ∀ k, k < 4 → mf k = vf k) : spB n vs vp vq mf = spB n vs vp vq vf := by
  funext k
  unfold spB driftB
  rw [hk 0 (by decide), hk 1 (by decide), hk 3 (by decide)]
