/-! the stops -/
def sOk (vn vd vo : Nat → Int32) (m : Nat) : Prop := m ≤ 4 ∧ vn 11 = nI m ∧ (∀ i, i < 4 → bz (vo i)) ∧ ∀ i, i < m → 1 ≤ (vd i).toInt ∧ (vd i).toInt ≤ 100000
def nx (vd vo : Nat → Int32) (x : UInt32) : Nat → Int32 × Int32
  | 0 => (-5, 0)
  | i + 1 => if vo i = 0 ∧ (nx vd vo x i).2 < vd i ∧ fk (m100 (vd i)) < fk x then (nI i, vd i) else nx vd vo x i
theorem nx_s (vd vo : Nat → Int32) (x : UInt32) (i : Nat) : nx vd vo x (i + 1) = if vo i = 0 ∧ (nx vd vo x i).2 < vd i ∧ fk (m100 (vd i)) < fk x then (nI i, vd i) else nx vd vo x i := rfl
theorem nx_facts (vd vo : Nat → Int32) (x : UInt32) : ∀ i, i ≤ 4 → (nx vd vo x i = (-5, 0)) ∨ ∃ j, j < i ∧ nx vd vo x i = (nI j, vd j) := by
  intro i
  induction i with
  | zero => intro _; exact .inl rfl
  | succ i ih =>
    intro hi
    unfold nx
    split
    · exact .inr ⟨i, by omega, rfl⟩
    · rcases ih (by omega) with h | ⟨j, hj, h⟩
      · exact .inl h
      · exact .inr ⟨j, by omega, h⟩
theorem i_m1 (a : Int32) : a + (-1 : Int32) = a - 1 := by
  rw [i_eq, Int32.toInt_add, Int32.toInt_sub]
  rfl
theorem nI_n5 {j : Nat} (h : j < 1000) : ¬ nI j = (-5 : Int32) := by
  rw [i_eq, i_nI (by omega)]
  have : (-5 : Int32).toInt = -5 := by decide
  omega
theorem s5_metres {vd : Nat → Int32} {j : Nat} (hj : j < 4) {K : UInt32 → Unit → Prop} (hK : K (m100 (vd j)) ()) : vX5_metres vd (nI j) K := by
  unfold vX5_metres
  rw [nI_cl (by omega)]
  exact ⟨nI_in2 hj (by omega), (mg_m _).n32 (by decide), hK⟩
theorem s5_nextBelow {m : Nat} {vn vd vo : Nat → Int32} (hs : sOk vn vd vo m) {x : UInt32} (hx : mg 180 x) {K : Int32 → Unit → Prop} (hK : K (nx vd vo x m).1 ()) : vX5_nextBelow vn vd vo x K := by
  obtain ⟨h4, hn, hb, hd⟩ := hs
  have nx0 := hx.nn (by decide)
  unfold vX5_nextBelow
  refine lp_ex (fun z : Int32 × Int32 × Int32 => ∃ i : Nat, i ≤ m ∧ z = ((nx vd vo x i).1, (nx vd vo x i).2, nI i)) (fun z => 5 - z.2.2.toNatClampNeg) _ ⟨0, by omega, rfl⟩ ?_
  rintro B z ⟨i, hi, rfl⟩ hB
  unfold vX5_nextBelow_8F vX5_nextBelow_8b
  dsimp only
  rw [hn]
  refine ⟨fun h => ?_, fun h => ?_⟩
  · rw [nI_leI (by omega) (by omega)] at h
    obtain rfl : i = m := by omega
    exact hK
  · rw [nI_leI (by omega) (by omega)] at h
    rw [nI_cl (by omega)]
    have hin := nI_in2 (j := i) (n := 4) (by omega) (by omega)
    have nxt : ∀ a b : Int32, nx vd vo x (i + 1) = (a, b) → vX5_nextBelow_60 vn vd vo x a b (nI i) K (fun z0 z1 z2 => B (z0, z1, z2)) := by
      intro a b hab
      unfold vX5_nextBelow_60
      refine hB _ ⟨i + 1, by omega, ?_⟩ ?_
      · rw [hab, nI_1]
      · dsimp only
        rw [nI_1, nI_cl (by omega), nI_cl (by omega)]
        omega
    refine ⟨hin, fun h1 => nxt _ _ ?_, fun h1 => ⟨hin, fun h2 => nxt _ _ ?_, fun h2 => s5_metres (by omega) ⟨fun h3 => nxt _ _ ?_, fun h3 => ⟨hin, nxt _ _ ?_⟩⟩⟩⟩
    · rw [nx_s, if_neg (fun q => h1 q.1)]
    · rw [nx_s, if_neg (fun q => absurd (Int32.not_le.mpr q.2.1) (not_not_intro h2))]
    · rw [cg_le ((mg_m _).nn (by decide)) nx0] at h3
      rw [nx_s, if_neg (fun q => by omega)]
    · rw [cg_le ((mg_m _).nn (by decide)) nx0] at h3
      rw [nx_s, if_pos ⟨h1, Int32.not_le.mp h2, by omega⟩]
theorem s5_has {m : Nat} {vn : Nat → Int32} (hn : vn 11 = nI m) (hm : m ≤ 4) {r : Int32} {K : Int32 → Unit → Prop} (h1 : ∀ j, j < m → r = nI j → K 1 ()) (h2 : (¬ ∃ j, j < m ∧ r = nI j) → K 0 ()) : vX5_has vn r K := by
  unfold vX5_has
  rw [hn]
  refine ⟨fun h => h2 ?_, fun h => ⟨fun h3 => h2 ?_, fun h3 => ?_⟩⟩
  · rintro ⟨j, hj, rfl⟩
    rw [i_lt, i_nI (by omega)] at h
    have : (0 : Int32).toInt = 0 := rfl
    omega
  · rintro ⟨j, hj, rfl⟩
    rw [nI_leI (by omega) (by omega)] at h3
    omega
  · obtain ⟨j, hj, rfl⟩ := nI_of h
    rw [nI_leI (by omega) (by omega)] at h3
    exact h1 j (by omega) rfl
/-! the model's -/
/-! how many are closed -/
def cc (vo : Nat → Int32) : Nat → Nat
  | 0 => 0
  | i + 1 => if vo i = 0 then cc vo i + 1 else cc vo i
theorem cc_s (vo : Nat → Int32) (i : Nat) : cc vo (i + 1) = if vo i = 0 then cc vo i + 1 else cc vo i := rfl
theorem cc_le (vo : Nat → Int32) : ∀ i, cc vo i ≤ i := by
  intro i
  induction i with
  | zero => exact Nat.le_refl _
  | succ i ih =>
    unfold cc
    split <;> omega
theorem s5_countClosed {m : Nat} {vn vd vo : Nat → Int32} (hs : sOk vn vd vo m) {K : Int32 → Unit → Prop} (hK : K (nI (cc vo m)) ()) : vX5_countClosed vn vo K := by
  obtain ⟨h4, hn, hb, hd⟩ := hs
  unfold vX5_countClosed
  refine lp_ex (fun z : Int32 × Int32 => ∃ i : Nat, i ≤ m ∧ z = (nI (cc vo i), nI i)) (fun z => 5 - z.2.toNatClampNeg) _ ⟨0, by omega, rfl⟩ ?_
  rintro B z ⟨i, hi, rfl⟩ hB
  unfold vX5_countClosed_4F vX5_countClosed_4b
  dsimp only
  rw [hn]
  refine ⟨fun h => ?_, fun h => ?_⟩
  · rw [nI_leI (by omega) (by omega)] at h
    obtain rfl : i = m := by omega
    exact hK
  · rw [nI_leI (by omega) (by omega)] at h
    rw [nI_cl (by omega)]
    refine ⟨nI_in2 (by omega) (by omega), fun h1 => ?_, fun h1 => ?_⟩
    · unfold vX5_countClosed_24
      refine hB _ ⟨i + 1, by omega, ?_⟩ ?_
      · rw [cc_s, if_neg h1, nI_1]
      · dsimp only
        rw [nI_1, nI_cl (by omega), nI_cl (by omega)]
        omega
    · unfold vX5_countClosed_24
      refine hB _ ⟨i + 1, by omega, ?_⟩ ?_
      · rw [cc_s, if_pos h1, nI_1, nI_1]
      · dsimp only
        rw [nI_1, nI_cl (by omega), nI_cl (by omega)]
        omega
/-! the first closed stop that is near -/
def ff (P : Nat → Bool) : Nat → Nat → Int32
  | 0, _ => -5
  | k + 1, i => if P i = true then nI i else ff P k (i + 1)
def nearB (vd vo : Nat → Int32) (x : UInt32) (i : Nat) : Bool := decide (vo i = 0 ∧ fk (sz (FP.fsub x (m100 (vd i)))) < fk (1045220557 : UInt32))
theorem ff_s (P : Nat → Bool) (k i : Nat) : ff P (k + 1) i = if P i = true then nI i else ff P k (i + 1) := rfl
theorem ff_facts (P : Nat → Bool) : ∀ k i, ff P k i = -5 ∨ ∃ j, i ≤ j ∧ j < i + k ∧ ff P k i = nI j := by
  intro k
  induction k with
  | zero => intro i; exact .inl rfl
  | succ k ih =>
    intro i
    unfold ff
    split
    · exact .inr ⟨i, by omega, by omega, rfl⟩
    · rcases ih (i + 1) with h | ⟨j, h1, h2, h3⟩
      · exact .inl h
      · exact .inr ⟨j, by omega, by omega, h3⟩
theorem nn_02 : FP.Core.val32 (1045220557 : UInt32) ≠ .nan := (show mg 125 (1045220557 : UInt32) by unfold mg; decide).nn (by decide)
theorem nn_005 : FP.Core.val32 (1028443341 : UInt32) ≠ .nan := (show mg 123 (1028443341 : UInt32) by unfold mg; decide).nn (by decide)
theorem s5_closedNear {m : Nat} {vn vd vo : Nat → Int32} (hs : sOk vn vd vo m) {x : UInt32} (hx : mg 180 x) {K : Int32 → Unit → Prop} (hK : K (ff (nearB vd vo x) m 0) ()) : vX5_closedNear vn vd vo x K := by
  obtain ⟨h4, hn, hb, hd⟩ := hs
  unfold vX5_closedNear
  refine lp_ex (fun z : Int32 => ∃ i : Nat, i ≤ m ∧ z = nI i ∧ K (ff (nearB vd vo x) (m - i) i) ()) (fun z => 5 - z.toNatClampNeg) _ ⟨0, by omega, rfl, hK⟩ ?_
  rintro B z ⟨i, hi, rfl, hKi⟩ hB
  unfold vX5_closedNear_2F vX5_closedNear_2b
  rw [hn]
  refine ⟨fun h => ?_, fun h => ?_⟩
  · rw [nI_leI (by omega) (by omega)] at h
    rw [show m - i = 0 by omega] at hKi
    exact hKi
  · rw [nI_leI (by omega) (by omega)] at h
    obtain ⟨k, hk⟩ : ∃ k, m - i = k + 1 := ⟨m - i - 1, by omega⟩
    rw [hk] at hKi
    unfold ff at hKi
    rw [nI_cl (by omega)]
    have hsub := mg_sub hx ((mg_m (vd i)).mono (show 155 ≤ 180 by decide)) (by decide)
    have nxt : nearB vd vo x i = false → vX5_closedNear_37 vn vd vo x (nI i) K (fun z0 => B z0) := by
      intro hq
      rw [if_neg (by rw [hq]; decide)] at hKi
      unfold vX5_closedNear_37
      rw [nI_1]
      refine hB _ ⟨i + 1, by omega, rfl, ?_⟩ ?_
      · rw [show m - (i + 1) = k by omega]
        exact hKi
      · rw [nI_cl (by omega), nI_cl (by omega)]
        omega
    refine ⟨nI_in2 (by omega) (by omega), fun h1 => nxt (decide_eq_false (fun q => h1 q.1)), fun h1 => s5_metres (by omega) ⟨hsub.n32 (by decide), s6_size hsub (by decide) ⟨fun h2 => nxt (decide_eq_false ?_), fun h2 => ?_⟩⟩⟩
    · rw [cg_le ((mg_sz hsub).nn (by decide)) nn_02] at h2
      rintro ⟨-, q⟩
      omega
    · rw [cg_le ((mg_sz hsub).nn (by decide)) nn_02] at h2
      rw [if_pos (show nearB vd vo x i = true from decide_eq_true ⟨h1, by omega⟩)] at hKi
      exact hKi
/-! changes, on both sides -/
def hv (vn : Nat → Int32) (r : Int32) : Nat → Int32 := if r = -5 then vn else upd (upd vn 0 2) 5 r
