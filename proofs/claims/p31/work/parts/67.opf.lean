/-! what could be -/
theorem s6_modeLoop {n m t : Nat} {vn : Nat → Int32} {vf : Nat → UInt32} {vs vp vq vd vo un us up uq ud uo : Nat → Int32} {uf : Nat → UInt32} (h : sI n m un uf us up uq ud uo) (ht : t ≤ 1000) {K : Int32 → ((Nat → Int32) × (Nat → UInt32) × (Nat → Int32) × (Nat → Int32) × (Nat → Int32) × (Nat → Int32) × (Nat → Int32)) → Prop} (hK : ∀ wn wf, K ((itS n m us up uq ud uo t (un, uf)).1 0) (wn, wf, us, up, uq, ud, uo)) : ∃ k, lp (vX6_modeIn_27F vn vf vs vp vq vd vo us up uq ud uo (nI t) K) k (un, uf, (0 : Int32)) := by
  refine lp_ex (fun z : (Nat → Int32) × (Nat → UInt32) × Int32 => ∃ i : Nat, i ≤ t ∧ z.2.2 = nI i ∧ sI n m z.1 z.2.1 us up uq ud uo ∧ itS n m us up uq ud uo (t - i) (z.1, z.2.1) = itS n m us up uq ud uo t (un, uf)) (fun z => t - z.2.2.toNatClampNeg) _ ⟨0, by omega, rfl, h, rfl⟩ ?_
  rintro B ⟨wn, wf, z⟩ ⟨i, hi, hz, hI, he⟩ hB
  dsimp only at hz hI he hB
  subst hz
  unfold vX6_modeIn_27F vX6_modeIn_27b
  dsimp only
  rw [nI_leI (by omega) (by omega)]
  refine ⟨fun h => ?_, fun h => s4_second hI (hB _ ⟨i + 1, by omega, nI_1 i, sec_ok hI, ?_⟩ ?_)⟩
  · rw [show t - i = 0 by omega] at he
    rw [← he] at hK
    exact hK _ _
  · obtain ⟨k, hk⟩ : ∃ k, t - i = k + 1 := ⟨t - i - 1, by omega⟩
    rw [hk, it_s] at he
    rw [show t - (i + 1) = k by omega]
    exact he
  · dsimp only
    rw [nI_1, nI_cl (by omega), nI_cl (by omega)]
    omega
def toS (n m : Nat) (vs vp vq vd vo : Nat → Int32) (t : Int32) : Nat → Nat → (Nat → Int32) × (Nat → UInt32) → Int32
  | 0, i, z => if z.1 0 = t then nI i else -5
  | k + 1, i, z => if z.1 0 = t then nI i else toS n m vs vp vq vd vo t k (i + 1) (secS n m vs vp vq vd vo z.1 z.2)
theorem to_s (n m : Nat) (vs vp vq vd vo : Nat → Int32) (t : Int32) (k i : Nat) (z : (Nat → Int32) × (Nat → UInt32)) : toS n m vs vp vq vd vo t (k + 1) i z = if z.1 0 = t then nI i else toS n m vs vp vq vd vo t k (i + 1) (secS n m vs vp vq vd vo z.1 z.2) := rfl
theorem to_0 (n m : Nat) (vs vp vq vd vo : Nat → Int32) (t : Int32) (i : Nat) (z : (Nat → Int32) × (Nat → UInt32)) : toS n m vs vp vq vd vo t 0 i z = if z.1 0 = t then nI i else -5 := rfl
theorem s6_toLoop {n m : Nat} {t : Int32} {vn : Nat → Int32} {vf : Nat → UInt32} {vs vp vq vd vo un us up uq ud uo : Nat → Int32} {uf : Nat → UInt32} (h : sI n m un uf us up uq ud uo) {K : Int32 → ((Nat → Int32) × (Nat → UInt32) × (Nat → Int32) × (Nat → Int32) × (Nat → Int32) × (Nat → Int32) × (Nat → Int32)) → Prop} (hK : ∀ wn wf, K (toS n m us up uq ud uo t 500 0 (un, uf)) (wn, wf, us, up, uq, ud, uo)) : ∃ k, lp (vX6_secondsTo_25F vn vf vs vp vq vd vo us up uq ud uo t K) k (un, uf, (0 : Int32)) := by
  refine lp_ex (fun z : (Nat → Int32) × (Nat → UInt32) × Int32 => ∃ i : Nat, i ≤ 500 ∧ z.2.2 = nI i ∧ sI n m z.1 z.2.1 us up uq ud uo ∧ toS n m us up uq ud uo t (500 - i) i (z.1, z.2.1) = toS n m us up uq ud uo t 500 0 (un, uf)) (fun z => 500 - z.2.2.toNatClampNeg) _ ⟨0, by omega, rfl, h, rfl⟩ ?_
  rintro B ⟨wn, wf, z⟩ ⟨i, hi, hz, hI, he⟩ hB
  dsimp only at hz hI he hB
  subst hz
  unfold vX6_secondsTo_25F vX6_secondsTo_25b
  dsimp only
  rw [show (500 : Int32) = nI 500 by rfl, nI_leI (by omega) (by omega)]
  refine ⟨fun h => ⟨fun h2 => ?_, fun h2 => ?_⟩, fun h => ⟨fun h2 => s4_second hI (hB _ ⟨i + 1, by omega, nI_1 i, sec_ok hI, ?_⟩ ?_), fun h2 => ?_⟩⟩
  · rw [show 500 - i = 0 by omega, to_0, if_neg h2] at he
    rw [← he] at hK
    exact hK _ _
  · rw [show 500 - i = 0 by omega, to_0, if_pos h2] at he
    rw [← he, show i = 500 by omega] at hK
    exact hK _ _
  · obtain ⟨k, hk⟩ : ∃ k, 500 - i = k + 1 := ⟨500 - i - 1, by omega⟩
    rw [hk, to_s, if_neg h2] at he
    rw [show 500 - (i + 1) = k by omega]
    exact he
  · dsimp only
    rw [nI_1, nI_cl (by omega), nI_cl (by omega)]
    omega
  · obtain ⟨k, hk⟩ : ∃ k, 500 - i = k + 1 := ⟨500 - i - 1, by omega⟩
    rw [hk, to_s, if_pos h2] at he
    rw [← he] at hK
    exact hK _ _
