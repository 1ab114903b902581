/-! a second: the end of it -/
def geB (vs : Nat → Int32) (vf : Nat → UInt32) : Bool := decide (fk (sz (vf 2)) ≤ fk (t1000 (vs 7)) ∧ fk (sz (vf 1)) ≤ fk (m100 (vs 1)))
def zfF (vf : Nat → UInt32) : Nat → UInt32 := vf_upd (vf_upd (vf_upd vf 0 FP.fconst0) 2 FP.fconst0) 3 FP.fconst0
def arN (vn vs : Nat → Int32) (vf : Nat → UInt32) : Nat → Int32 := upd (upd vn 0 (if geB vs vf = true then 4 else 5)) 5 (-5)
theorem s4_arrive {vn vs : Nat → Int32} {vf : Nat → UInt32} (hf : fOk vf) {K : ((Nat → Int32) × (Nat → UInt32)) → Prop} (hK : K (arN vn vs vf, zfF vf)) : vX4_arrive vn vf vs K := by
  have hx := hf.1.2.2.1.mg
  have hy := hf.1.2.1.mg
  unfold vX4_arrive
  have h48 : ∀ z : Int32, z = b2 (geB vs vf) 1 → vX4_arrive_48 vn vf vs z K := by
    intro z hz
    unfold vX4_arrive_48 vX4_arrive_59 vX4_enter
    unfold arN at hK
    refine ⟨fun h => ?_, fun h => ?_⟩
    · cases hg : geB vs vf
      · rw [hg] at hK
        exact hK
      · rw [hg] at hz
        subst hz
        exact absurd h (by decide)
    · cases hg : geB vs vf
      · rw [hg] at hz
        exact absurd hz h
      · rw [hg] at hK
        exact hK
  refine s6_size hx (by decide) ⟨(mg_t _).n32 (by decide), fun h => ?_, fun h => s6_size hy (by decide) ⟨(mg_m _).n32 (by decide), fun h2 => ?_, fun h2 => ?_⟩⟩
  · rw [cg_lt ((mg_sz hx).nn (by decide)) ((mg_t _).nn (by decide))] at h
    unfold vX4_arrive_47
    refine h48 _ ?_
    rw [show geB vs vf = false from decide_eq_false (fun q => by omega)]
    rfl
  · rw [cg_lt ((mg_sz hy).nn (by decide)) ((mg_m _).nn (by decide))] at h2
    unfold vX4_arrive_47
    refine h48 _ ?_
    rw [show geB vs vf = false from decide_eq_false (fun q => by omega)]
    rfl
  · rw [cg_lt ((mg_sz hx).nn (by decide)) ((mg_t _).nn (by decide))] at h
    rw [cg_lt ((mg_sz hy).nn (by decide)) ((mg_m _).nn (by decide))] at h2
    refine h48 _ ?_
    rw [show geB vs vf = true from decide_eq_true ⟨by omega, by omega⟩]
    rfl
/-! the sensors -/
abbrev sdF (vn : Nat → Int32) (x : UInt32) : UInt32 := FP.fsub (FP.fadd x (m100 (vn 6))) (FP.fadd x (m100 (vn 7)))
def agB (vn : Nat → Int32) (x : UInt32) : Bool := decide (vn 4 = 0 ∧ fk x ≤ fk (1106247680 : UInt32) ∧ fk (sz (sdF vn x)) < fk (1056964608 : UInt32))
def agN (vn : Nat → Int32) (x : UInt32) : Int32 := if agB vn x = true then vn 3 + 1 else 0
def cmN (vn : Nat → Int32) (x : UInt32) : Nat → Int32 := if agN vn x = 3 then upd (upd (upd (upd vn 3 (agN vn x)) 4 1) 3 0) 9 (vn 9 + 1) else if ¬ vn 4 = 0 ∧ ¬ fk x ≤ fk (1106247680 : UInt32) then upd (upd (upd vn 3 (agN vn x)) 4 0) 9 (vn 9 + 1) else upd vn 3 (agN vn x)
theorem nn_30 : FP.Core.val32 (1106247680 : UInt32) ≠ .nan := (show mg 132 (1106247680 : UInt32) by unfold mg; decide).nn (by decide)
theorem nn_05 : FP.Core.val32 (1056964608 : UInt32) ≠ .nan := (show mg 127 (1056964608 : UInt32) by unfold mg; decide).nn (by decide)
theorem nn_50 : FP.Core.val32 (1112014848 : UInt32) ≠ .nan := (show mg 133 (1112014848 : UInt32) by unfold mg; decide).nn (by decide)
theorem sd_mg {vn : Nat → Int32} {x : UInt32} (hx : ml 178 x) : mg 183 (sdF vn x) := mg_sub (ms_mg (vn := vn) hx _) (ms_mg (vn := vn) hx _) (by decide)
theorem s3_compare {vn : Nat → Int32} {x : UInt32} (hx : ml 178 x) {K : (Nat → Int32) → Prop} (hK : K (cmN vn x)) : vX3_compare vn x K := by
  have hn := hx.mg.nn (by decide)
  unfold vX3_compare
  rw [cg_lt hn nn_30]
  have h49 : ∀ w y : Int32, w = b2 (decide (fk x ≤ fk (1106247680 : UInt32))) 1 → y = b2 (agB vn x) 1 → vX3_compare_49 vn w y K := by
    intro w y hw hy
    have h65 : ∀ a : Int32, a = agN vn x → vX3_compare_65 vn w a K := by
      intro a ha
      subst ha
      unfold vX3_compare_65
      unfold cmN at hK
      refine ⟨fun h => ⟨fun h2 => ?_, fun h2 => ⟨fun h3 => ?_, fun h3 => ?_⟩⟩, fun h => ?_⟩
      · rw [if_neg h, if_neg (fun q => q.1 h2)] at hK
        exact hK
      · rw [if_neg h, if_neg (fun q => by
          rw [decide_eq_false q.2] at hw
          exact h3 hw)] at hK
        exact hK
      · rw [if_neg h, if_pos ⟨h2, fun q => by
          rw [decide_eq_true q] at hw
          subst hw
          exact absurd h3 (by decide)⟩] at hK
        exact hK
      · rw [if_pos h] at hK
        exact hK
    unfold vX3_compare_49
    refine ⟨fun h => h65 _ ?_, fun h => h65 _ ?_⟩
    · unfold agN
      cases hg : agB vn x
      · rfl
      · rw [hg] at hy
        subst hy
        exact absurd h (by decide)
    · unfold agN
      cases hg : agB vn x
      · rw [hg] at hy
        exact absurd hy h
      · rfl
  have h48 : ∀ w : Int32, w = b2 (decide (fk x ≤ fk (1106247680 : UInt32))) 1 → agB vn x = false → vX3_compare_48 vn w K := by
    intro w hw hg
    unfold vX3_compare_48
    refine h49 _ _ hw ?_
    rw [hg]
    rfl
  have h12 : ∀ w : Int32, w = b2 (decide (fk x ≤ fk (1106247680 : UInt32))) 1 → vX3_compare_12 vn x w K := by
    intro w hw
    unfold vX3_compare_12
    have hs := sd_mg (vn := vn) hx
    refine ⟨fun h => h48 _ hw (decide_eq_false (fun q => h q.1)), fun h => ⟨fun h2 => h48 _ hw (decide_eq_false (fun q => by
      rw [decide_eq_true q.2.1] at hw
      subst hw
      exact absurd h2 (by decide))), fun h2 => s3_far hx (s3_near hx ⟨hs.n32 (by decide), s6_size hs (by decide) ⟨fun h3 => h48 _ hw ?_, fun h3 => h49 _ _ hw ?_⟩⟩)⟩⟩
    · rw [cg_le ((mg_sz hs).nn (by decide)) nn_05] at h3
      exact decide_eq_false (fun q => by
        have := q.2.2
        omega)
    · rw [cg_le ((mg_sz hs).nn (by decide)) nn_05] at h3
      have h4 : fk x ≤ fk (1106247680 : UInt32) := by
        rcases Decidable.em (fk x ≤ fk (1106247680 : UInt32)) with q | q
        · exact q
        · rw [decide_eq_false q] at hw
          exact absurd hw h2
      rw [show agB vn x = true from decide_eq_true ⟨h, h4, by omega⟩]
      rfl
  refine ⟨fun h => h12 _ ?_, fun h => h12 _ ?_⟩
  · rw [decide_eq_false (by omega)]
    rfl
  · rw [decide_eq_true (by omega)]
    rfl
/-! strikes -/
def stY (vn : Nat → Int32) (j : Int32) : Int32 := if j = 0 then 0 else vn 2 + 1
def stN (vn : Nat → Int32) (j : Int32) : Nat → Int32 := if stY vn j = 2 then upd (upd (upd (upd (upd vn 2 (stY vn j)) 0 3) 5 (-5)) 2 0) 8 (vn 8 + 1) else upd vn 2 (stY vn j)
theorem s4_strikes {vn : Nat → Int32} {j : Int32} {K : (Nat → Int32) → Prop} (hK : K (stN vn j)) : vX4_countStrikes vn j K := by
  unfold vX4_countStrikes
  have h15 : ∀ y : Int32, y = stY vn j → vX4_countStrikes_15 vn y K := by
    intro y hy
    subst hy
    unfold vX4_countStrikes_15 vX4_enter
    unfold stN at hK
    refine ⟨fun h => ?_, fun h => ?_⟩
    · rw [if_neg h] at hK
      exact hK
    · rw [if_pos h] at hK
      exact hK
  refine ⟨fun h => h15 _ ?_, fun h => h15 _ ?_⟩
  · unfold stY
    rw [if_neg h]
  · unfold stY
    rw [if_pos h]
def laS (n : Nat) (vs vp vq : Nat → Int32) (vn : Nat → Int32) (vf : Nat → UInt32) : (Nat → Int32) × (Nat → UInt32) := if vn 0 = 1 then (stN vn (jd n vs vp vq vf), vf) else if vn 0 = 3 ∧ fk (1112014848 : UInt32) < fk (vf 0) ∧ jd n vs vp vq vf = 0 then (upd (upd vn 0 2) 5 (-5), vf_upd vf 4 (vf 0)) else (vn, vf)
theorem s4_137 {n : Nat} {vn vs vp vq vd vo : Nat → Int32} (hp : pOk vn vp vq n) (ht : tOk vs) {vf : Nat → UInt32} (hf : fOk vf) {K : ((Nat → Int32) × (Nat → UInt32)) → Prop} (hK : K (laS n vs vp vq vn vf)) : vX4_passSecond_137 vn vf vs vp vq vd vo K := by
  unfold vX4_passSecond_137 vX4_hold
  rw [cl_le (hf.1.1.mg.nn (by decide)) nn_50]
  unfold laS at hK
  refine ⟨fun h => ⟨fun h3 => ?_, fun h3 => ⟨fun h5 => ?_, fun h5 => s4_judge hp ht hf ⟨fun hj => ?_, fun hj => ?_⟩⟩⟩, fun h => s4_judge hp ht hf (s4_strikes ?_)⟩
  · rw [if_neg h, if_neg (fun q => h3 q.1)] at hK
    exact hK
  · rw [if_neg h, if_neg (fun q => by have := q.2.1; omega)] at hK
    exact hK
  · rw [if_neg h, if_neg (fun q => hj q.2.2)] at hK
    exact hK
  · rw [if_neg h, if_pos ⟨h3, by omega, hj⟩] at hK
    exact hK
  · rw [if_pos h] at hK
    exact hK
def hrS (m : Nat) (vd vo : Nat → Int32) (vf : Nat → UInt32) : Int32 := if fk (sz (vf 2)) < fk (1028443341 : UInt32) then ff (nearB vd vo (vf 0)) m 0 else -5
def haS (m : Nat) (vd vo : Nat → Int32) (vn : Nat → Int32) (vf : Nat → UInt32) : (Nat → Int32) × (Nat → UInt32) := (hv vn (hrS m vd vo vf), if hrS m vd vo vf = -5 then vf else vf_upd vf 4 (m100 (vd (hrS m vd vo vf).toNatClampNeg)))
theorem hr_facts (m : Nat) (vd vo : Nat → Int32) (vf : Nat → UInt32) : hrS m vd vo vf = -5 ∨ ∃ j, j < m ∧ hrS m vd vo vf = nI j := by
  unfold hrS
  split
  · rcases ff_facts (nearB vd vo (vf 0)) m 0 with h | ⟨j, h1, h2, h3⟩
    · exact .inl h
    · exact .inr ⟨j, by omega, h3⟩
  · exact .inl rfl
theorem s4_holdAt {m : Nat} {vn vd vo : Nat → Int32} (hs : sOk vn vd vo m) {vf : Nat → UInt32} (hf : fOk vf) {K : ((Nat → Int32) × (Nat → UInt32)) → Prop} (hK : K (haS m vd vo vn vf)) : vX4_holdAtStopReached vn vf vd vo K := by
  have hx := hf.1.2.2.1.mg
  have h4 := hs.1
  unfold vX4_holdAtStopReached
  unfold haS at hK
  have h29 : ∀ r : Int32, r = hrS m vd vo vf → vX4_holdAtStopReached_29 vn vf vd vo r K := by
    intro r hr
    subst hr
    unfold vX4_holdAtStopReached_29 vX4_hold
    rcases hr_facts m vd vo vf with h | ⟨j, hj, h⟩
    · rw [h] at hK ⊢
      refine s5_has hs.2.1 hs.1 (fun j hj q => absurd q.symm (nI_n5 (by omega))) (fun _ => ⟨fun _ => hK, fun q => absurd rfl q⟩)
    · rw [h] at hK ⊢
      unfold hv at hK
      rw [if_neg (nI_n5 (by omega)), if_neg (nI_n5 (by omega)), nI_cl (by omega)] at hK
      exact s5_has hs.2.1 hs.1 (fun _ _ _ => ⟨fun q => absurd q (by decide), fun _ => s5_metres (by omega) hK⟩) (fun q => absurd ⟨j, hj, rfl⟩ q)
  refine s6_size hx (by decide) ⟨fun h => h29 _ ?_, fun h => s5_closedNear hs (hf.1.1.mg.mono (by decide)) (h29 _ ?_)⟩
  · rw [cg_le ((mg_sz hx).nn (by decide)) nn_005] at h
    unfold hrS
    rw [if_neg (by omega)]
  · rw [cg_le ((mg_sz hx).nn (by decide)) nn_005] at h
    unfold hrS
    rw [if_pos (by omega)]
