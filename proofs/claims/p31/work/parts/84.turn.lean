/-! a turn -/
section TN
variable {vn : Nat → Int32} {vf : Nat → UInt32} {vs vp vq vd vo : Nat → Int32}
abbrev upv (p q : Int32) : Int32 := (p &&& (2147483647 : Int32)) - (p &&& (2147483647 : Int32)) / q * q
theorem s_up {p q : Int32} (hq : ¬ q = 0) {K : Int32 → Unit → Prop} (hK : K (upv p q) ()) : vL_up p q K := ⟨hq, hK⟩
def anyN (b : Int32) : Prop := b &&& 7 = 0 ∨ b &&& 7 = 7
theorem and7 (b : Int32) : b &&& 7 = 0 ∨ b &&& 7 = 1 ∨ b &&& 7 = 2 ∨ b &&& 7 = 3 ∨ b &&& 7 = 4 ∨ b &&& 7 = 5 ∨ b &&& 7 = 6 ∨ b &&& 7 = 7 := by
  have h : (b &&& 7).toBitVec = b.toBitVec &&& 7#32 := rfl
  have key : ∀ x : BitVec 32, x &&& 7#32 = 0#32 ∨ x &&& 7#32 = 1#32 ∨ x &&& 7#32 = 2#32 ∨ x &&& 7#32 = 3#32 ∨ x &&& 7#32 = 4#32 ∨ x &&& 7#32 = 5#32 ∨ x &&& 7#32 = 6#32 ∨ x &&& 7#32 = 7#32 := by
    intro x
    have hl : (x &&& 7#32).toNat ≤ 7 := by
      rw [BitVec.toNat_and]
      exact Nat.and_le_right
    rcases (show (x &&& 7#32).toNat = 0 ∨ (x &&& 7#32).toNat = 1 ∨ (x &&& 7#32).toNat = 2 ∨ (x &&& 7#32).toNat = 3 ∨ (x &&& 7#32).toNat = 4 ∨ (x &&& 7#32).toNat = 5 ∨ (x &&& 7#32).toNat = 6 ∨ (x &&& 7#32).toNat = 7 by omega) with e | e | e | e | e | e | e | e
    · exact .inl (BitVec.eq_of_toNat_eq e)
    · exact .inr (.inl (BitVec.eq_of_toNat_eq e))
    · exact .inr (.inr (.inl (BitVec.eq_of_toNat_eq e)))
    · exact .inr (.inr (.inr (.inl (BitVec.eq_of_toNat_eq e))))
    · exact .inr (.inr (.inr (.inr (.inl (BitVec.eq_of_toNat_eq e)))))
    · exact .inr (.inr (.inr (.inr (.inr (.inl (BitVec.eq_of_toNat_eq e))))))
    · exact .inr (.inr (.inr (.inr (.inr (.inr (.inl (BitVec.eq_of_toNat_eq e)))))))
    · exact .inr (.inr (.inr (.inr (.inr (.inr (.inr (BitVec.eq_of_toNat_eq e)))))))
  have inj : ∀ {y : Int32}, (b &&& 7).toBitVec = y.toBitVec → b &&& 7 = y := fun e => Int32.toBitVec_inj.mp e
  rcases key b.toBitVec with e | e | e | e | e | e | e | e
  · exact .inl (inj e)
  · exact .inr (.inl (inj e))
  · exact .inr (.inr (.inl (inj e)))
  · exact .inr (.inr (.inr (.inl (inj e))))
  · exact .inr (.inr (.inr (.inr (.inl (inj e)))))
  · exact .inr (.inr (.inr (.inr (.inr (.inl (inj e))))))
  · exact .inr (.inr (.inr (.inr (.inr (.inr (.inl (inj e)))))))
  · exact .inr (.inr (.inr (.inr (.inr (.inr (.inr (inj e)))))))
theorem ts_any (hJ : Jc (vn, vf, vs, vp, vq, vd, vo)) {ss : Nat → Sx} {sv : Nat → Int32} (hS : Sl ss sv) (p1 p2 : Int32) : TS (vn, vf, vs, vp, vq, vd, vo) (anyN p2) (fun hc hh K => vL_any vn vf vs vp vq vd vo hc hh ss sv p1 p2 K) := by
  rcases and7 p2 with e | e | e | e | e | e | e | e
  · refine TS.mono (ts_place hJ p1 p2 p1 p2) (fun hc hh K h => ?_) (fun _ => .inl e)
    unfold vL_any
    exact ⟨fun _ => h, fun q => absurd e q⟩
  · refine TS.mono (ts_set hJ p1 p2) (fun hc hh K h => ?_) (fun q => q.elim)
    unfold vL_any
    exact ⟨fun q => absurd (e.symm.trans q) (by decide), fun _ => ⟨fun _ => h, fun q => absurd e q⟩⟩
  · refine TS.mono (ts_setPoint hJ p1 p2) (fun hc hh K h => ?_) (fun q => q.elim)
    unfold vL_any
    exact ⟨fun q => absurd (e.symm.trans q) (by decide), fun _ => ⟨fun q => absurd (e.symm.trans q) (by decide), fun _ => ⟨fun _ => h, fun q => absurd e q⟩⟩⟩
  · refine TS.mono (ts_addStop hJ p1) (fun hc hh K h => ?_) (fun q => q.elim)
    unfold vL_any
    exact ⟨fun q => absurd (e.symm.trans q) (by decide), fun _ => ⟨fun q => absurd (e.symm.trans q) (by decide), fun _ => ⟨fun q => absurd (e.symm.trans q) (by decide), fun _ => ⟨fun _ => h, fun q => absurd e q⟩⟩⟩⟩
  · by_cases z : p2 &&& 8 = 0
    · refine TS.mono (ts_setBias hJ 1 p1) (fun hc hh K h => ?_) (fun q => q.elim)
      unfold vL_any vL_any_90
      exact ⟨fun q => absurd (e.symm.trans q) (by decide), fun _ => ⟨fun q => absurd (e.symm.trans q) (by decide), fun _ => ⟨fun q => absurd (e.symm.trans q) (by decide), fun _ => ⟨fun q => absurd (e.symm.trans q) (by decide), fun _ => ⟨fun _ => ⟨fun w => absurd z w, fun _ => h⟩, fun q => absurd e q⟩⟩⟩⟩⟩
    · refine TS.mono (ts_setBias hJ 0 p1) (fun hc hh K h => ?_) (fun q => q.elim)
      unfold vL_any vL_any_90
      exact ⟨fun q => absurd (e.symm.trans q) (by decide), fun _ => ⟨fun q => absurd (e.symm.trans q) (by decide), fun _ => ⟨fun q => absurd (e.symm.trans q) (by decide), fun _ => ⟨fun q => absurd (e.symm.trans q) (by decide), fun _ => ⟨fun _ => ⟨fun _ => h, fun w => absurd w z⟩, fun q => absurd e q⟩⟩⟩⟩⟩
  · refine TS.mono (ts_open hJ p1) (fun hc hh K h => ?_) (fun q => q.elim)
    unfold vL_any
    exact ⟨fun q => absurd (e.symm.trans q) (by decide), fun _ => ⟨fun q => absurd (e.symm.trans q) (by decide), fun _ => ⟨fun q => absurd (e.symm.trans q) (by decide), fun _ => ⟨fun q => absurd (e.symm.trans q) (by decide), fun _ => ⟨fun q => absurd (e.symm.trans q) (by decide), fun _ => ⟨fun _ => h, fun q => absurd e q⟩⟩⟩⟩⟩⟩
  · refine TS.mono (ts_pass hJ p1) (fun hc hh K h => ?_) (fun q => q.elim)
    unfold vL_any
    exact ⟨fun q => absurd (e.symm.trans q) (by decide), fun _ => ⟨fun q => absurd (e.symm.trans q) (by decide), fun _ => ⟨fun q => absurd (e.symm.trans q) (by decide), fun _ => ⟨fun q => absurd (e.symm.trans q) (by decide), fun _ => ⟨fun q => absurd (e.symm.trans q) (by decide), fun _ => ⟨fun q => absurd (e.symm.trans q) (by decide), fun _ => ⟨fun _ => h, fun q => absurd e q⟩⟩⟩⟩⟩⟩⟩
  · refine TS.mono (ts_restore hJ hS p1) (fun hc hh K h => ?_) (fun _ => .inr e)
    unfold vL_any
    exact ⟨fun q => absurd (e.symm.trans q) (by decide), fun _ => ⟨fun q => absurd (e.symm.trans q) (by decide), fun _ => ⟨fun q => absurd (e.symm.trans q) (by decide), fun _ => ⟨fun q => absurd (e.symm.trans q) (by decide), fun _ => ⟨fun q => absurd (e.symm.trans q) (by decide), fun _ => ⟨fun q => absurd (e.symm.trans q) (by decide), fun _ => ⟨fun q => absurd (e.symm.trans q) (by decide), fun _ => h⟩⟩⟩⟩⟩⟩⟩
def trnN (w b : Int32) : Prop := w = 0 ∨ (w = 15 ∧ anyN b)
theorem ts_turn (hJ : Jc (vn, vf, vs, vp, vq, vd, vo)) {ss : Nat → Sx} {sv : Nat → Int32} (hS : Sl ss sv) (w a b : Int32) (hw : 0 ≤ w.toInt ∧ w.toInt ≤ 15) : TS (vn, vf, vs, vp, vq, vd, vo) (trnN w b) (fun hc hh K => vL_turn vn vf vs vp vq vd vo hc hh ss sv w a b K) := by
  obtain ⟨k, hk, e⟩ : ∃ k : Nat, k < 16 ∧ w = nI k := ⟨w.toInt.toNat, by omega, i_of hw.1⟩
  rcases (show k = 0 ∨ k = 1 ∨ k = 2 ∨ k = 3 ∨ k = 4 ∨ k = 5 ∨ k = 6 ∨ k = 7 ∨ k = 8 ∨ k = 9 ∨ k = 10 ∨ k = 11 ∨ k = 12 ∨ k = 13 ∨ k = 14 ∨ k = 15 by omega) with rfl | rfl | rfl | rfl | rfl | rfl | rfl | rfl | rfl | rfl | rfl | rfl | rfl | rfl | rfl | rfl
  · have e : w = 0 := e
    by_cases z : a &&& 1 = 0
    · skip
      refine TS.mono (ts_place hJ ((1 : Int32) + upv a 9000) (upv b 600 - 300) (upv (a >>> ((8 : Int32) &&& 31)) 900 - 600) (upv (b >>> ((9 : Int32) &&& 31)) 60 - 30)) (fun hc hh K h => ?_) (fun _ => .inl e)
      unfold vL_turn
      unfold vL_turn_94
      exact ⟨fun _ => ⟨fun q => absurd z q, fun _ => s_up (by decide) (s_up (by decide) (s_up (by decide) (s_up (by decide) (h))))⟩, fun q => absurd e q⟩
    · skip
      refine TS.mono (ts_place hJ ((1 : Int32) + upv a 600) (upv b 600 - 300) (upv (a >>> ((8 : Int32) &&& 31)) 900 - 600) (upv (b >>> ((9 : Int32) &&& 31)) 60 - 30)) (fun hc hh K h => ?_) (fun _ => .inl e)
      unfold vL_turn
      unfold vL_turn_94
      exact ⟨fun _ => ⟨fun _ => s_up (by decide) (s_up (by decide) (s_up (by decide) (s_up (by decide) (h)))), fun q => absurd q z⟩, fun q => absurd e q⟩
  · have e : w = 1 := e
    refine TS.mono (ts_set hJ (upv a 8) (upv b 501)) (fun hc hh K h => ?_) (fun q => q.elim)
    unfold vL_turn
    exact ⟨fun q => absurd (e.symm.trans q) (by decide), fun _ => ⟨fun _ => s_up (by decide) (s_up (by decide) (h)), fun q => absurd e q⟩⟩
  · have e : w = 2 := e
    refine TS.mono (ts_setPoint hJ (upv a 8000) ((1 : Int32) + upv b 900)) (fun hc hh K h => ?_) (fun q => q.elim)
    unfold vL_turn
    exact ⟨fun q => absurd (e.symm.trans q) (by decide), fun _ => ⟨fun q => absurd (e.symm.trans q) (by decide), fun _ => ⟨fun _ => s_up (by decide) (s_up (by decide) (h)), fun q => absurd e q⟩⟩⟩
  · have e : w = 3 := e
    refine TS.mono (ts_addStop hJ ((1 : Int32) + upv a 9000)) (fun hc hh K h => ?_) (fun q => q.elim)
    unfold vL_turn
    exact ⟨fun q => absurd (e.symm.trans q) (by decide), fun _ => ⟨fun q => absurd (e.symm.trans q) (by decide), fun _ => ⟨fun q => absurd (e.symm.trans q) (by decide), fun _ => ⟨fun _ => s_up (by decide) (h), fun q => absurd e q⟩⟩⟩⟩
  · have e : w = 4 := e
    by_cases z : a &&& 1 = 0
    · by_cases z2 : a &&& 2 = 0
      · skip
        refine TS.mono (ts_setBias hJ 1 (upv b 60 - 30)) (fun hc hh K h => ?_) (fun q => q.elim)
        unfold vL_turn
        unfold vL_turn_204 vL_turn_219 vL_turn_236
        exact ⟨fun q => absurd (e.symm.trans q) (by decide), fun _ => ⟨fun q => absurd (e.symm.trans q) (by decide), fun _ => ⟨fun q => absurd (e.symm.trans q) (by decide), fun _ => ⟨fun q => absurd (e.symm.trans q) (by decide), fun _ => ⟨fun _ => ⟨fun q => absurd z q, fun _ => ⟨fun q => absurd z2 q, fun _ => s_up (by decide) (⟨fun q => absurd z2 q, fun _ => h⟩)⟩⟩, fun q => absurd e q⟩⟩⟩⟩⟩
      · skip
        refine TS.mono (ts_setBias hJ 1 (upv b 1001 - 500)) (fun hc hh K h => ?_) (fun q => q.elim)
        unfold vL_turn
        unfold vL_turn_204 vL_turn_219 vL_turn_236
        exact ⟨fun q => absurd (e.symm.trans q) (by decide), fun _ => ⟨fun q => absurd (e.symm.trans q) (by decide), fun _ => ⟨fun q => absurd (e.symm.trans q) (by decide), fun _ => ⟨fun q => absurd (e.symm.trans q) (by decide), fun _ => ⟨fun _ => ⟨fun q => absurd z q, fun _ => ⟨fun _ => s_up (by decide) (⟨fun _ => h, fun q => absurd q z2⟩), fun q => absurd q z2⟩⟩, fun q => absurd e q⟩⟩⟩⟩⟩
    · by_cases z2 : a &&& 2 = 0
      · skip
        refine TS.mono (ts_setBias hJ 0 (upv b 60 - 30)) (fun hc hh K h => ?_) (fun q => q.elim)
        unfold vL_turn
        unfold vL_turn_204 vL_turn_219 vL_turn_236
        exact ⟨fun q => absurd (e.symm.trans q) (by decide), fun _ => ⟨fun q => absurd (e.symm.trans q) (by decide), fun _ => ⟨fun q => absurd (e.symm.trans q) (by decide), fun _ => ⟨fun q => absurd (e.symm.trans q) (by decide), fun _ => ⟨fun _ => ⟨fun _ => ⟨fun q => absurd z2 q, fun _ => s_up (by decide) (⟨fun q => absurd z2 q, fun _ => h⟩)⟩, fun q => absurd q z⟩, fun q => absurd e q⟩⟩⟩⟩⟩
      · skip
        refine TS.mono (ts_setBias hJ 0 (upv b 1001 - 500)) (fun hc hh K h => ?_) (fun q => q.elim)
        unfold vL_turn
        unfold vL_turn_204 vL_turn_219 vL_turn_236
        exact ⟨fun q => absurd (e.symm.trans q) (by decide), fun _ => ⟨fun q => absurd (e.symm.trans q) (by decide), fun _ => ⟨fun q => absurd (e.symm.trans q) (by decide), fun _ => ⟨fun q => absurd (e.symm.trans q) (by decide), fun _ => ⟨fun _ => ⟨fun _ => ⟨fun _ => s_up (by decide) (⟨fun _ => h, fun q => absurd q z2⟩), fun q => absurd q z2⟩, fun q => absurd q z⟩, fun q => absurd e q⟩⟩⟩⟩⟩
  · have e : w = 5 := e
    refine TS.mono (ts_mode (a := 103) (t := 1) (.inl ⟨rfl, rfl⟩) hJ) (fun hc hh K h => ?_) (fun q => q.elim)
    unfold vL_turn
    unfold vL_turn_241 vX6_approach
    exact ⟨fun q => absurd (e.symm.trans q) (by decide), fun _ => ⟨fun q => absurd (e.symm.trans q) (by decide), fun _ => ⟨fun q => absurd (e.symm.trans q) (by decide), fun _ => ⟨fun q => absurd (e.symm.trans q) (by decide), fun _ => ⟨fun q => absurd (e.symm.trans q) (by decide), fun _ => ⟨fun _ => h, fun q => absurd e q⟩⟩⟩⟩⟩⟩
  · have e : w = 6 := e
    refine TS.mono (ts_mode (a := 103) (t := 1) (.inl ⟨rfl, rfl⟩) hJ) (fun hc hh K h => ?_) (fun q => q.elim)
    unfold vL_turn
    unfold vL_turn_241 vX6_approach
    exact ⟨fun q => absurd (e.symm.trans q) (by decide), fun _ => ⟨fun q => absurd (e.symm.trans q) (by decide), fun _ => ⟨fun q => absurd (e.symm.trans q) (by decide), fun _ => ⟨fun q => absurd (e.symm.trans q) (by decide), fun _ => ⟨fun q => absurd (e.symm.trans q) (by decide), fun _ => ⟨fun q => absurd (e.symm.trans q) (by decide), fun _ => ⟨fun _ => h, fun q => absurd e q⟩⟩⟩⟩⟩⟩⟩
  · have e : w = 7 := e
    refine TS.mono (ts_mode (a := 103) (t := 1) (.inl ⟨rfl, rfl⟩) hJ) (fun hc hh K h => ?_) (fun q => q.elim)
    unfold vL_turn
    unfold vL_turn_241 vX6_approach
    exact ⟨fun q => absurd (e.symm.trans q) (by decide), fun _ => ⟨fun q => absurd (e.symm.trans q) (by decide), fun _ => ⟨fun q => absurd (e.symm.trans q) (by decide), fun _ => ⟨fun q => absurd (e.symm.trans q) (by decide), fun _ => ⟨fun q => absurd (e.symm.trans q) (by decide), fun _ => ⟨fun q => absurd (e.symm.trans q) (by decide), fun _ => ⟨fun q => absurd (e.symm.trans q) (by decide), fun _ => ⟨fun _ => h, fun q => absurd e q⟩⟩⟩⟩⟩⟩⟩⟩
  · have e : w = 8 := e
    by_cases z : a &&& 3 = 0
    · skip
      refine TS.mono (ts_mode (a := 102) (t := 0) (.inr (.inl ⟨rfl, rfl⟩)) hJ) (fun hc hh K h => ?_) (fun q => q.elim)
      unfold vL_turn
      unfold vX6_release vX6_retreat
      exact ⟨fun q => absurd (e.symm.trans q) (by decide), fun _ => ⟨fun q => absurd (e.symm.trans q) (by decide), fun _ => ⟨fun q => absurd (e.symm.trans q) (by decide), fun _ => ⟨fun q => absurd (e.symm.trans q) (by decide), fun _ => ⟨fun q => absurd (e.symm.trans q) (by decide), fun _ => ⟨fun q => absurd (e.symm.trans q) (by decide), fun _ => ⟨fun q => absurd (e.symm.trans q) (by decide), fun _ => ⟨fun q => absurd (e.symm.trans q) (by decide), fun _ => ⟨fun _ => ⟨fun q => absurd z q, fun _ => h⟩, fun q => absurd e q⟩⟩⟩⟩⟩⟩⟩⟩⟩
    · skip
      refine TS.mono (ts_mode (a := 98) (t := 3) (.inr (.inr ⟨rfl, rfl⟩)) hJ) (fun hc hh K h => ?_) (fun q => q.elim)
      unfold vL_turn
      unfold vX6_release vX6_retreat
      exact ⟨fun q => absurd (e.symm.trans q) (by decide), fun _ => ⟨fun q => absurd (e.symm.trans q) (by decide), fun _ => ⟨fun q => absurd (e.symm.trans q) (by decide), fun _ => ⟨fun q => absurd (e.symm.trans q) (by decide), fun _ => ⟨fun q => absurd (e.symm.trans q) (by decide), fun _ => ⟨fun q => absurd (e.symm.trans q) (by decide), fun _ => ⟨fun q => absurd (e.symm.trans q) (by decide), fun _ => ⟨fun q => absurd (e.symm.trans q) (by decide), fun _ => ⟨fun _ => ⟨fun _ => h, fun q => absurd q z⟩, fun q => absurd e q⟩⟩⟩⟩⟩⟩⟩⟩⟩
  · have e : w = 9 := e
    refine TS.mono (ts_open hJ (upv a 4)) (fun hc hh K h => ?_) (fun q => q.elim)
    unfold vL_turn
    exact ⟨fun q => absurd (e.symm.trans q) (by decide), fun _ => ⟨fun q => absurd (e.symm.trans q) (by decide), fun _ => ⟨fun q => absurd (e.symm.trans q) (by decide), fun _ => ⟨fun q => absurd (e.symm.trans q) (by decide), fun _ => ⟨fun q => absurd (e.symm.trans q) (by decide), fun _ => ⟨fun q => absurd (e.symm.trans q) (by decide), fun _ => ⟨fun q => absurd (e.symm.trans q) (by decide), fun _ => ⟨fun q => absurd (e.symm.trans q) (by decide), fun _ => ⟨fun q => absurd (e.symm.trans q) (by decide), fun _ => ⟨fun _ => s_up (by decide) (h), fun q => absurd e q⟩⟩⟩⟩⟩⟩⟩⟩⟩⟩
  · have e : w = 10 := e
    by_cases z : a &&& 3 = 0
    · skip
      refine TS.mono (ts_pass hJ ((1 : Int32) + upv b 200)) (fun hc hh K h => ?_) (fun q => q.elim)
      unfold vL_turn
      unfold vL_turn_274 vL_turn_291
      exact ⟨fun q => absurd (e.symm.trans q) (by decide), fun _ => ⟨fun q => absurd (e.symm.trans q) (by decide), fun _ => ⟨fun q => absurd (e.symm.trans q) (by decide), fun _ => ⟨fun q => absurd (e.symm.trans q) (by decide), fun _ => ⟨fun q => absurd (e.symm.trans q) (by decide), fun _ => ⟨fun q => absurd (e.symm.trans q) (by decide), fun _ => ⟨fun q => absurd (e.symm.trans q) (by decide), fun _ => ⟨fun q => absurd (e.symm.trans q) (by decide), fun _ => ⟨fun q => absurd (e.symm.trans q) (by decide), fun _ => ⟨fun q => absurd (e.symm.trans q) (by decide), fun _ => ⟨fun _ => ⟨fun q => absurd z q, fun _ => s_up (by decide) (h)⟩, fun q => absurd e q⟩⟩⟩⟩⟩⟩⟩⟩⟩⟩⟩
    · skip
      refine TS.mono (ts_pass hJ ((1 : Int32) + upv b 12)) (fun hc hh K h => ?_) (fun q => q.elim)
      unfold vL_turn
      unfold vL_turn_274 vL_turn_291
      exact ⟨fun q => absurd (e.symm.trans q) (by decide), fun _ => ⟨fun q => absurd (e.symm.trans q) (by decide), fun _ => ⟨fun q => absurd (e.symm.trans q) (by decide), fun _ => ⟨fun q => absurd (e.symm.trans q) (by decide), fun _ => ⟨fun q => absurd (e.symm.trans q) (by decide), fun _ => ⟨fun q => absurd (e.symm.trans q) (by decide), fun _ => ⟨fun q => absurd (e.symm.trans q) (by decide), fun _ => ⟨fun q => absurd (e.symm.trans q) (by decide), fun _ => ⟨fun q => absurd (e.symm.trans q) (by decide), fun _ => ⟨fun q => absurd (e.symm.trans q) (by decide), fun _ => ⟨fun _ => ⟨fun _ => s_up (by decide) (h), fun q => absurd q z⟩, fun q => absurd e q⟩⟩⟩⟩⟩⟩⟩⟩⟩⟩⟩
  · have e : w = 11 := e
    by_cases z : a &&& 3 = 0
    · skip
      refine TS.mono (ts_pass hJ ((1 : Int32) + upv b 200)) (fun hc hh K h => ?_) (fun q => q.elim)
      unfold vL_turn
      unfold vL_turn_274 vL_turn_291
      exact ⟨fun q => absurd (e.symm.trans q) (by decide), fun _ => ⟨fun q => absurd (e.symm.trans q) (by decide), fun _ => ⟨fun q => absurd (e.symm.trans q) (by decide), fun _ => ⟨fun q => absurd (e.symm.trans q) (by decide), fun _ => ⟨fun q => absurd (e.symm.trans q) (by decide), fun _ => ⟨fun q => absurd (e.symm.trans q) (by decide), fun _ => ⟨fun q => absurd (e.symm.trans q) (by decide), fun _ => ⟨fun q => absurd (e.symm.trans q) (by decide), fun _ => ⟨fun q => absurd (e.symm.trans q) (by decide), fun _ => ⟨fun q => absurd (e.symm.trans q) (by decide), fun _ => ⟨fun q => absurd (e.symm.trans q) (by decide), fun _ => ⟨fun _ => ⟨fun q => absurd z q, fun _ => s_up (by decide) (h)⟩, fun q => absurd e q⟩⟩⟩⟩⟩⟩⟩⟩⟩⟩⟩⟩
    · skip
      refine TS.mono (ts_pass hJ ((1 : Int32) + upv b 12)) (fun hc hh K h => ?_) (fun q => q.elim)
      unfold vL_turn
      unfold vL_turn_274 vL_turn_291
      exact ⟨fun q => absurd (e.symm.trans q) (by decide), fun _ => ⟨fun q => absurd (e.symm.trans q) (by decide), fun _ => ⟨fun q => absurd (e.symm.trans q) (by decide), fun _ => ⟨fun q => absurd (e.symm.trans q) (by decide), fun _ => ⟨fun q => absurd (e.symm.trans q) (by decide), fun _ => ⟨fun q => absurd (e.symm.trans q) (by decide), fun _ => ⟨fun q => absurd (e.symm.trans q) (by decide), fun _ => ⟨fun q => absurd (e.symm.trans q) (by decide), fun _ => ⟨fun q => absurd (e.symm.trans q) (by decide), fun _ => ⟨fun q => absurd (e.symm.trans q) (by decide), fun _ => ⟨fun q => absurd (e.symm.trans q) (by decide), fun _ => ⟨fun _ => ⟨fun _ => s_up (by decide) (h), fun q => absurd q z⟩, fun q => absurd e q⟩⟩⟩⟩⟩⟩⟩⟩⟩⟩⟩⟩
  · have e : w = 12 := e
    by_cases z : a &&& 3 = 0
    · skip
      refine TS.mono (ts_pass hJ ((1 : Int32) + upv b 200)) (fun hc hh K h => ?_) (fun q => q.elim)
      unfold vL_turn
      unfold vL_turn_274 vL_turn_291
      exact ⟨fun q => absurd (e.symm.trans q) (by decide), fun _ => ⟨fun q => absurd (e.symm.trans q) (by decide), fun _ => ⟨fun q => absurd (e.symm.trans q) (by decide), fun _ => ⟨fun q => absurd (e.symm.trans q) (by decide), fun _ => ⟨fun q => absurd (e.symm.trans q) (by decide), fun _ => ⟨fun q => absurd (e.symm.trans q) (by decide), fun _ => ⟨fun q => absurd (e.symm.trans q) (by decide), fun _ => ⟨fun q => absurd (e.symm.trans q) (by decide), fun _ => ⟨fun q => absurd (e.symm.trans q) (by decide), fun _ => ⟨fun q => absurd (e.symm.trans q) (by decide), fun _ => ⟨fun q => absurd (e.symm.trans q) (by decide), fun _ => ⟨fun q => absurd (e.symm.trans q) (by decide), fun _ => ⟨fun _ => ⟨fun q => absurd z q, fun _ => s_up (by decide) (h)⟩, fun q => absurd e q⟩⟩⟩⟩⟩⟩⟩⟩⟩⟩⟩⟩⟩
    · skip
      refine TS.mono (ts_pass hJ ((1 : Int32) + upv b 12)) (fun hc hh K h => ?_) (fun q => q.elim)
      unfold vL_turn
      unfold vL_turn_274 vL_turn_291
      exact ⟨fun q => absurd (e.symm.trans q) (by decide), fun _ => ⟨fun q => absurd (e.symm.trans q) (by decide), fun _ => ⟨fun q => absurd (e.symm.trans q) (by decide), fun _ => ⟨fun q => absurd (e.symm.trans q) (by decide), fun _ => ⟨fun q => absurd (e.symm.trans q) (by decide), fun _ => ⟨fun q => absurd (e.symm.trans q) (by decide), fun _ => ⟨fun q => absurd (e.symm.trans q) (by decide), fun _ => ⟨fun q => absurd (e.symm.trans q) (by decide), fun _ => ⟨fun q => absurd (e.symm.trans q) (by decide), fun _ => ⟨fun q => absurd (e.symm.trans q) (by decide), fun _ => ⟨fun q => absurd (e.symm.trans q) (by decide), fun _ => ⟨fun q => absurd (e.symm.trans q) (by decide), fun _ => ⟨fun _ => ⟨fun _ => s_up (by decide) (h), fun q => absurd q z⟩, fun q => absurd e q⟩⟩⟩⟩⟩⟩⟩⟩⟩⟩⟩⟩⟩
  · have e : w = 13 := e
    by_cases z : a &&& 3 = 0
    · skip
      refine TS.mono (ts_pass hJ ((1 : Int32) + upv b 200)) (fun hc hh K h => ?_) (fun q => q.elim)
      unfold vL_turn
      unfold vL_turn_274 vL_turn_291
      exact ⟨fun q => absurd (e.symm.trans q) (by decide), fun _ => ⟨fun q => absurd (e.symm.trans q) (by decide), fun _ => ⟨fun q => absurd (e.symm.trans q) (by decide), fun _ => ⟨fun q => absurd (e.symm.trans q) (by decide), fun _ => ⟨fun q => absurd (e.symm.trans q) (by decide), fun _ => ⟨fun q => absurd (e.symm.trans q) (by decide), fun _ => ⟨fun q => absurd (e.symm.trans q) (by decide), fun _ => ⟨fun q => absurd (e.symm.trans q) (by decide), fun _ => ⟨fun q => absurd (e.symm.trans q) (by decide), fun _ => ⟨fun q => absurd (e.symm.trans q) (by decide), fun _ => ⟨fun q => absurd (e.symm.trans q) (by decide), fun _ => ⟨fun q => absurd (e.symm.trans q) (by decide), fun _ => ⟨fun q => absurd (e.symm.trans q) (by decide), fun _ => ⟨fun _ => ⟨fun q => absurd z q, fun _ => s_up (by decide) (h)⟩, fun q => absurd e q⟩⟩⟩⟩⟩⟩⟩⟩⟩⟩⟩⟩⟩⟩
    · skip
      refine TS.mono (ts_pass hJ ((1 : Int32) + upv b 12)) (fun hc hh K h => ?_) (fun q => q.elim)
      unfold vL_turn
      unfold vL_turn_274 vL_turn_291
      exact ⟨fun q => absurd (e.symm.trans q) (by decide), fun _ => ⟨fun q => absurd (e.symm.trans q) (by decide), fun _ => ⟨fun q => absurd (e.symm.trans q) (by decide), fun _ => ⟨fun q => absurd (e.symm.trans q) (by decide), fun _ => ⟨fun q => absurd (e.symm.trans q) (by decide), fun _ => ⟨fun q => absurd (e.symm.trans q) (by decide), fun _ => ⟨fun q => absurd (e.symm.trans q) (by decide), fun _ => ⟨fun q => absurd (e.symm.trans q) (by decide), fun _ => ⟨fun q => absurd (e.symm.trans q) (by decide), fun _ => ⟨fun q => absurd (e.symm.trans q) (by decide), fun _ => ⟨fun q => absurd (e.symm.trans q) (by decide), fun _ => ⟨fun q => absurd (e.symm.trans q) (by decide), fun _ => ⟨fun q => absurd (e.symm.trans q) (by decide), fun _ => ⟨fun _ => ⟨fun _ => s_up (by decide) (h), fun q => absurd q z⟩, fun q => absurd e q⟩⟩⟩⟩⟩⟩⟩⟩⟩⟩⟩⟩⟩⟩
  · have e : w = 14 := e
    refine TS.mono (ts_open hJ (upv a 2)) (fun hc hh K h => ?_) (fun q => q.elim)
    unfold vL_turn
    exact ⟨fun q => absurd (e.symm.trans q) (by decide), fun _ => ⟨fun q => absurd (e.symm.trans q) (by decide), fun _ => ⟨fun q => absurd (e.symm.trans q) (by decide), fun _ => ⟨fun q => absurd (e.symm.trans q) (by decide), fun _ => ⟨fun q => absurd (e.symm.trans q) (by decide), fun _ => ⟨fun q => absurd (e.symm.trans q) (by decide), fun _ => ⟨fun q => absurd (e.symm.trans q) (by decide), fun _ => ⟨fun q => absurd (e.symm.trans q) (by decide), fun _ => ⟨fun q => absurd (e.symm.trans q) (by decide), fun _ => ⟨fun q => absurd (e.symm.trans q) (by decide), fun _ => ⟨fun q => absurd (e.symm.trans q) (by decide), fun _ => ⟨fun q => absurd (e.symm.trans q) (by decide), fun _ => ⟨fun q => absurd (e.symm.trans q) (by decide), fun _ => ⟨fun q => absurd (e.symm.trans q) (by decide), fun _ => ⟨fun _ => s_up (by decide) (h), fun q => absurd e q⟩⟩⟩⟩⟩⟩⟩⟩⟩⟩⟩⟩⟩⟩⟩
  · have e : w = 15 := e
    refine TS.mono (ts_any hJ hS a b) (fun hc hh K h => ?_) (fun q => .inr ⟨e, q⟩)
    unfold vL_turn
    exact ⟨fun q => absurd (e.symm.trans q) (by decide), fun _ => ⟨fun q => absurd (e.symm.trans q) (by decide), fun _ => ⟨fun q => absurd (e.symm.trans q) (by decide), fun _ => ⟨fun q => absurd (e.symm.trans q) (by decide), fun _ => ⟨fun q => absurd (e.symm.trans q) (by decide), fun _ => ⟨fun q => absurd (e.symm.trans q) (by decide), fun _ => ⟨fun q => absurd (e.symm.trans q) (by decide), fun _ => ⟨fun q => absurd (e.symm.trans q) (by decide), fun _ => ⟨fun q => absurd (e.symm.trans q) (by decide), fun _ => ⟨fun q => absurd (e.symm.trans q) (by decide), fun _ => ⟨fun q => absurd (e.symm.trans q) (by decide), fun _ => ⟨fun q => absurd (e.symm.trans q) (by decide), fun _ => ⟨fun q => absurd (e.symm.trans q) (by decide), fun _ => ⟨fun q => absurd (e.symm.trans q) (by decide), fun _ => ⟨fun q => absurd (e.symm.trans q) (by decide), fun _ => h⟩⟩⟩⟩⟩⟩⟩⟩⟩⟩⟩⟩⟩⟩⟩
end TN
