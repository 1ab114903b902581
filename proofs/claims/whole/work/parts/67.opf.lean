/-! what could be -/
theorem sI_u {n m : Nat} {vn : Nat → Int32} {vf : Nat → UInt32} {vs vp vq vd vo mn : Nat → Int32} {mf : Nat → UInt32} {u : (Nat → Int32) × (Nat → UInt32) × (Nat → Int32) × (Nat → Int32) × (Nat → Int32) × (Nat → Int32) × (Nat → Int32)} (hP : PR vn vf vs vp vq vd vo mn mf) (h : cf_eq vn vf vs vp vq vd vo u) : PR u.1 u.2.1 u.2.2.1 u.2.2.2.1 u.2.2.2.2.1 u.2.2.2.2.2.1 u.2.2.2.2.2.2 mn mf := by
  obtain ⟨a1, a2, a3, a4, a5, a6, a7⟩ := h
  exact PR_cg hP a1 a2 a3 (fun j hj => ⟨a4 j hj, a5 j hj⟩) (fun j hj => ⟨a6 j hj, a7 j hj⟩) (fun _ _ => rfl) (fun _ _ => rfl)
theorem trial {hc : Nat → Int32} {hh ss : Nat → Sx} {sv mk mm mv mk' mn : Nat → Int32} {mf mG mG' : Nat → UInt32} (hQ : KR hc hh mk mG mm) (hS : SR ss sv mk mG mv) (q1 : ∀ k, mk' k = if 40 * 7 ≤ k ∧ k < 40 * 7 + 40 then mn (k - 40 * 7) else mk k) (q2 : ∀ k, mG' k = if 5 * 7 ≤ k ∧ k < 5 * 7 + 5 then mf (k - 5 * 7) else mG k) : KR hc hh mk' mG' mm ∧ SR ss sv mk' mG' mv := by
  constructor
  · obtain ⟨c, h5, e1, e2, hr⟩ := hQ
    refine ⟨c, h5, e1, e2, fun i hi => PRc_cg (hr i hi) (fun k hk => ?_) (fun k hk => ?_)⟩
    · rw [q1, if_neg (by omega)]
    · rw [q2, if_neg (by omega)]
  · intro k hk
    obtain ⟨a1, a2, a3⟩ := hS k hk
    refine ⟨a1, a2, fun q => PRc_cg (a3 q) (fun i hi => ?_) (fun i hi => ?_)⟩
    · rw [q1, if_neg (by omega)]
    · rw [q2, if_neg (by omega)]
theorem s6_modeLoop {n m t : Nat} {vn : Nat → Int32} {vf : Nat → UInt32} {vs vp vq vd vo un us up uq ud uo : Nat → Int32} {uf : Nat → UInt32} (h : sI n m un uf us up uq ud uo) (ht : t ≤ 1000) {K : Int32 → ((Nat → Int32) × (Nat → UInt32) × (Nat → Int32) × (Nat → Int32) × (Nat → Int32) × (Nat → Int32) × (Nat → Int32)) → Prop} (hK : ∀ wn wf, K ((itS n m us up uq ud uo t (un, uf)).1 0) (wn, wf, us, up, uq, ud, uo)) : ∃ k, lp (vX6_modeIn_27F vn vf vs vp vq vd vo us up uq ud uo (nI t) K) k (un, uf, (0 : Int32)) := by
  refine lp_ex (fun z : (Nat → Int32) × (Nat → UInt32) × Int32 => ∃ i : Nat, i ≤ t ∧ z.2.2 = nI i ∧ sI n m z.1 z.2.1 us up uq ud uo ∧ itS n m us up uq ud uo (t - i) (z.1, z.2.1) = itS n m us up uq ud uo t (un, uf)) (fun z => t - z.2.2.toNatClampNeg) _ ⟨0, by omega, rfl, h, rfl⟩ ?_
  rintro B ⟨wn, wf, z⟩ ⟨i, hi, hz, hI, he⟩ hB
  dsimp only at hz hI he hB
  subst hz
  unfold vX6_modeIn_27F vX6_modeIn_27b
  dsimp only
  rw [nI_leI (by omega) (by omega)]
  refine ⟨fun h => ?_, fun h => s4_second hI (hB _ ⟨i + 1, by omega, nI_1 i, sec_ok hI, ?_⟩ ?_)⟩
  · rw [show t - i = 0 by omega] at he
    rw [← he] at hK
    exact hK _ _
  · obtain ⟨k, hk⟩ : ∃ k, t - i = k + 1 := ⟨t - i - 1, by omega⟩
    rw [hk, it_s] at he
    rw [show t - (i + 1) = k by omega]
    exact he
  · dsimp only
    rw [nI_1, nI_cl (by omega), nI_cl (by omega)]
    omega
theorem h_op_24 : op_24 LIx := by
  intro vn vf vs vp vq vd vo un uf us up uq ud uo tm tx hc hh ss sv mn mf mk mG mv mt mm s1 hL
  have hL' := hL
  obtain ⟨hP, hQ, hS, hT⟩ := hL'
  unfold vX6_modeIn vX7_modeIn
  rw [i_lt, i_le, c_0, c_500]
  refine ⟨fun h => ?_, fun h => ⟨fun g => cf_ok _ _ _ _ _ _ _ _ _ _ _ _ _ _ _ hP.pre (fun u hu => ?_), fun g => ?_⟩⟩
  · exact s7_isIn c_0 c_500 (fun a b => by omega) (fun _ => ⟨fun q => absurd rfl q, fun _ => ⟨rfl, hL⟩⟩)
  · obtain ⟨t, ht, e⟩ : ∃ t : Nat, t ≤ 500 ∧ s1 = nI t := ⟨s1.toInt.toNat, by omega, i_of (by omega)⟩
    subst e
    have hU := sI_u (n := 0) (m := 0) hP hu
    obtain ⟨n, m, hI, hW⟩ := hU
    refine s6_modeLoop hI (by omega) (fun wn wf => s7_isIn c_0 c_500 (fun a b => ⟨fun _ => ?_, fun q => absurd q (by decide)⟩) (fun q => by omega))
    rw [show (7 : Int32) = nI 7 by rfl]
    refine s7_keeps (by omega) (fun mk' mG' q1 q2 => s7_passes hI hW (by omega) (fun mn2 mf2 hW2 => s7_brings (by omega) (fun mn3 mf3 r1 r2 => ⟨rfl, ?_⟩)))
    obtain ⟨k1, k2⟩ := trial hQ hS q1 q2
    refine LIx_mk (PR_id hP (fun j hj => ?_) (fun j hj => ?_)) k1 k2 hT
    · show mn3 j = mn j
      rw [r1 j hj]
      show mk' (40 * 7 + j) = mn j
      rw [q1, if_pos (by omega), Nat.add_sub_cancel_left]
    · show mf3 j = mf j
      rw [r2 j hj]
      show mG' (5 * 7 + j) = mf j
      rw [q2, if_pos (by omega), Nat.add_sub_cancel_left]
  · exact s7_isIn c_0 c_500 (fun a b => by omega) (fun _ => ⟨fun q => absurd rfl q, fun _ => ⟨rfl, hL⟩⟩)
def toS (n m : Nat) (vs vp vq vd vo : Nat → Int32) (t : Int32) : Nat → Nat → (Nat → Int32) × (Nat → UInt32) → Int32
  | 0, i, z => if z.1 0 = t then nI i else -5
  | k + 1, i, z => if z.1 0 = t then nI i else toS n m vs vp vq vd vo t k (i + 1) (secS n m vs vp vq vd vo z.1 z.2)
theorem to_s (n m : Nat) (vs vp vq vd vo : Nat → Int32) (t : Int32) (k i : Nat) (z : (Nat → Int32) × (Nat → UInt32)) : toS n m vs vp vq vd vo t (k + 1) i z = if z.1 0 = t then nI i else toS n m vs vp vq vd vo t k (i + 1) (secS n m vs vp vq vd vo z.1 z.2) := rfl
theorem to_0 (n m : Nat) (vs vp vq vd vo : Nat → Int32) (t : Int32) (i : Nat) (z : (Nat → Int32) × (Nat → UInt32)) : toS n m vs vp vq vd vo t 0 i z = if z.1 0 = t then nI i else -5 := rfl
theorem s6_toLoop {n m : Nat} {t : Int32} {vn : Nat → Int32} {vf : Nat → UInt32} {vs vp vq vd vo un us up uq ud uo : Nat → Int32} {uf : Nat → UInt32} (h : sI n m un uf us up uq ud uo) {K : Int32 → ((Nat → Int32) × (Nat → UInt32) × (Nat → Int32) × (Nat → Int32) × (Nat → Int32) × (Nat → Int32) × (Nat → Int32)) → Prop} (hK : ∀ wn wf, K (toS n m us up uq ud uo t 500 0 (un, uf)) (wn, wf, us, up, uq, ud, uo)) : ∃ k, lp (vX6_secondsTo_25F vn vf vs vp vq vd vo us up uq ud uo t K) k (un, uf, (0 : Int32)) := by
  refine lp_ex (fun z : (Nat → Int32) × (Nat → UInt32) × Int32 => ∃ i : Nat, i ≤ 500 ∧ z.2.2 = nI i ∧ sI n m z.1 z.2.1 us up uq ud uo ∧ toS n m us up uq ud uo t (500 - i) i (z.1, z.2.1) = toS n m us up uq ud uo t 500 0 (un, uf)) (fun z => 500 - z.2.2.toNatClampNeg) _ ⟨0, by omega, rfl, h, rfl⟩ ?_
  rintro B ⟨wn, wf, z⟩ ⟨i, hi, hz, hI, he⟩ hB
  dsimp only at hz hI he hB
  subst hz
  unfold vX6_secondsTo_25F vX6_secondsTo_25b
  dsimp only
  rw [show (500 : Int32) = nI 500 by rfl, nI_leI (by omega) (by omega)]
  refine ⟨fun h => ⟨fun h2 => ?_, fun h2 => ?_⟩, fun h => ⟨fun h2 => s4_second hI (hB _ ⟨i + 1, by omega, nI_1 i, sec_ok hI, ?_⟩ ?_), fun h2 => ?_⟩⟩
  · rw [show 500 - i = 0 by omega, to_0, if_neg h2] at he
    rw [← he] at hK
    exact hK _ _
  · rw [show 500 - i = 0 by omega, to_0, if_pos h2] at he
    rw [← he, show i = 500 by omega] at hK
    exact hK _ _
  · obtain ⟨k, hk⟩ : ∃ k, 500 - i = k + 1 := ⟨500 - i - 1, by omega⟩
    rw [hk, to_s, if_neg h2] at he
    rw [show 500 - (i + 1) = k by omega]
    exact he
  · dsimp only
    rw [nI_1, nI_cl (by omega), nI_cl (by omega)]
    omega
  · obtain ⟨k, hk⟩ : ∃ k, 500 - i = k + 1 := ⟨500 - i - 1, by omega⟩
    rw [hk, to_s, if_pos h2] at he
    rw [← he] at hK
    exact hK _ _
theorem s7_toLoop {n m : Nat} {t : Int32} {vn vs vp vq vd vo mn mk : Nat → Int32} {vf mf mG : Nat → UInt32} (h : sI n m vn vf vs vp vq vd vo) (hW : rW vn vf vs vp vq vd vo mn mf) {K : Int32 → ((Nat → Int32) × (Nat → UInt32) × (Nat → Int32) × (Nat → UInt32)) → Prop} (hK : ∀ mn' mf', (∀ j, j < 40 → mn' j = mk (40 * 7 + j)) → (∀ j, j < 5 → mf' j = mG (5 * 7 + j)) → K (toS n m vs vp vq vd vo t 500 0 (vn, vf)) (mn', mf', mk, mG)) : ∃ k, lp (vX7_secondsTo_20F mk mG t K) k (mn, mf, (0 : Int32)) := by
  refine lp_ex (fun z : (Nat → Int32) × (Nat → UInt32) × Int32 => ∃ i : Nat, i ≤ 501 ∧ z.2.2 = nI i ∧ ∃ (wn : Nat → Int32) (wf : Nat → UInt32), sI n m wn wf vs vp vq vd vo ∧ rW wn wf vs vp vq vd vo z.1 z.2.1 ∧ (i ≤ 500 ∧ toS n m vs vp vq vd vo t (500 - i) i (wn, wf) = toS n m vs vp vq vd vo t 500 0 (vn, vf) ∨ i = 501 ∧ toS n m vs vp vq vd vo t 500 0 (vn, vf) = -5)) (fun z => 502 - z.2.2.toNatClampNeg) _ ⟨0, by omega, rfl, vn, vf, h, hW, .inl ⟨by omega, rfl⟩⟩ ?_
  rintro B ⟨xn, xf, z⟩ ⟨i, hi, hz, wn, wf, hI, hX, he⟩ hB
  dsimp only at hz hX hB
  subst hz
  have e0 : xn 0 = wn 0 := hX.1.1 0 (by decide)
  unfold vX7_secondsTo_20F vX7_secondsTo_20b
  dsimp only
  have h47 : ∀ r : Int32, (i ≤ 500 → r = nI i) → (i = 501 → r = -5) → r = toS n m vs vp vq vd vo t 500 0 (vn, vf) → vX7_secondsTo_47 xn xf mk mG (nI i) K := by
    intro r r1 r2 r3
    unfold vX7_secondsTo_47
    rw [show (7 : Int32) = nI 7 by rfl]
    refine s7_brings (by omega) (fun mn' mf' q1 q2 => ?_)
    have hk := hK mn' mf' q1 q2
    rw [← r3] at hk
    rw [show (500 : Int32) = nI 500 by rfl, nI_leI (by omega) (by omega)]
    refine ⟨fun h => ?_, fun h => ?_⟩
    · rw [r1 h] at hk
      exact hk
    · rw [r2 (by omega)] at hk
      exact hk
  rw [e0, show (500 : Int32) = nI 500 by rfl, nI_ltI (by omega) (by omega)]
  refine ⟨fun h => ?_, fun h => ⟨fun h2 => ?_, fun h2 => ?_⟩⟩
  · rcases he with ⟨g, he⟩ | ⟨g, he⟩
    · refine h47 (nI i) (fun _ => rfl) (fun q => by omega) ?_
      rw [← he]
      rcases Nat.eq_zero_or_pos (500 - i) with q | q
      · rw [q, to_0, if_pos h]
      · obtain ⟨k, hk⟩ : ∃ k, 500 - i = k + 1 := ⟨500 - i - 1, by omega⟩
        rw [hk, to_s, if_pos h]
    · exact h47 (-5) (fun q => by omega) (fun _ => rfl) he.symm
  · rcases he with ⟨g, he⟩ | ⟨g, he⟩
    · omega
    · exact h47 (-5) (fun q => by omega) (fun _ => rfl) he.symm
  · rcases he with ⟨g, he⟩ | ⟨g, he⟩
    · refine s7_second hX hI (fun mn' mf' hX' => hB _ ⟨i + 1, by omega, nI_1 i, _, _, sec_ok hI, hX', ?_⟩ ?_)
      · rcases Nat.eq_zero_or_pos (500 - i) with q | q
        · rw [q, to_0, if_neg h] at he
          exact .inr ⟨by omega, he.symm⟩
        · obtain ⟨k, hk⟩ : ∃ k, 500 - i = k + 1 := ⟨500 - i - 1, by omega⟩
          rw [hk, to_s, if_neg h] at he
          left
          refine ⟨by omega, ?_⟩
          rw [show 500 - (i + 1) = k by omega]
          exact he
      · dsimp only
        rw [nI_1, nI_cl (by omega), nI_cl (by omega)]
        omega
    · omega
theorem h_op_25 : op_25 LIx := by
  intro vn vf vs vp vq vd vo un uf us up uq ud uo tm tx hc hh ss sv mn mf mk mG mv mt mm s1 hL
  have hL' := hL
  obtain ⟨hP, hQ, hS, hT⟩ := hL'
  unfold vX6_secondsTo vX7_secondsTo
  rw [i_lt, i_le, c_0, c_5]
  refine ⟨fun h => ?_, fun h => ⟨fun g => cf_ok _ _ _ _ _ _ _ _ _ _ _ _ _ _ _ hP.pre (fun u hu => ?_), fun g => ?_⟩⟩
  · exact s7_isIn c_0 c_5 (fun a b => by omega) (fun _ => ⟨fun q => absurd rfl q, fun _ => ⟨rfl, hL⟩⟩)
  · have hU := sI_u (n := 0) (m := 0) hP hu
    obtain ⟨n, m, hI, hW⟩ := hU
    refine s6_toLoop hI (fun wn wf => s7_isIn c_0 c_5 (fun a b => ⟨fun _ => ?_, fun q => absurd q (by decide)⟩) (fun q => by omega))
    rw [show (7 : Int32) = nI 7 by rfl]
    refine s7_keeps (by omega) (fun mk' mG' q1 q2 => s7_toLoop hI hW (fun mn3 mf3 r1 r2 => ⟨rfl, ?_⟩))
    obtain ⟨k1, k2⟩ := trial hQ hS q1 q2
    refine LIx_mk (PR_id hP (fun j hj => ?_) (fun j hj => ?_)) k1 k2 hT
    · show mn3 j = mn j
      rw [r1 j hj]
      show mk' (40 * 7 + j) = mn j
      rw [q1, if_pos (by omega), Nat.add_sub_cancel_left]
    · show mf3 j = mf j
      rw [r2 j hj]
      show mG' (5 * 7 + j) = mf j
      rw [q2, if_pos (by omega), Nat.add_sub_cancel_left]
  · exact s7_isIn c_0 c_5 (fun a b => by omega) (fun _ => ⟨fun q => absurd rfl q, fun _ => ⟨rfl, hL⟩⟩)
