/-! the states that are kept, on both sides -/
def PR (vn : Nat → Int32) (vf : Nat → UInt32) (vs vp vq vd vo mn : Nat → Int32) (mf : Nat → UInt32) : Prop := ∃ n m, sI n m vn vf vs vp vq vd vo ∧ rW vn vf vs vp vq vd vo mn mf
def PRc (c : Cx) (mk : Nat → Int32) (mg : Nat → UInt32) (i : Nat) : Prop := PR c.1 c.2.1 c.2.2.1 c.2.2.2.1 c.2.2.2.2.1 c.2.2.2.2.2.1 c.2.2.2.2.2.2 (fun k => mk (40 * i + k)) (fun k => mg (5 * i + k))
theorem PR_cg {vn vn' : Nat → Int32} {vf vf' : Nat → UInt32} {vs vp vq vd vo mn vs' vp' vq' vd' vo' mn' : Nat → Int32} {mf mf' : Nat → UInt32} (h : PR vn vf vs vp vq vd vo mn mf) (e1 : ∀ j, j < 12 → vn' j = vn j) (e2 : ∀ j, j < 5 → vf' j = vf j) (e3 : ∀ j, j < 8 → vs' j = vs j) (e4 : ∀ j, j < 6 → vp' j = vp j ∧ vq' j = vq j) (e5 : ∀ j, j < 4 → vd' j = vd j ∧ vo' j = vo j) (e6 : ∀ j, j < 40 → mn' j = mn j) (e7 : ∀ j, j < 5 → mf' j = mf j) : PR vn' vf' vs' vp' vq' vd' vo' mn' mf' := by
  obtain ⟨n, m, ⟨⟨a1, a2, a3, a4⟩, ⟨b1, b2, b3, b4⟩, ⟨c1, c2, c3⟩, ⟨⟨d0, d1, d2, d3, d4⟩, z0, z1, z2, z3⟩, o1, o2, o3, o4⟩, ⟨r1, r2, r3, r4⟩, k, k4, hh⟩ := h
  have n0 := e1 0 (by decide)
  have n4 := e1 4 (by decide)
  have n5 := e1 5 (by decide)
  refine ⟨n, m, ⟨⟨a1, (e1 10 (by decide)).trans a2, fun i hi => ?_, fun i hi => ?_⟩, ⟨b1, (e1 11 (by decide)).trans b2, fun i hi => ?_, fun i hi => ?_⟩, ⟨fun j hj => ?_, ?_, ?_⟩, ?_, ?_⟩, ⟨fun j hj => ?_, fun j hj => ?_, fun j hj => ?_, fun j hj => ?_⟩, fun j hj => ?_, ?_, fun q => ?_⟩
  · rw [(e4 i (by omega)).1, (e4 i (by omega)).2]
    exact a3 i hi
  · rw [(e4 i (by omega)).1, (e4 (i + 1) (by omega)).1]
    exact a4 i hi
  · rw [(e5 i hi).2]
    exact b3 i hi
  · rw [(e5 i (by omega)).1]
    exact b4 i hi
  · rw [e3 j hj]
    exact c1 j hj
  · rw [e3 4 (by decide)]
    exact c2
  · rw [e3 5 (by decide)]
    exact c3
  · unfold fOk
    rw [e2 0 (by decide), e2 1 (by decide), e2 2 (by decide), e2 3 (by decide), e2 4 (by decide)]
    exact ⟨⟨d0, d1, d2, d3, d4⟩, z0, z1, z2, z3⟩
  · unfold okN hOk
    rw [n0, n4, n5]
    exact ⟨o1, o2, o3, o4⟩
  · rw [e6 j (by omega), e1 j hj]
    exact r1 j hj
  · rw [e6 (12 + j) (by omega), e3 j hj]
    exact r2 j hj
  · rw [e6 (20 + 2 * j) (by omega), e6 (21 + 2 * j) (by omega), (e4 j hj).1, (e4 j hj).2]
    exact r3 j hj
  · rw [e6 (32 + 2 * j) (by omega), e6 (33 + 2 * j) (by omega), (e5 j hj).1, (e5 j hj).2]
    exact r4 j hj
  · rw [e7 j (by omega), e2 j (by omega)]
    exact k j hj
  · rw [e7 4 (by decide)]
    exact k4
  · rw [n0] at q
    have := hh q
    rw [e2 4 (by decide), this]
    unfold mh
    rw [n5, e7 4 (by decide)]
    split
    · rfl
    · have := b1
      rcases o3 with w | ⟨j, hj, w⟩
      · rename_i w2
        exact absurd w w2
      · rw [w, nI_cl (by omega), (e5 j (by omega)).1]
theorem PR.pre {vn : Nat → Int32} {vf : Nat → UInt32} {vs vp vq vd vo mn : Nat → Int32} {mf : Nat → UInt32} (h : PR vn vf vs vp vq vd vo mn mf) : cpre vn vo := by
  obtain ⟨n, m, ⟨-, hs, -, -, ho⟩, -⟩ := h
  exact ⟨ho.1, hs.2.2.1⟩
def KR (hc : Nat → Int32) (hh : Nat → Sx) (mk : Nat → Int32) (mg : Nat → UInt32) (mm : Nat → Int32) : Prop := ∃ c, c ≤ 5 ∧ hc 0 = nI c ∧ mm 0 = nI c ∧ ∀ i, i < c → PRc (hh i).2 mk mg i
def SR (ss : Nat → Sx) (sv : Nat → Int32) (mk : Nat → Int32) (mg : Nat → UInt32) (mv : Nat → Int32) : Prop := ∀ k, k < 2 → sv k = mv k ∧ bz (sv k) ∧ (¬ sv k = 0 → PRc (ss k).2 mk mg (5 + k))
theorem PRc_cg {c : Cx} {mk mk' : Nat → Int32} {mg mg' : Nat → UInt32} {i j : Nat} (h : PRc c mk mg i) (e1 : ∀ k, k < 40 → mk' (40 * j + k) = mk (40 * i + k)) (e2 : ∀ k, k < 5 → mg' (5 * j + k) = mg (5 * i + k)) : PRc c mk' mg' j := PR_cg h (fun _ _ => rfl) (fun _ _ => rfl) (fun _ _ => rfl) (fun _ _ => ⟨rfl, rfl⟩) (fun _ _ => ⟨rfl, rfl⟩) e1 e2
/-! the model keeps -/
theorem ix_a (c j : Nat) : nI c * (40 : Int32) + nI j = nI (40 * c + j) := by
  rw [show (40 : Int32) = nI 40 by rfl, nI_mul, nI_add, Nat.mul_comm]
theorem ix_b (c j : Nat) : (5 : Int32) * nI c + nI j = nI (5 * c + j) := by
  rw [show (5 : Int32) = nI 5 by rfl, nI_mul, nI_add]
theorem nI_le0 {a j : Nat} (ha : a < 1000) (hj : j < 1000) : nI a ≤ nI j ↔ a ≤ j := nI_leI (by omega) (by omega)
theorem s7_keeps {mn mk : Nat → Int32} {mf mg : Nat → UInt32} {c : Nat} (hc : c < 8) {K : ((Nat → Int32) × (Nat → UInt32)) → Prop} (hK : ∀ mk' mg', (∀ k, mk' k = if 40 * c ≤ k ∧ k < 40 * c + 40 then mn (k - 40 * c) else mk k) → (∀ k, mg' k = if 5 * c ≤ k ∧ k < 5 * c + 5 then mf (k - 5 * c) else mg k) → K (mk', mg')) : vX7_keeps mn mf mk mg (nI c) K := by
  unfold vX7_keeps
  refine lp_ex (fun z : (Nat → Int32) × Int32 => ∃ j : Nat, j ≤ 40 ∧ z.2 = nI j ∧ ∀ k, z.1 k = if 40 * c ≤ k ∧ k < 40 * c + j then mn (k - 40 * c) else mk k) (fun z => 40 - z.2.toNatClampNeg) _ ⟨0, by omega, rfl, fun k => by rw [if_neg (by omega)]⟩ ?_
  rintro B ⟨wk, z⟩ ⟨j, hj, hz, hw⟩ hB
  dsimp only at hz hw hB
  subst hz
  unfold vX7_keeps_2F vX7_keeps_2b
  dsimp only
  rw [ix_a, nI_cl (by omega), nI_cl (by omega), show (40 : Int32) = nI 40 by rfl, nI_le0 (by omega) (by omega)]
  refine ⟨fun h => ?_, fun h => ⟨nI_in2 (by omega) (by omega), nI_in2 (by omega) (by omega), hB _ ⟨j + 1, by omega, nI_1 j, fun k => ?_⟩ ?_⟩⟩
  · obtain rfl : j = 40 := by omega
    refine lp_ex (fun z : (Nat → UInt32) × Int32 => ∃ j : Nat, j ≤ 5 ∧ z.2 = nI j ∧ ∀ k, z.1 k = if 5 * c ≤ k ∧ k < 5 * c + j then mf (k - 5 * c) else mg k) (fun z => 5 - z.2.toNatClampNeg) _ ⟨0, by omega, rfl, fun k => by rw [if_neg (by omega)]⟩ ?_
    rintro B2 ⟨wg, z⟩ ⟨j, hj, hz, hg⟩ hB2
    dsimp only at hz hg hB2
    subst hz
    unfold vX7_keeps_33F vX7_keeps_33b
    dsimp only
    rw [ix_b, nI_cl (by omega), nI_cl (by omega), show (5 : Int32) = nI 5 by rfl, nI_le0 (by omega) (by omega)]
    refine ⟨fun h => ?_, fun h => ⟨nI_in2 (by omega) (by omega), nI_in2 (by omega) (by omega), hB2 _ ⟨j + 1, by omega, nI_1 j, fun k => ?_⟩ ?_⟩⟩
    · obtain rfl : j = 5 := by omega
      exact hK _ _ hw hg
    · unfold vf_upd
      dsimp only
      by_cases e : k = 5 * c + j
      · rw [if_pos e, if_pos (by omega), e, Nat.add_sub_cancel_left]
      · rw [if_neg e, hg k]
        by_cases e2 : 5 * c ≤ k ∧ k < 5 * c + j
        · rw [if_pos e2, if_pos (by omega)]
        · rw [if_neg e2, if_neg (by omega)]
    · dsimp only
      rw [nI_1, nI_cl (by omega), nI_cl (by omega)]
      omega
  · unfold upd
    dsimp only
    by_cases e : k = 40 * c + j
    · rw [if_pos e, if_pos (by omega), e, Nat.add_sub_cancel_left]
    · rw [if_neg e, hw k]
      by_cases e2 : 40 * c ≤ k ∧ k < 40 * c + j
      · rw [if_pos e2, if_pos (by omega)]
      · rw [if_neg e2, if_neg (by omega)]
  · dsimp only
    rw [nI_1, nI_cl (by omega), nI_cl (by omega)]
    omega
theorem s7_brings {mn mk : Nat → Int32} {mf mg : Nat → UInt32} {c : Nat} (hc : c < 8) {K : ((Nat → Int32) × (Nat → UInt32)) → Prop} (hK : ∀ mn' mf', (∀ k, k < 40 → mn' k = mk (40 * c + k)) → (∀ k, k < 5 → mf' k = mg (5 * c + k)) → K (mn', mf')) : vX7_brings mn mf mk mg (nI c) K := by
  unfold vX7_brings
  refine lp_ex (fun z : (Nat → Int32) × Int32 => ∃ j : Nat, j ≤ 40 ∧ z.2 = nI j ∧ ∀ k, k < j → z.1 k = mk (40 * c + k)) (fun z => 40 - z.2.toNatClampNeg) _ ⟨0, by omega, rfl, fun k h => by omega⟩ ?_
  rintro B ⟨wk, z⟩ ⟨j, hj, hz, hw⟩ hB
  dsimp only at hz hw hB
  subst hz
  unfold vX7_brings_2F vX7_brings_2b
  dsimp only
  rw [ix_a, nI_cl (by omega), nI_cl (by omega), show (40 : Int32) = nI 40 by rfl, nI_le0 (by omega) (by omega)]
  refine ⟨fun h => ?_, fun h => ⟨nI_in2 (by omega) (by omega), nI_in2 (by omega) (by omega), hB _ ⟨j + 1, by omega, nI_1 j, fun k hk => ?_⟩ ?_⟩⟩
  · obtain rfl : j = 40 := by omega
    refine lp_ex (fun z : (Nat → UInt32) × Int32 => ∃ j : Nat, j ≤ 5 ∧ z.2 = nI j ∧ ∀ k, k < j → z.1 k = mg (5 * c + k)) (fun z => 5 - z.2.toNatClampNeg) _ ⟨0, by omega, rfl, fun k h => by omega⟩ ?_
    rintro B2 ⟨wg, z⟩ ⟨j, hj, hz, hg⟩ hB2
    dsimp only at hz hg hB2
    subst hz
    unfold vX7_brings_33F vX7_brings_33b
    dsimp only
    rw [ix_b, nI_cl (by omega), nI_cl (by omega), show (5 : Int32) = nI 5 by rfl, nI_le0 (by omega) (by omega)]
    refine ⟨fun h => ?_, fun h => ⟨nI_in2 (by omega) (by omega), nI_in2 (by omega) (by omega), hB2 _ ⟨j + 1, by omega, nI_1 j, fun k hk => ?_⟩ ?_⟩⟩
    · obtain rfl : j = 5 := by omega
      exact hK _ _ hw hg
    · unfold vf_upd
      dsimp only
      by_cases e : k = j
      · rw [if_pos e, e]
      · rw [if_neg e]
        exact hg k (by omega)
    · dsimp only
      rw [nI_1, nI_cl (by omega), nI_cl (by omega)]
      omega
  · unfold upd
    dsimp only
    by_cases e : k = j
    · rw [if_pos e, e]
    · rw [if_neg e]
      exact hw k (by omega)
  · dsimp only
    rw [nI_1, nI_cl (by omega), nI_cl (by omega)]
    omega
theorem hset_eq {hh : Nat → Sx} {c : Nat} {x : Cx} : (hset hh c x c).2 = x := by
  unfold hset
  rw [if_pos rfl]
theorem hset_ne {hh : Nat → Sx} {c i : Nat} {x : Cx} (h : ¬ i = c) : hset hh c x i = hh i := by
  unfold hset
  rw [if_neg h]
/-- what is kept is kept on both sides -/
theorem s7_rec {vn : Nat → Int32} {vf : Nat → UInt32} {vs vp vq vd vo mn : Nat → Int32} {mf : Nat → UInt32} {hc : Nat → Int32} {hh ss : Nat → Sx} {sv mk mm mv : Nat → Int32} {mg : Nat → UInt32} (hP : PR vn vf vs vp vq vd vo mn mf) (hQ : KR hc hh mk mg mm) (hS : SR ss sv mk mg mv) {K : ((Nat → Int32) × (Nat → UInt32) × (Nat → Int32)) → Prop} (hK : ∀ mk' mg' mm', KR (hck hc) (hhk hc hh (vn, vf, vs, vp, vq, vd, vo)) mk' mg' mm' → SR ss sv mk' mg' mv → mm' 1 = mm 1 → K (mk', mg', mm')) : vX7_records mn mf mk mg mm K := by
  obtain ⟨c, h5, e1, e2, hr⟩ := hQ
  unfold vX7_records
  rw [e2]
  have h76 : ∀ (d : Nat) (wk : Nat → Int32) (wg : Nat → UInt32) (wm : Nat → Int32), d ≤ 4 → wm 0 = nI d → wm 1 = mm 1 → (hck hc) 0 = nI (d + 1) → (∀ i, i < d → PRc ((hhk hc hh (vn, vf, vs, vp, vq, vd, vo)) i).2 wk wg i) → ((hhk hc hh (vn, vf, vs, vp, vq, vd, vo)) d).2 = (vn, vf, vs, vp, vq, vd, vo) → SR ss sv wk wg mv → vX7_records_76 mn mf wk wg wm K := by
    intro d wk wg wm hd hm0 hm1 hck hrow hlast hsl
    unfold vX7_records_76
    rw [hm0]
    refine s7_keeps (by omega) (fun mk' mg' q1 q2 => hK _ _ _ ⟨d + 1, by omega, hck, ?_, fun i hi => ?_⟩ (fun k hk => ?_) hm1)
    · show nI d + 1 = nI (d + 1)
      exact nI_1 d
    · by_cases e : i = d
      · subst e
        rw [hlast]
        refine PR_cg hP (fun _ _ => rfl) (fun _ _ => rfl) (fun _ _ => rfl) (fun _ _ => ⟨rfl, rfl⟩) (fun _ _ => ⟨rfl, rfl⟩) (fun k hk => ?_) (fun k hk => ?_)
        · dsimp only
          rw [q1, if_pos (by omega), Nat.add_sub_cancel_left]
        · dsimp only
          rw [q2, if_pos (by omega), Nat.add_sub_cancel_left]
      · refine PRc_cg (hrow i (by omega)) (fun k hk => ?_) (fun k hk => ?_)
        · dsimp only
          rw [q1, if_neg (by omega)]
        · dsimp only
          rw [q2, if_neg (by omega)]
    · obtain ⟨a1, a2, a3⟩ := hsl k hk
      refine ⟨a1, a2, fun q => PRc_cg (a3 q) (fun k hk => ?_) (fun k hk => ?_)⟩
      · dsimp only
        rw [q1, if_neg (by omega)]
      · dsimp only
        rw [q2, if_neg (by omega)]
  refine ⟨fun h => ?_, fun h => ?_⟩
  · have hc4 : c ≤ 4 := by
      rcases Nat.lt_or_ge 4 c with q | q
      · obtain rfl : c = 5 := by omega
        exact absurd rfl h
      · exact q
    have hl : hc 0 < 5 := by
      rw [e1, show (5 : Int32) = nI 5 by rfl, nI_ltI (by omega) (by omega)]
      omega
    refine h76 c mk mg mm hc4 e2 rfl ?_ ?_ ?_ hS
    · unfold hck
      rw [if_pos hl, e1]
      exact nI_1 c
    · intro i hi
      unfold hhk
      rw [if_pos hl, e1, nI_cl (by omega), hset_ne (by omega)]
      exact hr i hi
    · unfold hhk
      rw [if_pos hl, e1, nI_cl (by omega), hset_eq]
  · have hc5 : c = 5 := (nI_eq (by omega) (by omega)).mp h
    subst hc5
    have hl : ¬ hc 0 < 5 := by
      rw [e1, show (5 : Int32) = nI 5 by rfl, nI_ltI (by omega) (by omega)]
      omega
    refine lp_ex (fun z : (Nat → Int32) × Int32 => ∃ j : Nat, j ≤ 160 ∧ z.2 = nI j ∧ ∀ k, z.1 k = if k < j then mk (k + 40) else mk k) (fun z => 160 - z.2.toNatClampNeg) _ ⟨0, by omega, rfl, fun k => by rw [if_neg (by omega)]⟩ ?_
    rintro B ⟨wk, z⟩ ⟨j, hj, hz, hw⟩ hB
    dsimp only at hz hw hB
    subst hz
    unfold vX7_records_10F vX7_records_10b
    dsimp only
    rw [show (40 : Int32) = nI 40 by rfl, nI_add, nI_cl (by omega), nI_cl (by omega), show (160 : Int32) = nI 160 by rfl, nI_le0 (by omega) (by omega)]
    refine ⟨fun h => ?_, fun h => ⟨nI_in2 (by omega) (by omega), nI_in2 (by omega) (by omega), hB _ ⟨j + 1, by omega, nI_1 j, fun k => ?_⟩ ?_⟩⟩
    · obtain rfl : j = 160 := by omega
      refine lp_ex (fun z : (Nat → UInt32) × Int32 => ∃ j : Nat, j ≤ 20 ∧ z.2 = nI j ∧ ∀ k, z.1 k = if k < j then mg (k + 5) else mg k) (fun z => 20 - z.2.toNatClampNeg) _ ⟨0, by omega, rfl, fun k => by rw [if_neg (by omega)]⟩ ?_
      rintro B2 ⟨wg, z⟩ ⟨j, hj, hz, hg⟩ hB2
      dsimp only at hz hg hB2
      subst hz
      unfold vX7_records_40F vX7_records_40b
      dsimp only
      rw [show (5 : Int32) = nI 5 by rfl, nI_add, nI_cl (by omega), nI_cl (by omega), show (20 : Int32) = nI 20 by rfl, nI_le0 (by omega) (by omega)]
      refine ⟨fun h => ?_, fun h => ⟨nI_in2 (by omega) (by omega), nI_in2 (by omega) (by omega), hB2 _ ⟨j + 1, by omega, nI_1 j, fun k => ?_⟩ ?_⟩⟩
      · obtain rfl : j = 20 := by omega
        refine h76 4 wk wg _ (by omega) ?_ rfl ?_ ?_ ?_ ?_
        · show mm 0 - 1 = nI 4
          rw [e2, nI_m1 (by omega)]
        · unfold hck
          rw [if_neg hl]
          rfl
        · intro i hi
          unfold hhk
          rw [if_neg hl, hset_ne (by omega)]
          unfold hrot
          rw [if_neg (by omega)]
          refine PRc_cg (hr (i + 1) (by omega)) (fun k hk => ?_) (fun k hk => ?_)
          · rw [hw, if_pos (by omega), show 40 * i + k + 40 = 40 * (i + 1) + k by omega]
          · rw [hg, if_pos (by omega), show 5 * i + k + 5 = 5 * (i + 1) + k by omega]
        · unfold hhk
          rw [if_neg hl, hset_eq]
        · intro k hk
          obtain ⟨a1, a2, a3⟩ := hS k hk
          refine ⟨a1, a2, fun q => PRc_cg (a3 q) (fun k hk => ?_) (fun k hk => ?_)⟩
          · rw [hw, if_neg (by omega)]
          · rw [hg, if_neg (by omega)]
      · unfold vf_upd
        dsimp only
        by_cases e : k = j
        · rw [if_pos e, if_pos (by omega), hg (j + 5), if_neg (by omega), e]
        · rw [if_neg e, hg k]
          by_cases e2 : k < j
          · rw [if_pos e2, if_pos (by omega)]
          · rw [if_neg e2, if_neg (by omega)]
      · dsimp only
        rw [nI_1, nI_cl (by omega), nI_cl (by omega)]
        omega
    · unfold upd
      dsimp only
      by_cases e : k = j
      · rw [if_pos e, if_pos (by omega), hw (j + 40), if_neg (by omega), e]
      · rw [if_neg e, hw k]
        by_cases e2 : k < j
        · rw [if_pos e2, if_pos (by omega)]
        · rw [if_neg e2, if_neg (by omega)]
    · dsimp only
      rw [nI_1, nI_cl (by omega), nI_cl (by omega)]
      omega
theorem KR.kpre {vn : Nat → Int32} {vf : Nat → UInt32} {vs vp vq vd vo mn : Nat → Int32} {mf : Nat → UInt32} {hc : Nat → Int32} {hh : Nat → Sx} {mk mm : Nat → Int32} {mg : Nat → UInt32} (hQ : KR hc hh mk mg mm) (hP : PR vn vf vs vp vq vd vo mn mf) : kpre vn vo hc := by
  obtain ⟨c, h5, e1, -, -⟩ := hQ
  refine ⟨hP.pre, fun h => ?_⟩
  rw [e1] at h ⊢
  rw [show (5 : Int32) = nI 5 by rfl, nI_ltI (by omega) (by omega)] at h
  exact nI_in2 h (by omega)
