/-! a point of the profile -/
def isF (f : Nat → Int32) (n i : Nat) (v : Int32) (k : Nat) : Int32 := if k = i then v else if i < k ∧ k ≤ n then f (k - 1) else f k
def ixP (vp : Nat → Int32) (n : Nat) (d : Int32) (i : Nat) : Prop := i ≤ n ∧ (∀ k, k < i → (vp k).toInt < d.toInt) ∧ (i < n → d.toInt ≤ (vp i).toInt)
theorem ix_uniq {vp : Nat → Int32} {n : Nat} {d : Int32} {i j : Nat} (h : ixP vp n d i) (g : ixP vp n d j) : i = j := by
  obtain ⟨h1, h2, h3⟩ := h
  obtain ⟨g1, g2, g3⟩ := g
  rcases Nat.lt_trichotomy i j with q | q | q
  · have := g2 i q
    have := h3 (by omega)
    omega
  · exact q
  · have := h2 j q
    have := g3 (by omega)
    omega
theorem s2_indexFor {n : Nat} {vn vp vq : Nat → Int32} (hp : pOk vn vp vq n) {d : Int32} {K : Int32 → Unit → Prop} (hK : ∀ i, ixP vp n d i → K (nI i) ()) : vX2_indexFor vn vp d K := by
  obtain ⟨h6, hn, -, -⟩ := hp
  unfold vX2_indexFor
  refine lp_ex (fun z : Int32 => ∃ i : Nat, i ≤ n ∧ z = nI i ∧ ∀ k, k < i → (vp k).toInt < d.toInt) (fun z => 7 - z.toNatClampNeg) _ ⟨0, by omega, rfl, fun k h => by omega⟩ ?_
  rintro B z ⟨i, hi, rfl, hk⟩ hB
  unfold vX2_indexFor_2F vX2_indexFor_2b
  rw [hn, nI_leI (by omega) (by omega), nI_cl (by omega), i_le]
  refine ⟨fun h => hK i ⟨hi, hk, fun q => by omega⟩, fun h => ⟨nI_in2 (by omega) (by omega), fun h2 => hK i ⟨hi, hk, fun _ => h2⟩, fun h2 => ?_⟩⟩
  refine hB _ ⟨i + 1, by omega, nI_1 i, fun k q => ?_⟩ ?_
  · rcases Nat.lt_or_ge k i with w | w
    · exact hk k w
    · obtain rfl : k = i := by omega
      omega
  · rw [nI_1, nI_cl (by omega), nI_cl (by omega)]
    omega
theorem s2_hasRoom {n : Nat} {vn vp vq : Nat → Int32} (hp : pOk vn vp vq n) {d : Int32} {K : Int32 → Unit → Prop} (h1 : ∀ i, ixP vp n d i → (n < 6 ∨ i < n ∧ vp i = d) → K 1 ()) (h0 : ∀ i, ixP vp n d i → ¬ (n < 6 ∨ i < n ∧ vp i = d) → K 0 ()) : vX2_hasRoomFor vn vp d K := by
  have h6 := hp.1
  unfold vX2_hasRoomFor vX2_hasRoomFor_33
  refine s2_indexFor hp (fun i hi => ?_)
  have hin := hi.1
  rw [hp.2.1, show (6 : Int32) = nI 6 by rfl, nI_ltI (by omega) (by omega), nI_leI (by omega) (by omega), nI_cl (by omega)]
  exact ⟨fun h => h1 i hi (.inl h), fun h => ⟨fun h2 => h0 i hi (fun q => by omega), fun h2 => ⟨nI_in2 (by omega) (by omega), fun h3 => h0 i hi (fun q => q.elim h (fun w => h3 w.2)), fun h3 => h1 i hi (.inr ⟨by omega, h3⟩)⟩⟩⟩
theorem s2_put {n : Nat} {vn vp vq : Nat → Int32} (hp : pOk vn vp vq n) {d s : Int32} {K : ((Nat → Int32) × (Nat → Int32) × (Nat → Int32)) → Prop} (h1 : ∀ i, ixP vp n d i → (i < n ∧ vp i = d) → K (vn, upd vp i d, upd vq i s)) (h0 : ∀ i, ixP vp n d i → ¬ (i < n ∧ vp i = d) → n < 6 ∧ ∀ vp' vq', (∀ k, vp' k = isF vp n i d k) → (∀ k, vq' k = isF vq n i s k) → K (upd vn 10 (nI (n + 1)), vp', vq')) : vX2_put vn vp vq d s K := by
  have h6 := hp.1
  have hn := hp.2.1
  unfold vX2_put
  refine s2_indexFor hp (fun i hi => ?_)
  have hin := hi.1
  have h24 : ¬ (i < n ∧ vp i = d) → vX2_put_24 vn vp vq d s (nI i) K := by
    intro hno
    obtain ⟨n6, hK⟩ := h0 i hi hno
    unfold vX2_put_24
    rw [hn]
    refine lp_ex (fun z : (Nat → Int32) × (Nat → Int32) × Int32 => ∃ c : Nat, i ≤ c ∧ c ≤ n ∧ z.2.2 = nI c ∧ (∀ k, z.1 k = if c < k ∧ k ≤ n then vp (k - 1) else vp k) ∧ ∀ k, z.2.1 k = if c < k ∧ k ≤ n then vq (k - 1) else vq k) (fun z => z.2.2.toNatClampNeg) _ ⟨n, hin, by omega, rfl, fun k => by rw [if_neg (by omega)], fun k => by rw [if_neg (by omega)]⟩ ?_
    rintro B ⟨wp, wq, z⟩ ⟨c, hc1, hc2, hz, hwp, hwq⟩ hB
    dsimp only at hz hwp hwq hB
    subst hz
    unfold vX2_put_30F vX2_put_30b vX2_put_84
    dsimp only
    rw [nI_leI (by omega) (by omega), nI_cl (by omega)]
    refine ⟨fun h => ?_, fun h => ?_⟩
    · obtain rfl : c = i := by omega
      refine ⟨nI_in2 (by omega) (by omega), nI_in2 (by omega) (by omega), ?_⟩
      rw [hn, nI_1]
      refine hK _ _ (fun k => ?_) (fun k => ?_)
      · show (if k = c then d else wp k) = isF vp n c d k
        unfold isF
        rw [hwp k]
      · show (if k = c then s else wq k) = isF vq n c s k
        unfold isF
        rw [hwq k]
    · rw [nI_m1 (by omega), nI_cl (by omega), nI_cl (by omega), nI_p1 (by omega)]
      refine ⟨nI_in2 (by omega) (by omega), nI_in2 (by omega) (by omega), nI_in2 (by omega) (by omega), nI_in2 (by omega) (by omega), hB _ ⟨c - 1, by omega, by omega, rfl, fun k => ?_, fun k => ?_⟩ ?_⟩
      · show (if k = c then wp (c - 1) else wp k) = _
        by_cases e : k = c
        · rw [if_pos e, if_pos (by omega), hwp, if_neg (by omega), e]
        · rw [if_neg e, hwp]
          by_cases e2 : c < k ∧ k ≤ n
          · rw [if_pos e2, if_pos (by omega)]
          · rw [if_neg e2, if_neg (by omega)]
      · show (if k = c then wq (c - 1) else wq k) = _
        by_cases e : k = c
        · rw [if_pos e, if_pos (by omega), hwq, if_neg (by omega), e]
        · rw [if_neg e, hwq]
          by_cases e2 : c < k ∧ k ≤ n
          · rw [if_pos e2, if_pos (by omega)]
          · rw [if_neg e2, if_neg (by omega)]
      · dsimp only
        rw [nI_cl (by omega), nI_cl (by omega)]
        omega
  rw [hn, nI_leI (by omega) (by omega), nI_cl (by omega)]
  refine ⟨fun h => h24 (fun q => by omega), fun h => ⟨nI_in2 (by omega) (by omega), fun h2 => ?_, fun h2 => h24 (fun q => h2 q.2)⟩⟩
  unfold vX2_put_84
  rw [nI_cl (by omega)]
  exact ⟨nI_in2 (by omega) (by omega), nI_in2 (by omega) (by omega), h1 i hi ⟨by omega, h2⟩⟩
theorem rN_pt {vn vs vp vq vd vo mn : Nat → Int32} (hR : rN vn vs vp vq vd vo mn) {i : Nat} (hi : i < 6) (d s : Int32) : rN vn vs (upd vp i d) (upd vq i s) vd vo (upd (upd mn (20 + 2 * i) d) (20 + 2 * i + 1) s) := by
  obtain ⟨r1, r2, r3, r4⟩ := hR
  refine ⟨fun j hj => ?_, fun j hj => ?_, fun j hj => ?_, fun j hj => ?_⟩
  · show (if j = 20 + 2 * i + 1 then s else if j = 20 + 2 * i then d else mn j) = vn j
    rw [if_neg (by omega), if_neg (by omega)]
    exact r1 j hj
  · show (if 12 + j = 20 + 2 * i + 1 then s else if 12 + j = 20 + 2 * i then d else mn (12 + j)) = vs j
    rw [if_neg (by omega), if_neg (by omega)]
    exact r2 j hj
  · show (if 20 + 2 * j = 20 + 2 * i + 1 then s else if 20 + 2 * j = 20 + 2 * i then d else mn (20 + 2 * j)) = (if j = i then d else vp j) ∧ (if 21 + 2 * j = 20 + 2 * i + 1 then s else if 21 + 2 * j = 20 + 2 * i then d else mn (21 + 2 * j)) = (if j = i then s else vq j)
    rw [if_neg (show ¬ 20 + 2 * j = 20 + 2 * i + 1 by omega), if_neg (show ¬ 21 + 2 * j = 20 + 2 * i by omega)]
    by_cases e : j = i
    · rw [if_pos e, if_pos e, if_pos (by omega), if_pos (by omega)]
      exact ⟨rfl, rfl⟩
    · rw [if_neg e, if_neg e, if_neg (by omega), if_neg (by omega)]
      exact r3 j hj
  · show (if 32 + 2 * j = 20 + 2 * i + 1 then s else if 32 + 2 * j = 20 + 2 * i then d else mn (32 + 2 * j)) = vd j ∧ (if 33 + 2 * j = 20 + 2 * i + 1 then s else if 33 + 2 * j = 20 + 2 * i then d else mn (33 + 2 * j)) = vo j
    rw [if_neg (by omega), if_neg (by omega), if_neg (by omega), if_neg (by omega)]
    exact r4 j hj
theorem rN_sh {vn vs vp vq vd vo mn w : Nat → Int32} (hR : rN vn vs vp vq vd vo mn) {n i : Nat} (hn : n < 6) (hi : i ≤ n) (hw : ∀ j, w j = if 22 + 2 * i ≤ j ∧ j < 22 + 2 * n then mn (j - 2) else mn j) : rN vn vs (fun k => if i < k ∧ k ≤ n then vp (k - 1) else vp k) (fun k => if i < k ∧ k ≤ n then vq (k - 1) else vq k) vd vo w := by
  obtain ⟨r1, r2, r3, r4⟩ := hR
  refine ⟨fun j hj => ?_, fun j hj => ?_, fun j hj => ?_, fun j hj => ?_⟩
  · rw [hw, if_neg (by omega)]
    exact r1 j hj
  · rw [hw, if_neg (by omega)]
    exact r2 j hj
  · rw [hw, hw]
    dsimp only
    by_cases e : i < j ∧ j ≤ n
    · rw [if_pos e, if_pos e, if_pos (by omega), if_pos (by omega), show 20 + 2 * j - 2 = 20 + 2 * (j - 1) by omega, show 21 + 2 * j - 2 = 21 + 2 * (j - 1) by omega]
      exact r3 (j - 1) (by omega)
    · rw [if_neg e, if_neg e, if_neg (by omega), if_neg (by omega)]
      exact r3 j hj
  · rw [hw, hw, if_neg (by omega), if_neg (by omega)]
    exact r4 j hj
theorem pOk_rep {n i : Nat} {vn vp vq : Nat → Int32} (hp : pOk vn vp vq n) {d s : Int32} (he : i < n ∧ vp i = d) (s1 : 1 ≤ s.toInt) (s2 : s.toInt ≤ 5000) : pOk vn (upd vp i d) (upd vq i s) n := by
  obtain ⟨h6, hn, hr, hs⟩ := hp
  have e : ∀ k, upd vp i d k = vp k := by
    intro k
    unfold upd
    split
    · rename_i q
      rw [q, he.2]
    · rfl
  refine ⟨h6, hn, fun k hk => ?_, fun k hk => ?_⟩
  · rw [e]
    show 0 ≤ (vp k).toInt ∧ (vp k).toInt ≤ 100000 ∧ 1 ≤ (if k = i then s else vq k).toInt ∧ (if k = i then s else vq k).toInt ≤ 5000
    obtain ⟨a, b, c, d⟩ := hr k hk
    split
    · exact ⟨a, b, s1, s2⟩
    · exact ⟨a, b, c, d⟩
  · rw [e, e]
    exact hs k hk
theorem pOk_ins {n i : Nat} {vn vp vq vp' vq' : Nat → Int32} (hp : pOk vn vp vq n) (hn6 : n < 6) {d s : Int32} (hi : ixP vp n d i) (he : ¬ (i < n ∧ vp i = d)) (d0 : 0 ≤ d.toInt) (d1 : d.toInt ≤ 100000) (s1 : 1 ≤ s.toInt) (s2 : s.toInt ≤ 5000) (e1 : ∀ k, vp' k = isF vp n i d k) (e2 : ∀ k, vq' k = isF vq n i s k) : pOk (upd vn 10 (nI (n + 1))) vp' vq' (n + 1) := by
  obtain ⟨h6, hn, hr, hs⟩ := hp
  obtain ⟨i1, i2, i3⟩ := hi
  have i4 : i < n → d.toInt < (vp i).toInt := by
    intro q
    have := i3 q
    rcases Int.lt_or_eq_of_le this with w | w
    · exact w
    · exact absurd ⟨q, (Int32.toInt_inj.mp w).symm⟩ he
  refine ⟨by omega, rfl, fun k hk => ?_, fun k hk => ?_⟩
  · rw [e1, e2]
    unfold isF
    split
    · exact ⟨d0, d1, s1, s2⟩
    · split
      · exact hr (k - 1) (by omega)
      · exact hr k (by omega)
  · rw [e1, e1]
    unfold isF
    rcases Nat.lt_trichotomy k i with q | q | q
    · rw [if_neg (by omega), if_neg (by omega)]
      by_cases w : k + 1 = i
      · rw [if_pos w]
        exact i2 k q
      · rw [if_neg w, if_neg (by omega)]
        exact hs k (by omega)
    · subst q
      rw [if_pos rfl, if_neg (by omega), if_pos (by omega), Nat.add_sub_cancel]
      exact i4 (by omega)
    · rw [if_neg (by omega), if_pos (by omega), if_neg (by omega), if_pos (by omega), Nat.add_sub_cancel]
      have := hs (k - 1) (by omega)
      rw [show k - 1 + 1 = k by omega] at this
      exact this
theorem s7_ptIndex {n : Nat} {vn vs vp vq vd vo mn : Nat → Int32} {mf : Nat → UInt32} {mk mm : Nat → Int32} {mG : Nat → UInt32} (hR : rN vn vs vp vq vd vo mn) (hp : pOk vn vp vq n) {d s : Int32} {K : Int32 → ((Nat → Int32) × (Nat → Int32) × (Nat → UInt32) × (Nat → Int32)) → Prop} (hK : ∀ i, ixP vp n d i → vX7_setPoint_52 mn mf mk mG mm d s (nI i) K) : ∃ k, lp (vX7_setPoint_26F mn mf mk mG mm d s K) k (0 : Int32) := by
  obtain ⟨h6, hn, -, -⟩ := hp
  refine lp_ex (fun z : Int32 => ∃ i : Nat, i ≤ n ∧ z = nI i ∧ ∀ k, k < i → (vp k).toInt < d.toInt) (fun z => 7 - z.toNatClampNeg) _ ⟨0, by omega, rfl, fun k h => by omega⟩ ?_
  rintro B z ⟨i, hi, rfl, hk⟩ hB
  unfold vX7_setPoint_26F vX7_setPoint_26b
  rw [hR.1 10 (by decide), hn, nI_leI (by omega) (by omega)]
  refine ⟨fun h => hK i ⟨hi, hk, fun q => by omega⟩, fun h => s7_distanceOf hR (by omega) ⟨fun h2 => hK i ⟨hi, hk, fun _ => (i_le _ _).mp h2⟩, fun h2 => ?_⟩⟩
  rw [i_le] at h2
  refine hB _ ⟨i + 1, by omega, nI_1 i, fun k q => ?_⟩ ?_
  · rcases Nat.lt_or_ge k i with w | w
    · exact hk k w
    · obtain rfl : k = i := by omega
      omega
  · rw [nI_1, nI_cl (by omega), nI_cl (by omega)]
    omega
theorem h_op_2 : op_2 LIx := by
  intro vn vf vs vp vq vd vo un uf us up uq ud uo tm tx hc hh ss sv mn mf mk mG mv mt mm s1 s2 hL
  have hL' := hL
  obtain ⟨hP, hQ, hS, hT⟩ := hL'
  have hP' := hP
  obtain ⟨n, m, ⟨hp, hs, ht, hf, ho⟩, hW⟩ := hP'
  have hR := hW.1
  have h6 := hp.1
  have hn := hp.2.1
  unfold vX6_setPoint vX7_setPoint
  rw [i_lt, i_lt, i_lt, i_le, c_0, c_1, c_100000, c_5000]
  refine ⟨fun h => ?_, fun h => ⟨fun g => ?_, fun g => ⟨fun g2 => ?_, fun g2 => ⟨fun g3 => ?_, fun g3 => ?_⟩⟩⟩⟩
  · exact s7_isIn c_0 c_100000 (fun a b => by omega) (fun _ => ⟨fun _ => ⟨rfl, hL⟩, fun q => absurd rfl q⟩)
  · exact s7_isIn c_0 c_100000 (fun a b => by omega) (fun _ => ⟨fun _ => ⟨rfl, hL⟩, fun q => absurd rfl q⟩)
  · exact s7_isIn c_0 c_100000 (fun a b => ⟨fun q => absurd q (by decide), fun _ => s7_isIn c_1 c_5000 (fun a b => by omega) (fun _ => ⟨fun q => absurd rfl q, fun _ => ⟨rfl, hL⟩⟩)⟩) (fun _ => ⟨fun _ => ⟨rfl, hL⟩, fun q => absurd rfl q⟩)
  · refine s2_hasRoom hp (fun i hi hroom => ⟨fun _ => ⟨hQ.kpre hP, s2_put hp (fun i1 hi1 he => ?_) (fun i1 hi1 he => ⟨?_, fun vp' vq' e1 e2 => ?_⟩)⟩, fun q => absurd q (by decide)⟩) (fun i hi hroom => ⟨fun q => absurd rfl q, fun _ => ?_⟩)
    · refine s7_isIn c_0 c_100000 (fun a b => ⟨fun q => absurd q (by decide), fun _ => s7_isIn c_1 c_5000 (fun a b => ⟨fun _ => s7_ptIndex hR hp (fun i2 hi2 => ?_), fun q => absurd q (by decide)⟩) (fun q => by omega)⟩) (fun q => by omega)
      have := ix_uniq hi2 hi1
      subst this
      unfold vX7_setPoint_52
      rw [hR.1 10 (by decide), hn, nI_leI (by omega) (by omega)]
      refine ⟨fun q => by omega, fun _ => s7_distanceOf hR (by omega) ⟨fun q => absurd he.2 q, fun _ => ?_⟩⟩
      unfold vX7_setPoint_77 vX7_setPoint_99
      refine ⟨fun _ => s7_rec hP hQ hS (fun mk' mG' mm' hQ' hS' hm' => ⟨fun _ => ?_, fun q => absurd q (by decide)⟩), fun q => absurd q (by decide)⟩
      unfold vX7_setPoint_168
      have i20 : (20 : Int32) + 2 * nI i2 = nI (20 + 2 * i2) := ix_2 20 i2
      rw [i20, nI_1, nI_cl (by omega), nI_cl (by omega)]
      have hR2 := rN_pt hR (show i2 < 6 by omega) s1 s2
      refine ⟨nI_in2 (by omega) (by omega), nI_in2 (by omega) (by omega), ?_, LIx_mk ⟨n, m, ⟨pOk_rep hp he (by omega) (by omega), hs, ht, hf, ho⟩, hR2, hW.2⟩ hQ' hS' (TR_cg hT hm')⟩
      exact (hR2.1 10 (by decide)).symm
    · have := ix_uniq hi1 hi
      subst this
      exact hroom.elim id (fun q => absurd q he)
    · have := ix_uniq hi1 hi
      subst this
      have n6 : n < 6 := hroom.elim id (fun q => absurd q he)
      have i1n := hi1.1
      refine s7_isIn c_0 c_100000 (fun a b => ⟨fun q => absurd q (by decide), fun _ => s7_isIn c_1 c_5000 (fun a b => ⟨fun _ => s7_ptIndex hR hp (fun i2 hi2 => ?_), fun q => absurd q (by decide)⟩) (fun q => by omega)⟩) (fun q => by omega)
      have := ix_uniq hi2 hi1
      subst this
      have h99 : ∀ K' : Int32 → ((Nat → Int32) × (Nat → Int32) × (Nat → UInt32) × (Nat → Int32)) → Prop, (∀ mk' mG' mm' w, KR (hck hc) (hhk hc hh (vn, vf, vs, vp, vq, vd, vo)) mk' mG' mm' → SR ss sv mk' mG' mv → mm' 1 = mm 1 → (∀ j, w j = if 22 + 2 * i2 ≤ j ∧ j < 22 + 2 * n then mn (j - 2) else mn j) → vX7_setPoint_168 (upd w 10 (w 10 + 1)) mf mk' mG' mm' s1 s2 (nI i2) K') → vX7_setPoint_77 mn mf mk mG mm s1 s2 (nI i2) 0 K' := by
        intro K' hK'
        unfold vX7_setPoint_77 vX7_setPoint_99
        rw [hR.1 10 (by decide), hn]
        refine ⟨fun q => absurd rfl q, fun _ => ⟨fun _ => s7_rec hP hQ hS (fun mk' mG' mm' hQ' hS' hm' => ⟨fun q => absurd rfl q, fun _ => ?_⟩), fun q => ?_⟩⟩
        · rw [show (2 : Int32) * nI n = nI (2 * n) from nI_mul 2 n]
          refine lp_ex (fun z : (Nat → Int32) × Int32 => ∃ c : Nat, 2 * i2 ≤ c ∧ c ≤ 2 * n ∧ z.2 = nI c - 1 ∧ ∀ j, z.1 j = if 22 + c ≤ j ∧ j < 22 + 2 * n then mn (j - 2) else mn j) (fun z => (z.2 + 1).toNatClampNeg) _ ⟨2 * n, by omega, by omega, rfl, fun j => by rw [if_neg (by omega)]⟩ ?_
          rintro B ⟨w, z⟩ ⟨c, hc1, hc2, hz, hw⟩ hB
          dsimp only at hz hw hB
          subst hz
          unfold vX7_setPoint_121F vX7_setPoint_121b
          dsimp only
          rw [show (2 : Int32) * nI i2 = nI (2 * i2) from nI_mul 2 i2]
          have hlt : (nI c - 1 < nI (2 * i2)) ↔ c = 2 * i2 := by
            rcases Nat.eq_zero_or_pos c with q | q
            · subst q
              obtain rfl : i2 = 0 := by omega
              exact ⟨fun _ => rfl, fun _ => by decide⟩
            · rw [nI_m1 q, nI_ltI (by omega) (by omega)]
              omega
          rw [hlt]
          refine ⟨fun q => ?_, fun q => ?_⟩
          · subst q
            exact hK' _ _ _ _ hQ' hS' hm' hw
          · obtain ⟨b, rfl⟩ : ∃ b, c = b + 1 := ⟨c - 1, by omega⟩
            rw [nI_m1 (by omega), Nat.add_sub_cancel, show (20 : Int32) + nI b = nI (20 + b) from nI_add 20 b, show nI (20 + b) + (2 : Int32) = nI (20 + b + 2) from nI_add (20 + b) 2, nI_cl (by omega), nI_cl (by omega)]
            refine ⟨nI_in2 (by omega) (by omega), nI_in2 (by omega) (by omega), hB _ ⟨b, by omega, by omega, i_m1 _, fun j => ?_⟩ ?_⟩
            · show (if j = 20 + b + 2 then w (20 + b) else w j) = _
              by_cases e : j = 20 + b + 2
              · rw [if_pos e, if_pos (by omega), hw, if_neg (by omega), e, Nat.add_sub_cancel]
              · rw [if_neg e, hw]
                by_cases e2 : 22 + (b + 1) ≤ j ∧ j < 22 + 2 * n
                · rw [if_pos e2, if_pos (by omega)]
                · rw [if_neg e2, if_neg (by omega)]
            · show (nI b + (-1 : Int32) + 1).toNatClampNeg < (nI (b + 1) - 1 + 1).toNatClampNeg
              rw [i_m1, Int32.sub_add_cancel, Int32.sub_add_cancel, nI_cl (by omega), nI_cl (by omega)]
              omega
        · have := (nI_eq (a := n) (b := 6) (by omega) (by omega)).mp q
          omega
      have h168 : ∀ mk' mG' mm' w, KR (hck hc) (hhk hc hh (vn, vf, vs, vp, vq, vd, vo)) mk' mG' mm' → SR ss sv mk' mG' mv → mm' 1 = mm 1 → (∀ j, w j = if 22 + 2 * i2 ≤ j ∧ j < 22 + 2 * n then mn (j - 2) else mn j) → vX7_setPoint_168 (upd w 10 (w 10 + 1)) mf mk' mG' mm' s1 s2 (nI i2) (fun q z => (upd vn 10 (nI (n + 1))) 10 = q ∧ LIx (upd vn 10 (nI (n + 1))) vf vs vp' vq' vd vo un uf us up uq ud uo tm tx (hck hc) (hhk hc hh (vn, vf, vs, vp, vq, vd, vo)) ss sv z.1 mf z.2.1 z.2.2.1 mv mt z.2.2.2) := by
        intro mk' mG' mm' w hQ' hS' hm' hw
        have hR1 := rN_sh hR n6 i1n hw
        have e10 : w 10 = nI n := (hR1.1 10 (by decide)).trans hn
        have hR2 := rN_pt (rN_un hR1 (show 10 < 12 by decide) (nI (n + 1))) (show i2 < 6 by omega) s1 s2
        have hpe : ∀ k, vp' k = (upd (fun k => if i2 < k ∧ k ≤ n then vp (k - 1) else vp k) i2 s1) k := fun k => e1 k
        have hqe : ∀ k, vq' k = (upd (fun k => if i2 < k ∧ k ≤ n then vq (k - 1) else vq k) i2 s2) k := fun k => e2 k
        have hvp := funext hpe
        have hvq := funext hqe
        rw [← hvp, ← hvq] at hR2
        unfold vX7_setPoint_168
        have i20 : (20 : Int32) + 2 * nI i2 = nI (20 + 2 * i2) := ix_2 20 i2
        rw [e10, i20, nI_1, nI_1, nI_cl (by omega), nI_cl (by omega)]
        refine ⟨nI_in2 (by omega) (by omega), nI_in2 (by omega) (by omega), (hR2.1 10 (by decide)).symm, LIx_mk ⟨n + 1, m, ⟨pOk_ins hp n6 hi2 he (by omega) (by omega) (by omega) (by omega) e1 e2, sOk_cg hs rfl, ht, hf, okN_cg ho rfl ho.1 rfl⟩, hR2, hW.2⟩ hQ' hS' (TR_cg hT hm')⟩
      unfold vX7_setPoint_52 vX7_setPoint_76
      rw [hR.1 10 (by decide), hn, nI_leI (by omega) (by omega)]
      refine ⟨fun _ => h99 _ h168, fun q => s7_distanceOf hR (by omega) ⟨fun _ => h99 _ h168, fun w => absurd ⟨by omega, w⟩ he⟩⟩
    · refine s7_isIn c_0 c_100000 (fun a b => ⟨fun q => absurd q (by decide), fun _ => s7_isIn c_1 c_5000 (fun a b => ⟨fun _ => s7_ptIndex hR hp (fun i2 hi2 => ?_), fun q => absurd q (by decide)⟩) (fun q => by omega)⟩) (fun q => by omega)
      have := ix_uniq hi2 hi
      subst this
      have en : n = 6 := by
        rcases Nat.lt_or_ge n 6 with q | q
        · exact absurd (.inl q) hroom
        · omega
      have h77 : vX7_setPoint_77 mn mf mk mG mm s1 s2 (nI i2) 0 (fun q z => -4 = q ∧ LIx vn vf vs vp vq vd vo un uf us up uq ud uo tm tx hc hh ss sv z.1 mf z.2.1 z.2.2.1 mv mt z.2.2.2) := by
        unfold vX7_setPoint_77
        rw [hR.1 10 (by decide), hn, en]
        exact ⟨fun q => absurd rfl q, fun _ => ⟨fun q => absurd rfl q, fun _ => ⟨rfl, hL⟩⟩⟩
      unfold vX7_setPoint_52 vX7_setPoint_76
      have hi2n := hi2.1
      rw [hR.1 10 (by decide), hn, nI_leI (by omega) (by omega)]
      exact ⟨fun _ => h77, fun q => s7_distanceOf hR (by omega) ⟨fun _ => h77, fun w => absurd (.inr ⟨by omega, w⟩) hroom⟩⟩
  · exact s7_isIn c_0 c_100000 (fun a b => ⟨fun q => absurd q (by decide), fun _ => s7_isIn c_1 c_5000 (fun a b => by omega) (fun _ => ⟨fun q => absurd rfl q, fun _ => ⟨rfl, hL⟩⟩)⟩) (fun _ => ⟨fun _ => ⟨rfl, hL⟩, fun q => absurd rfl q⟩)
