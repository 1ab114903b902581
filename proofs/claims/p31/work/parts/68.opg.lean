/-! a point of the profile -/
def isF (f : Nat → Int32) (n i : Nat) (v : Int32) (k : Nat) : Int32 := if k = i then v else if i < k ∧ k ≤ n then f (k - 1) else f k
def ixP (vp : Nat → Int32) (n : Nat) (d : Int32) (i : Nat) : Prop := i ≤ n ∧ (∀ k, k < i → (vp k).toInt < d.toInt) ∧ (i < n → d.toInt ≤ (vp i).toInt)
theorem ix_uniq {vp : Nat → Int32} {n : Nat} {d : Int32} {i j : Nat} (h : ixP vp n d i) (g : ixP vp n d j) : i = j := by
  obtain ⟨h1, h2, h3⟩ := h
  obtain ⟨g1, g2, g3⟩ := g
  rcases Nat.lt_trichotomy i j with q | q | q
  · have := g2 i q
    have := h3 (by omega)
    omega
  · exact q
  · have := h2 j q
    have := g3 (by omega)
    omega
theorem s2_indexFor {n : Nat} {vn vp vq : Nat → Int32} (hp : pOk vn vp vq n) {d : Int32} {K : Int32 → Unit → Prop} (hK : ∀ i, ixP vp n d i → K (nI i) ()) : vX2_indexFor vn vp d K := by
  obtain ⟨h6, hn, -, -⟩ := hp
  unfold vX2_indexFor
  refine lp_ex (fun z : Int32 => ∃ i : Nat, i ≤ n ∧ z = nI i ∧ ∀ k, k < i → (vp k).toInt < d.toInt) (fun z => 7 - z.toNatClampNeg) _ ⟨0, by omega, rfl, fun k h => by omega⟩ ?_
  rintro B z ⟨i, hi, rfl, hk⟩ hB
  unfold vX2_indexFor_2F vX2_indexFor_2b
  rw [hn, nI_leI (by omega) (by omega), nI_cl (by omega), i_le]
  refine ⟨fun h => hK i ⟨hi, hk, fun q => by omega⟩, fun h => ⟨nI_in2 (by omega) (by omega), fun h2 => hK i ⟨hi, hk, fun _ => h2⟩, fun h2 => ?_⟩⟩
  refine hB _ ⟨i + 1, by omega, nI_1 i, fun k q => ?_⟩ ?_
  · rcases Nat.lt_or_ge k i with w | w
    · exact hk k w
    · obtain rfl : k = i := by omega
      omega
  · rw [nI_1, nI_cl (by omega), nI_cl (by omega)]
    omega
theorem s2_hasRoom {n : Nat} {vn vp vq : Nat → Int32} (hp : pOk vn vp vq n) {d : Int32} {K : Int32 → Unit → Prop} (h1 : ∀ i, ixP vp n d i → (n < 6 ∨ i < n ∧ vp i = d) → K 1 ()) (h0 : ∀ i, ixP vp n d i → ¬ (n < 6 ∨ i < n ∧ vp i = d) → K 0 ()) : vX2_hasRoomFor vn vp d K := by
  have h6 := hp.1
  unfold vX2_hasRoomFor vX2_hasRoomFor_33
  refine s2_indexFor hp (fun i hi => ?_)
  have hin := hi.1
  rw [hp.2.1, show (6 : Int32) = nI 6 by rfl, nI_ltI (by omega) (by omega), nI_leI (by omega) (by omega), nI_cl (by omega)]
  exact ⟨fun h => h1 i hi (.inl h), fun h => ⟨fun h2 => h0 i hi (fun q => by omega), fun h2 => ⟨nI_in2 (by omega) (by omega), fun h3 => h0 i hi (fun q => q.elim h (fun w => h3 w.2)), fun h3 => h1 i hi (.inr ⟨by omega, h3⟩)⟩⟩⟩
theorem s2_put {n : Nat} {vn vp vq : Nat → Int32} (hp : pOk vn vp vq n) {d s : Int32} {K : ((Nat → Int32) × (Nat → Int32) × (Nat → Int32)) → Prop} (h1 : ∀ i, ixP vp n d i → (i < n ∧ vp i = d) → K (vn, upd vp i d, upd vq i s)) (h0 : ∀ i, ixP vp n d i → ¬ (i < n ∧ vp i = d) → n < 6 ∧ ∀ vp' vq', (∀ k, vp' k = isF vp n i d k) → (∀ k, vq' k = isF vq n i s k) → K (upd vn 10 (nI (n + 1)), vp', vq')) : vX2_put vn vp vq d s K := by
  have h6 := hp.1
  have hn := hp.2.1
  unfold vX2_put
  refine s2_indexFor hp (fun i hi => ?_)
  have hin := hi.1
  have h24 : ¬ (i < n ∧ vp i = d) → vX2_put_24 vn vp vq d s (nI i) K := by
    intro hno
    obtain ⟨n6, hK⟩ := h0 i hi hno
    unfold vX2_put_24
    rw [hn]
    refine lp_ex (fun z : (Nat → Int32) × (Nat → Int32) × Int32 => ∃ c : Nat, i ≤ c ∧ c ≤ n ∧ z.2.2 = nI c ∧ (∀ k, z.1 k = if c < k ∧ k ≤ n then vp (k - 1) else vp k) ∧ ∀ k, z.2.1 k = if c < k ∧ k ≤ n then vq (k - 1) else vq k) (fun z => z.2.2.toNatClampNeg) _ ⟨n, hin, by omega, rfl, fun k => by rw [if_neg (by omega)], fun k => by rw [if_neg (by omega)]⟩ ?_
    rintro B ⟨wp, wq, z⟩ ⟨c, hc1, hc2, hz, hwp, hwq⟩ hB
    dsimp only at hz hwp hwq hB
    subst hz
    unfold vX2_put_30F vX2_put_30b vX2_put_84
    dsimp only
    rw [nI_leI (by omega) (by omega), nI_cl (by omega)]
    refine ⟨fun h => ?_, fun h => ?_⟩
    · obtain rfl : c = i := by omega
      refine ⟨nI_in2 (by omega) (by omega), nI_in2 (by omega) (by omega), ?_⟩
      rw [hn, nI_1]
      refine hK _ _ (fun k => ?_) (fun k => ?_)
      · show (if k = c then d else wp k) = isF vp n c d k
        unfold isF
        rw [hwp k]
      · show (if k = c then s else wq k) = isF vq n c s k
        unfold isF
        rw [hwq k]
    · rw [nI_m1 (by omega), nI_cl (by omega), nI_cl (by omega), nI_p1 (by omega)]
      refine ⟨nI_in2 (by omega) (by omega), nI_in2 (by omega) (by omega), nI_in2 (by omega) (by omega), nI_in2 (by omega) (by omega), hB _ ⟨c - 1, by omega, by omega, rfl, fun k => ?_, fun k => ?_⟩ ?_⟩
      · show (if k = c then wp (c - 1) else wp k) = _
        by_cases e : k = c
        · rw [if_pos e, if_pos (by omega), hwp, if_neg (by omega), e]
        · rw [if_neg e, hwp]
          by_cases e2 : c < k ∧ k ≤ n
          · rw [if_pos e2, if_pos (by omega)]
          · rw [if_neg e2, if_neg (by omega)]
      · show (if k = c then wq (c - 1) else wq k) = _
        by_cases e : k = c
        · rw [if_pos e, if_pos (by omega), hwq, if_neg (by omega), e]
        · rw [if_neg e, hwq]
          by_cases e2 : c < k ∧ k ≤ n
          · rw [if_pos e2, if_pos (by omega)]
          · rw [if_neg e2, if_neg (by omega)]
      · dsimp only
        rw [nI_cl (by omega), nI_cl (by omega)]
        omega
  rw [hn, nI_leI (by omega) (by omega), nI_cl (by omega)]
  refine ⟨fun h => h24 (fun q => by omega), fun h => ⟨nI_in2 (by omega) (by omega), fun h2 => ?_, fun h2 => h24 (fun q => h2 q.2)⟩⟩
  unfold vX2_put_84
  rw [nI_cl (by omega)]
  exact ⟨nI_in2 (by omega) (by omega), nI_in2 (by omega) (by omega), h1 i hi ⟨by omega, h2⟩⟩
theorem pOk_rep {n i : Nat} {vn vp vq : Nat → Int32} (hp : pOk vn vp vq n) {d s : Int32} (he : i < n ∧ vp i = d) (s1 : 1 ≤ s.toInt) (s2 : s.toInt ≤ 5000) : pOk vn (upd vp i d) (upd vq i s) n := by
  obtain ⟨h6, hn, hr, hs⟩ := hp
  have e : ∀ k, upd vp i d k = vp k := by
    intro k
    unfold upd
    split
    · rename_i q
      rw [q, he.2]
    · rfl
  refine ⟨h6, hn, fun k hk => ?_, fun k hk => ?_⟩
  · rw [e]
    show 0 ≤ (vp k).toInt ∧ (vp k).toInt ≤ 100000 ∧ 1 ≤ (if k = i then s else vq k).toInt ∧ (if k = i then s else vq k).toInt ≤ 5000
    obtain ⟨a, b, c, d⟩ := hr k hk
    split
    · exact ⟨a, b, s1, s2⟩
    · exact ⟨a, b, c, d⟩
  · rw [e, e]
    exact hs k hk
theorem pOk_ins {n i : Nat} {vn vp vq vp' vq' : Nat → Int32} (hp : pOk vn vp vq n) (hn6 : n < 6) {d s : Int32} (hi : ixP vp n d i) (he : ¬ (i < n ∧ vp i = d)) (d0 : 0 ≤ d.toInt) (d1 : d.toInt ≤ 100000) (s1 : 1 ≤ s.toInt) (s2 : s.toInt ≤ 5000) (e1 : ∀ k, vp' k = isF vp n i d k) (e2 : ∀ k, vq' k = isF vq n i s k) : pOk (upd vn 10 (nI (n + 1))) vp' vq' (n + 1) := by
  obtain ⟨h6, hn, hr, hs⟩ := hp
  obtain ⟨i1, i2, i3⟩ := hi
  have i4 : i < n → d.toInt < (vp i).toInt := by
    intro q
    have := i3 q
    rcases Int.lt_or_eq_of_le this with w | w
    · exact w
    · exact absurd ⟨q, (Int32.toInt_inj.mp w).symm⟩ he
  refine ⟨by omega, rfl, fun k hk => ?_, fun k hk => ?_⟩
  · rw [e1, e2]
    unfold isF
    split
    · exact ⟨d0, d1, s1, s2⟩
    · split
      · exact hr (k - 1) (by omega)
      · exact hr k (by omega)
  · rw [e1, e1]
    unfold isF
    rcases Nat.lt_trichotomy k i with q | q | q
    · rw [if_neg (by omega), if_neg (by omega)]
      by_cases w : k + 1 = i
      · rw [if_pos w]
        exact i2 k q
      · rw [if_neg w, if_neg (by omega)]
        exact hs k (by omega)
    · subst q
      rw [if_pos rfl, if_neg (by omega), if_pos (by omega), Nat.add_sub_cancel]
      exact i4 (by omega)
    · rw [if_neg (by omega), if_pos (by omega), if_neg (by omega), if_pos (by omega), Nat.add_sub_cancel]
      have := hs (k - 1) (by omega)
      rw [show k - 1 + 1 = k by omega] at this
      exact this
