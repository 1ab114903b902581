/-! undone, saved -/
theorem upv_in {p : Int32} {d : Nat} (h0 : 0 < d) (hd : d < 100000) : ∃ k, k < d ∧ upv p (nI d) = nI k := by
  have hb : ∃ a : Nat, a < 2 ^ 31 ∧ p &&& (2147483647 : Int32) = nI a := by
    refine ⟨(p &&& (2147483647 : Int32)).toBitVec.toNat, ?_, ?_⟩
    · show (p.toBitVec &&& 2147483647#32).toNat < _
      rw [BitVec.toNat_and]
      exact Nat.lt_of_le_of_lt Nat.and_le_right (by decide)
    · apply Int32.toBitVec_inj.mp
      apply BitVec.eq_of_toNat_eq
      show _ = (BitVec.ofNat 32 _).toNat
      rw [BitVec.toNat_ofNat, Nat.mod_eq_of_lt (BitVec.isLt _)]
  obtain ⟨a, ha, e⟩ := hb
  refine ⟨a % d, Nat.mod_lt _ h0, ?_⟩
  unfold upv
  rw [e]
  exact pk_rem ha h0 (by omega)
theorem and1 (b : Int32) : ∃ j : Nat, j < 2 ∧ b &&& 1 = nI j := by
  refine ⟨(b &&& (1 : Int32)).toBitVec.toNat, ?_, ?_⟩
  · show (b.toBitVec &&& 1#32).toNat < 2
    rw [BitVec.toNat_and]
    exact Nat.lt_of_le_of_lt Nat.and_le_right (by decide)
  · apply Int32.toBitVec_inj.mp
    apply BitVec.eq_of_toNat_eq
    show _ = (BitVec.ofNat 32 _).toNat
    rw [BitVec.toNat_ofNat, Nat.mod_eq_of_lt (BitVec.isLt _)]
theorem Jc.total {c : Cx} (h : Jc c) : ∃ m, ∀ {tm hc : Nat → Int32} {p : Int32} {K : Int32 → Unit → Prop}, K (toA m c.1 c.2.1 c.2.2.1 c.2.2.2.2.2.1 c.2.2.2.2.2.2 tm hc p) () → vX6_total c.1 c.2.1 c.2.2.1 c.2.2.2.2.2.1 c.2.2.2.2.2.2 tm hc p K := by
  obtain ⟨n, m, hI, -⟩ := h
  exact ⟨m, fun hK => s6_total hI.2.1 (hI.2.2.2.1.1.1.mg.mono (by decide)) hK⟩
theorem Jc.view {c : Cx} (h : Jc c) {tm hc : Nat → Int32} {K : Int64 → Unit → Prop} (hK : K (vwC c) ()) : vL_view c.1 c.2.1 c.2.2.1 c.2.2.2.1 c.2.2.2.2.1 c.2.2.2.2.2.1 c.2.2.2.2.2.2 tm hc K := by
  obtain ⟨n, m, hI, -⟩ := h
  exact s_view hI hK
theorem Hx.popd {hc : Nat → Int32} {hh : Nat → Sx} {c : Cx} {k : Nat} (hH : Hx (hck hc) (hhk hc hh c)) (e : hc 0 = nI k) (hk : k ≤ 5) : Hx (upd (hck hc) 0 (nI (min k 4))) (hhk hc hh c) := by
  obtain ⟨k2, h2, e2, hr⟩ := hH
  rw [hck_0 e hk] at e2
  have : min k 4 + 1 = k2 := (nI_eq (by omega) (by omega)).mp e2
  exact ⟨min k 4, by omega, rfl, fun i hi => hr i (by omega)⟩
theorem s_isUndone {c c' : Cx} (hJ : Jc c) (hJ' : Jc c') {ss : Nat → Sx} {sv tm hc : Nat → Int32} {hh : Nat → Sx} (hH : Hx hc hh) {w a b r : Int32} (ht : ∀ hc hh K, Hx hc hh → K r (u9 c' (hck hc) (hhk hc hh c)) → vL_turn c.1 c.2.1 c.2.2.1 c.2.2.2.1 c.2.2.2.2.1 c.2.2.2.2.2.1 c.2.2.2.2.2.2 hc hh ss sv w a b K) {K : Int32 → U9 → Prop} (hK : ∀ hc2 hh2, Hx hc2 hh2 → hc2 0 = hck hc 0 → K 1 (u9 c' hc2 hh2)) :
    vL_isUndone c'.1 c'.2.1 c'.2.2.1 c'.2.2.2.1 c'.2.2.2.2.1 c'.2.2.2.2.2.1 c'.2.2.2.2.2.2 tm (hck hc) (hhk hc hh c) ss sv w a b r (vwC c) K := by
  have hH1 := hH.keep hJ
  obtain ⟨k, hk, e, -⟩ := id hH
  obtain ⟨m', T'⟩ := hJ'.total
  have e1 := hck_0 e hk
  have hH2 := hH1.popd e hk
  unfold vL_isUndone
  refine T' ?_
  rw [toA_9]
  refine s6_undo (c := c) e1 (by omega) (hhk_at e hk).1 hJ ⟨fun q => absurd ?_ q, fun _ => hJ.view ⟨fun q => absurd (cmp_self _) q, fun _ => ht _ _ _ hH2 ⟨fun q => absurd rfl q, fun _ => T' ?_⟩⟩⟩
  · rw [e1]
    exact (nI_m1 (j := min k 4 + 1) (by omega)).symm
  · have e2 : hck (upd (hck hc) 0 (nI (min k 4))) 0 = hck hc 0 := by
      rw [hck_0 (k := min k 4) rfl (by omega), e1, show min (min k 4) 4 = min k 4 by omega]
    rw [toA_9]
    exact ⟨fun q => absurd e2 q, fun _ => hK _ _ (hH2.keep hJ) e2⟩
theorem nI2 {j : Nat} (hj : j < 2) : 0 ≤ (nI j).toInt ∧ (nI j).toInt < 2 := by
  rw [i_nI (by omega)]
  omega
theorem c_2 : (2 : Int32).toInt = 2 := by decide
theorem s6_save {c : Cx} (hJ : Jc c) {ss : Nat → Sx} {sv : Nat → Int32} {j : Nat} (hj : j < 2) {K : Int32 → ((Nat → Sx) × (Nat → Int32)) → Prop} (hK : K (c.1 0) (hset ss j c, upd sv j 1)) : vX6_save c.1 c.2.1 c.2.2.1 c.2.2.2.1 c.2.2.2.2.1 c.2.2.2.2.2.1 c.2.2.2.2.2.2 ss sv (nI j) K := by
  have := nI2 hj
  unfold vX6_save
  rw [i_lt, i_lt, c_0, c_2, nI_cl (by omega), nar_1]
  exact ⟨fun q => by omega, fun _ => ⟨fun _ => ⟨nI_in2 hj (by omega), hJ.cp, nI_in2 hj (by omega), hK⟩, fun q => by omega⟩⟩
theorem Sl.save {ss : Nat → Sx} {sv : Nat → Int32} (hS : Sl ss sv) {c : Cx} (hJ : Jc c) (j : Nat) : Sl (hset ss j c) (upd sv j 1) := by
  intro k hk
  by_cases e : k = j
  · subst e
    refine ⟨.inr ?_, fun _ => ?_⟩
    · show (if k = k then (1 : Int32) else sv k) = 1
      rw [if_pos rfl]
    · rw [hset_eq]
      exact hJ
  · rw [hset_ne e]
    have e2 : upd sv j 1 k = sv k := if_neg e
    rw [e2]
    exact hS k hk
theorem s6_restore {c d : Cx} (hJ : Jc c) (hd : Jc d) {ss : Nat → Sx} {sv hc : Nat → Int32} {hh : Nat → Sx} (hH : Hx hc hh) {j : Nat} (hj : j < 2) (h1 : sv j = 1) (h2 : (ss j).2 = d) {K : Int32 → U9 → Prop} (hK : K (d.1 0) (u9 d (hck hc) (hhk hc hh c))) : vX6_restore c.1 c.2.1 c.2.2.1 c.2.2.2.1 c.2.2.2.2.1 c.2.2.2.2.2.1 c.2.2.2.2.2.2 hc hh ss sv (nI j) K := by
  have := nI2 hj
  unfold vX6_restore
  rw [i_lt, i_lt, c_0, c_2, nI_cl (by omega), h1, h2]
  exact ⟨fun q => by omega, fun _ => ⟨fun _ => ⟨nI_in2 hj (by omega), fun _ => ⟨hH.kp hJ, nI_in2 hj (by omega), hd.cp, hK⟩, fun q => absurd q (by decide)⟩, fun q => by omega⟩⟩
abbrev u11 (c : Cx) (hc : Nat → Int32) (hh ss : Nat → Sx) (sv : Nat → Int32) : (Nat → Int32) × (Nat → UInt32) × (Nat → Int32) × (Nat → Int32) × (Nat → Int32) × (Nat → Int32) × (Nat → Int32) × (Nat → Int32) × (Nat → Sx) × (Nat → Sx) × (Nat → Int32) := (c.1, c.2.1, c.2.2.1, c.2.2.2.1, c.2.2.2.2.1, c.2.2.2.2.2.1, c.2.2.2.2.2.2, hc, hh, ss, sv)
theorem s_isSaved {c : Cx} (hJ : Jc c) {ss : Nat → Sx} {sv tm hc : Nat → Int32} {hh : Nat → Sx} (hH : Hx hc hh) (hS : Sl ss sv) (p1 p2 : Int32) {K : Int32 → ((Nat → Int32) × (Nat → UInt32) × (Nat → Int32) × (Nat → Int32) × (Nat → Int32) × (Nat → Int32) × (Nat → Int32) × (Nat → Int32) × (Nat → Sx) × (Nat → Sx) × (Nat → Int32)) → Prop} (hK : ∀ hc2 hh2 ss2 sv2, Hx hc2 hh2 → Sl ss2 sv2 → K 1 (u11 c hc2 hh2 ss2 sv2)) :
    vL_isSaved c.1 c.2.1 c.2.2.1 c.2.2.2.1 c.2.2.2.2.1 c.2.2.2.2.2.1 c.2.2.2.2.2.2 tm hc hh ss sv p1 p2 K := by
  obtain ⟨m, T⟩ := hJ.total
  obtain ⟨j, hj, ej⟩ := and1 p1
  have hS2 := hS.save hJ j
  have s1 : upd sv j 1 j = 1 := if_pos rfl
  obtain ⟨w, hw, ew⟩ := upv_in (p := p2) (d := 15) (by decide) (by decide)
  have ew : upv p2 15 = nI w := ew
  have fin : ∀ (d : Cx) (hc3 : Nat → Int32) (hh3 : Nat → Sx), Jc d → Hx hc3 hh3 → vX6_restore d.1 d.2.1 d.2.2.1 d.2.2.2.1 d.2.2.2.2.1 d.2.2.2.2.2.1 d.2.2.2.2.2.2 hc3 hh3 (hset ss j c) (upd sv j 1) (nI j) (fun r_58 u_58 => vX6_total u_58.1 u_58.2.1 u_58.2.2.1 u_58.2.2.2.2.2.1 u_58.2.2.2.2.2.2.1 tm u_58.2.2.2.2.2.2.2.1 (0 : Int32) (fun r_63 u_63 => (¬ r_58 = r_63 → K (0 : Int32) (u_58.1, u_58.2.1, u_58.2.2.1, u_58.2.2.2.1, u_58.2.2.2.2.1, u_58.2.2.2.2.2.1, u_58.2.2.2.2.2.2.1, u_58.2.2.2.2.2.2.2.1, u_58.2.2.2.2.2.2.2.2, hset ss j c, upd sv j 1)) ∧ (r_58 = r_63 → vL_view u_58.1 u_58.2.1 u_58.2.2.1 u_58.2.2.2.1 u_58.2.2.2.2.1 u_58.2.2.2.2.2.1 u_58.2.2.2.2.2.2.1 tm u_58.2.2.2.2.2.2.2.1 (fun r_70 u_70 => (¬ (lg_cmp r_70 (vwC c)) = (0 : Int32) → K (0 : Int32) (u_58.1, u_58.2.1, u_58.2.2.1, u_58.2.2.2.1, u_58.2.2.2.2.1, u_58.2.2.2.2.2.1, u_58.2.2.2.2.2.2.1, u_58.2.2.2.2.2.2.2.1, u_58.2.2.2.2.2.2.2.2, hset ss j c, upd sv j 1)) ∧ ((lg_cmp r_70 (vwC c)) = (0 : Int32) → K (1 : Int32) (u_58.1, u_58.2.1, u_58.2.2.1, u_58.2.2.2.1, u_58.2.2.2.2.1, u_58.2.2.2.2.2.1, u_58.2.2.2.2.2.2.1, u_58.2.2.2.2.2.2.2.1, u_58.2.2.2.2.2.2.2.2, hset ss j c, upd sv j 1)))))) := by
    intro d hc3 hh3 hd hH3
    refine s6_restore hd hJ hH3 hj s1 hset_eq (T ?_)
    rw [toA_0]
    exact ⟨fun q => absurd rfl q, fun _ => hJ.view ⟨fun q => absurd (cmp_self _) q, fun _ => hK _ _ _ _ (hH3.keep hd) hS2⟩⟩
  unfold vL_isSaved
  rw [ej]
  refine hJ.view (T ?_)
  rw [toA_9]
  refine s6_save hJ hj (T ?_)
  rw [toA_0]
  refine ⟨fun q => absurd rfl q, fun _ => T ?_⟩
  rw [toA_9]
  refine ⟨fun _ => s_up (by decide) ?_, fun q => absurd rfl q⟩
  rcases ts_turn (vn := c.1) (vf := c.2.1) (vs := c.2.2.1) (vp := c.2.2.2.1) (vq := c.2.2.2.2.1) (vd := c.2.2.2.2.2.1) (vo := c.2.2.2.2.2.2) hJ hS2 (upv p2 15) p2 p1 (by rw [ew, i_nI (by omega)]; omega) with ⟨r, -, h2⟩ | ⟨r, d, -, hd, -, h2⟩
  · exact h2 _ _ _ hH (fin c _ _ hJ hH)
  · exact h2 _ _ _ hH (fin d _ _ hd (hH.keep hJ))
