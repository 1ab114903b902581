/-! the calls of a turn, one by one -/
abbrev plN (vn : Nat → Int32) : Nat → Int32 := upd (upd (upd (upd (upd vn 0 0) 5 (-5)) 2 0) 4 0) 3 0
abbrev plF (vf : Nat → UInt32) (p1 p2 p3 p4 : Int32) : Nat → UInt32 := vf_upd (vf_upd (vf_upd (vf_upd vf 0 (m100 p1)) 1 (m100 p2)) 2 (t1000 p3)) 3 (t1000 p4)
def pIN (p1 p2 p3 p4 : Int32) : Prop := (1 ≤ p1.toInt ∧ p1.toInt ≤ 100000) ∧ (-100000 ≤ p2.toInt ∧ p2.toInt ≤ 100000) ∧ (-5000 ≤ p3.toInt ∧ p3.toInt ≤ 5000) ∧ (-5000 ≤ p4.toInt ∧ p4.toInt ≤ 5000)
section CL
variable {vn : Nat → Int32} {vf : Nat → UInt32} {vs vp vq vd vo : Nat → Int32}
theorem m100_pos {p : Int32} (h1 : 1 ≤ p.toInt) (h2 : p.toInt ≤ 100000) : 0 < fk (m100 p) := by
  have h := m_lt (i := 0) (j := p) (by decide) (by show (0 : Int32).toInt < _; rw [c_0]; omega) h2
  have e : fk (m100 0) = 0 := by decide +kernel
  omega
theorem ts_place (hJ : Jc (vn, vf, vs, vp, vq, vd, vo)) (p1 p2 p3 p4 : Int32) : TS (vn, vf, vs, vp, vq, vd, vo) True (fun hc hh K => vX6_place vn vf vs vp vq vd vo hc hh p1 p2 p3 p4 (fun r u => K r (u.1, u.2.1, vs, vp, vq, vd, vo, u.2.2.1, u.2.2.2))) := by
  have hJ' := hJ
  obtain ⟨n, m, ⟨hp, hs, ht, hf, ho⟩, hx0, hx1⟩ := hJ'
  have hp : pOk vn vp vq n := hp
  have hs : sOk vn vd vo m := hs
  have hf : fOk vf := hf
  have ht : tOk vs := ht
  have go : ∀ (hc : Nat → Int32) (hh : Nat → Sx) (K : Int32 → ((Nat → Int32) × (Nat → UInt32) × (Nat → Int32) × (Nat → Sx)) → Prop), Hx hc hh → (¬ pIN p1 p2 p3 p4 → K (-2) (vn, vf, hc, hh)) → (pIN p1 p2 p3 p4 → K (jd n vs vp vq (plF vf p1 p2 p3 p4)) (plN vn, plF vf p1 p2 p3 p4, hck hc, hhk hc hh (vn, vf, vs, vp, vq, vd, vo))) → vX6_place vn vf vs vp vq vd vo hc hh p1 p2 p3 p4 K := by
    intro hc hh K hH no yes
    unfold pIN at no yes
    unfold vX6_place
    rw [i_lt, i_lt, c_1, c_100000]
    refine ⟨fun h => no (by omega), fun h1 => ⟨fun h => no (by omega), fun h2 => s6_isBeyond c_100000 (by decide) (fun h => ⟨fun _ => no (by omega), fun q => absurd q (by decide)⟩) (fun a2 b2 => ⟨fun q => absurd rfl q, fun _ => s6_isBeyond c_5000 (by decide) (fun h => ⟨fun _ => no (by omega), fun q => absurd q (by decide)⟩) (fun a3 b3 => ⟨fun q => absurd rfl q, fun _ => s6_isBeyond c_5000 (by decide) (fun h => ⟨fun q => absurd q (by decide), fun _ => no (by omega)⟩) (fun a4 b4 => ⟨fun _ => ⟨hH.kp hJ, (mg_m _).n32 (by decide), (mg_m _).n32 (by decide), (mg_t _).n32 (by decide), (mg_t _).n32 (by decide), ?_⟩, fun q => absurd rfl q⟩)⟩)⟩)⟩⟩
    unfold vX4_putShip vX4_enter vX3_startFar
    have hf' : fOk (plF vf p1 p2 p3 p4) := ⟨⟨((mg_m p1).mono (by decide)).ml, ((mg_m p2).mono (by decide)).ml, (mg_t p3).ml, (mg_t p4).ml, hf.1.2.2.2.2⟩, nz_m (by omega), nz_m (by omega), nz_t (by omega), nz_t (by omega)⟩
    have hp' : pOk (plN vn) vp vq n := pOk_cg hp rfl
    refine s4_judge hp' ht hf' ?_
    exact yes (by omega)
  by_cases hin : pIN p1 p2 p3 p4
  · have hi := hin
    unfold pIN at hi
    have hf' : fOk (plF vf p1 p2 p3 p4) := ⟨⟨((mg_m p1).mono (by decide)).ml, ((mg_m p2).mono (by decide)).ml, (mg_t p3).ml, (mg_t p4).ml, hf.1.2.2.2.2⟩, nz_m (by omega), nz_m (by omega), nz_t (by omega), nz_t (by omega)⟩
    refine .inr ⟨jd n vs vp vq (plF vf p1 p2 p3 p4), (plN vn, plF vf p1 p2 p3 p4, vs, vp, vq, vd, vo), jd_nn _ _ _ _ _, ⟨n, m, ⟨pOk_cg hp rfl, sOk_cg hs rfl, ht, hf', plN_ok⟩, ⟨.inl rfl, .inl rfl, .inl rfl, .inl rfl⟩, fun q => absurd q (nov (x := 0) (by decide)), fun _ => m100_pos hi.1.1 hi.1.2⟩, .inl trivial, fun hc hh K hH hK => go hc hh _ hH (fun q => absurd hin q) (fun _ => hK)⟩
  · exact .inl ⟨-2, by decide, fun hc hh K hH hK => go hc hh _ hH (fun _ => hK) (fun q => absurd q hin)⟩
theorem ts_set (hJ : Jc (vn, vf, vs, vp, vq, vd, vo)) (p1 p2 : Int32) : TS (vn, vf, vs, vp, vq, vd, vo) False (fun hc hh K => vX6_set vn vf vs vp vq vd vo hc hh p1 p2 (fun r u => K r (vn, vf, u.1, vp, vq, vd, vo, u.2.1, u.2.2))) := by
  have hJ' := hJ
  obtain ⟨n, m, ⟨hp, hs, ht, hf, ho⟩, hx0, hx1⟩ := hJ'
  have ht : tOk vs := ht
  by_cases hi : 0 ≤ p1.toInt ∧ p1.toInt < 8
  · obtain ⟨j, hj, e⟩ : ∃ j : Nat, j < 8 ∧ p1 = nI j := ⟨p1.toInt.toNat, by omega, i_of hi.1⟩
    subst e
    obtain ⟨f1, f2, f3, f4⟩ := sl_facts j hj
    by_cases h2 : (sLE j).toInt ≤ p2.toInt ∧ p2.toInt ≤ (sGR j).toInt
    · refine .inr ⟨vs j, (vn, vf, upd vs j p2, vp, vq, vd, vo), ?_, ⟨n, m, ⟨hp, hs, ?_, hf, ho⟩, hx0, hx1⟩, .inr (fun _ => rfl), fun hc hh K hH hK => ?_⟩
      · have := (ht.1 j hj).1
        rw [i_lt, c_0]
        omega
      · obtain ⟨t1, t2, t3⟩ := ht
        refine ⟨fun i hi => ?_, ?_, ?_⟩
        · show 0 ≤ (if i = j then p2 else vs i).toInt ∧ (if i = j then p2 else vs i).toInt ≤ 10000
          split
          · omega
          · exact t1 i hi
        · show (if 4 = j then p2 else vs 4).toInt ≤ 500
          split
          · rename_i e
            have := f3 e.symm
            omega
          · exact t2
        · show (if 5 = j then p2 else vs 5).toInt ≤ 500
          split
          · rename_i e
            have := f4 e.symm
            omega
          · exact t3
      · unfold vX6_set
        rw [i_lt, i_lt, c_0, c_8, nI_cl (by omega), i_lt, i_le]
        exact ⟨fun q => by omega, fun _ => ⟨fun _ => ⟨nI_in2 hj (by omega), fun q => by omega, fun _ => ⟨nI_in2 hj (by omega), fun _ => ⟨hH.kp hJ, nI_in2 hj (by omega), nI_in2 hj (by omega), hK⟩, fun q => by omega⟩⟩, fun q => by omega⟩⟩
    · refine .inl ⟨-2, by decide, fun hc hh K hH hK => ?_⟩
      unfold vX6_set
      rw [i_lt, i_lt, c_0, c_8, nI_cl (by omega), i_lt, i_le]
      exact ⟨fun q => by omega, fun _ => ⟨fun _ => ⟨nI_in2 hj (by omega), fun _ => hK, fun q1 => ⟨nI_in2 hj (by omega), fun q2 => absurd ⟨by omega, q2⟩ h2, fun _ => hK⟩⟩, fun q => by omega⟩⟩
  · refine .inl ⟨-1, by decide, fun hc hh K hH hK => ?_⟩
    unfold vX6_set
    rw [i_lt, i_lt, c_0, c_8]
    exact ⟨fun _ => hK, fun _ => ⟨fun q => by omega, fun _ => hK⟩⟩
theorem ix_ex (vp : Nat → Int32) (d : Int32) : ∀ n, ∃ i, ixP vp n d i := by
  intro n
  induction n with
  | zero => exact ⟨0, Nat.le_refl _, fun k hk => by omega, fun h => by omega⟩
  | succ n ih =>
    obtain ⟨i, h1, h2, h3⟩ := ih
    rcases Nat.lt_or_ge i n with q | q
    · exact ⟨i, by omega, h2, fun _ => h3 q⟩
    · have e : i = n := by omega
      subst e
      rcases (show (vp i).toInt < d.toInt ∨ d.toInt ≤ (vp i).toInt by omega) with w | w
      · refine ⟨i + 1, Nat.le_refl _, fun k hk => ?_, fun h => by omega⟩
        rcases Nat.lt_or_ge k i with z | z
        · exact h2 k z
        · rw [show k = i by omega]
          exact w
      · exact ⟨i, by omega, h2, fun _ => w⟩
theorem ts_setPoint (hJ : Jc (vn, vf, vs, vp, vq, vd, vo)) (p1 p2 : Int32) : TS (vn, vf, vs, vp, vq, vd, vo) False (fun hc hh K => vX6_setPoint vn vf vs vp vq vd vo hc hh p1 p2 (fun r u => K r (u.1, vf, vs, u.2.1, u.2.2.1, vd, vo, u.2.2.2.1, u.2.2.2.2))) := by
  have hJ' := hJ
  obtain ⟨n, m, ⟨hp, hs, ht, hf, ho⟩, hx0, hx1⟩ := hJ'
  have hp : pOk vn vp vq n := hp
  have hs : sOk vn vd vo m := hs
  have ho : okN m vn := ho
  have h6 := hp.1
  have hn := hp.2.1
  by_cases hin : (0 ≤ p1.toInt ∧ p1.toInt ≤ 100000) ∧ 1 ≤ p2.toInt ∧ p2.toInt ≤ 5000
  · obtain ⟨i0, hi0⟩ := ix_ex vp p1 n
    have go : ∀ (hc : Nat → Int32) (hh : Nat → Sx) (K : Int32 → ((Nat → Int32) × (Nat → Int32) × (Nat → Int32) × (Nat → Int32) × (Nat → Sx)) → Prop), vX2_hasRoomFor vn vp p1 (fun r_33 u_33 => (¬ r_33 = (0 : Int32) → kpre vn vo hc ∧ vX2_put vn vp vq p1 p2 (fun u_62 => K (u_62.1 10) (u_62.1, u_62.2.1, u_62.2.2, (hck hc), (hhk hc hh (vn, vf, vs, vp, vq, vd, vo))))) ∧ (r_33 = (0 : Int32) → K (-4 : Int32) (vn, vp, vq, hc, hh))) → vX6_setPoint vn vf vs vp vq vd vo hc hh p1 p2 K := by
      intro hc hh K h
      unfold vX6_setPoint
      rw [i_lt, i_lt, i_lt, i_le, c_0, c_1, c_100000, c_5000]
      exact ⟨fun q => by omega, fun _ => ⟨fun q => by omega, fun _ => ⟨fun q => by omega, fun _ => ⟨fun _ => h, fun q => by omega⟩⟩⟩⟩
    by_cases hroom : n < 6 ∨ i0 < n ∧ vp i0 = p1
    · by_cases he : i0 < n ∧ vp i0 = p1
      · refine .inr ⟨vn 10, (vn, vf, vs, upd vp i0 p1, upd vq i0 p2, vd, vo), ?_, ⟨n, m, ⟨pOk_rep hp he (by omega) (by omega), hs, ht, hf, ho⟩, hx0, hx1⟩, .inr (fun _ => rfl), fun hc hh K hH hK => go hc hh _ ?_⟩
        · rw [hn]
          exact nI_nn (by omega)
        · refine s2_hasRoom hp (fun i hi _ => ⟨fun _ => ⟨hH.kp hJ, s2_put hp (fun i1 hi1 _ => ?_) (fun i1 hi1 hne => ?_)⟩, fun q => absurd q (by decide)⟩) (fun i hi hno => ?_)
          · have e := ix_uniq hi1 hi0
            subst e
            exact hK
          · have e := ix_uniq hi1 hi0
            subst e
            exact absurd he hne
          · have e := ix_uniq hi hi0
            subst e
            exact absurd hroom hno
      · have n6 : n < 6 := hroom.resolve_right he
        refine .inr ⟨nI (n + 1), (upd vn 10 (nI (n + 1)), vf, vs, isF vp n i0 p1, isF vq n i0 p2, vd, vo), nI_nn (by omega), ⟨n + 1, m, ⟨pOk_ins hp n6 hi0 he (by omega) (by omega) (by omega) (by omega) (fun _ => rfl) (fun _ => rfl), sOk_cg hs rfl, ht, hf, okN_cg ho rfl ho.1 rfl⟩, hx0, hx1⟩, .inr (fun _ => rfl), fun hc hh K hH hK => go hc hh _ ?_⟩
        refine s2_hasRoom hp (fun i hi _ => ⟨fun _ => ⟨hH.kp hJ, s2_put hp (fun i1 hi1 he1 => ?_) (fun i1 hi1 hne => ⟨n6, fun vp' vq' e1 e2 => ?_⟩)⟩, fun q => absurd q (by decide)⟩) (fun i hi hno => ?_)
        · have e := ix_uniq hi1 hi0
          subst e
          exact absurd he1 he
        · have e := ix_uniq hi1 hi0
          subst e
          have e1 := funext e1
          have e2 := funext e2
          rw [show vp' = isF vp n i1 p1 from e1, show vq' = isF vq n i1 p2 from e2]
          exact hK
        · have e := ix_uniq hi hi0
          subst e
          exact absurd hroom hno
    · refine .inl ⟨-4, by decide, fun hc hh K hH hK => go hc hh _ ?_⟩
      refine s2_hasRoom hp (fun i hi hr => ?_) (fun i hi _ => ⟨fun q => absurd rfl q, fun _ => hK⟩)
      have e := ix_uniq hi hi0
      subst e
      exact absurd hr hroom
  · refine .inl ⟨-2, by decide, fun hc hh K hH hK => ?_⟩
    unfold vX6_setPoint
    rw [i_lt, i_lt, i_lt, i_le, c_0, c_1, c_100000, c_5000]
    exact ⟨fun _ => hK, fun _ => ⟨fun _ => hK, fun _ => ⟨fun _ => hK, fun _ => ⟨fun q => absurd ⟨by omega, by omega⟩ hin, fun _ => hK⟩⟩⟩⟩
theorem ts_addStop (hJ : Jc (vn, vf, vs, vp, vq, vd, vo)) (p1 : Int32) : TS (vn, vf, vs, vp, vq, vd, vo) False (fun hc hh K => vX6_addStop vn vf vs vp vq vd vo hc hh p1 (fun r u => K r (u.1, vf, vs, vp, vq, u.2.1, u.2.2.1, u.2.2.2.1, u.2.2.2.2))) := by
  have hJ' := hJ
  obtain ⟨n, m, ⟨hp, hs, ht, hf, ho⟩, hx0, hx1⟩ := hJ'
  have hp : pOk vn vp vq n := hp
  have ho : okN m vn := ho
  obtain ⟨h4, hn, hb, hd⟩ : sOk vn vd vo m := hs
  by_cases h1 : 1 ≤ p1.toInt ∧ p1.toInt ≤ 100000
  · by_cases h2 : m < 4
    · refine .inr ⟨nI m, (upd vn 11 (nI m + 1), vf, vs, vp, vq, upd vd m p1, upd vo m 0), nI_nn (by omega), ⟨n, m + 1, ⟨pOk_cg hp rfl, ⟨by omega, nI_1 m, ?_, ?_⟩, ht, hf, ?_⟩, ?_, hx1⟩, .inr (fun _ => rfl), fun hc hh K hH hK => ?_⟩
      · intro i hi
        show bz (if i = m then 0 else vo i)
        split
        · exact .inl rfl
        · exact hb i hi
      · intro i hi
        show 1 ≤ (if i = m then p1 else vd i).toInt ∧ (if i = m then p1 else vd i).toInt ≤ 100000
        split
        · omega
        · exact hd i (by omega)
      · refine ⟨ho.1, ho.2.1, ?_, ho.2.2.2⟩
        rcases ho.2.2.1 with q | ⟨j, hj, q⟩
        · exact .inl q
        · exact .inr ⟨j, by omega, q⟩
      · obtain ⟨a2, a3, a4, a7⟩ := hx0
        refine ⟨a2, a3, a4, ?_⟩
        rcases a7 with q | ⟨q0, j, hj, q1, q2⟩
        · exact .inl q
        · refine .inr ⟨q0, j, by omega, q1, ?_⟩
          show (if j = m then 0 else vo j) = 0
          rw [if_neg (by omega)]
          exact q2
      · unfold vX6_addStop
        rw [i_lt, i_le, c_1, c_100000, hn, show (4 : Int32) = nI 4 by rfl, nI_ltI (by omega) (by omega)]
        refine ⟨fun q => by omega, fun _ => ⟨fun _ => ⟨fun _ => ⟨hH.kp hJ, ?_⟩, fun q => absurd h2 q⟩, fun q => by omega⟩⟩
        unfold vX5_addClosed
        rw [hn, nI_cl (by omega), nar_0]
        exact ⟨nI_in2 h2 (by omega), nI_in2 h2 (by omega), hK⟩
    · refine .inl ⟨-4, by decide, fun hc hh K hH hK => ?_⟩
      unfold vX6_addStop
      rw [i_lt, i_le, c_1, c_100000, hn, show (4 : Int32) = nI 4 by rfl, nI_ltI (by omega) (by omega)]
      exact ⟨fun q => by omega, fun _ => ⟨fun _ => ⟨fun q => absurd q h2, fun _ => hK⟩, fun q => by omega⟩⟩
  · refine .inl ⟨-2, by decide, fun hc hh K hH hK => ?_⟩
    unfold vX6_addStop
    rw [i_lt, i_le, c_1, c_100000]
    exact ⟨fun _ => hK, fun q => ⟨fun w => absurd ⟨by omega, w⟩ h1, fun _ => hK⟩⟩
theorem ts_setBias (hJ : Jc (vn, vf, vs, vp, vq, vd, vo)) (p1 p2 : Int32) : TS (vn, vf, vs, vp, vq, vd, vo) False (fun hc hh K => vX6_setBias vn vf vs vp vq vd vo hc hh p1 p2 (fun r u => K r (u.1, vf, vs, vp, vq, vd, vo, u.2.1, u.2.2))) := by
  have hJ' := hJ
  obtain ⟨n, m, ⟨hp, hs, ht, hf, ho⟩, hx0, hx1⟩ := hJ'
  have hp : pOk vn vp vq n := hp
  have hs : sOk vn vd vo m := hs
  have ho : okN m vn := ho
  by_cases h1 : -500 ≤ p2.toInt ∧ p2.toInt ≤ 500
  · have fin : ∀ (j : Nat) (w : Prop) [Decidable w], (∀ (hc : Nat → Int32) (hh : Nat → Sx) (K : Int32 → ((Nat → Int32) × (Nat → Int32) × (Nat → Sx)) → Prop), Hx hc hh → K (if w then 1 else 0) (upd vn j p2, hck hc, hhk hc hh (vn, vf, vs, vp, vq, vd, vo)) → vX6_setBias vn vf vs vp vq vd vo hc hh p1 p2 K) → (j = 6 ∨ j = 7) → TS (vn, vf, vs, vp, vq, vd, vo) False (fun hc hh K => vX6_setBias vn vf vs vp vq vd vo hc hh p1 p2 (fun r u => K r (u.1, vf, vs, vp, vq, vd, vo, u.2.1, u.2.2))) := by
      intro j w dw hg hj
      refine .inr ⟨if w then 1 else 0, (upd vn j p2, vf, vs, vp, vq, vd, vo), ?_, ?_, ?_, fun hc hh K hH hK => hg hc hh _ hH hK⟩
      · split <;> decide
      · rcases hj with rfl | rfl
        · exact ⟨n, m, ⟨pOk_cg hp rfl, sOk_cg hs rfl, ht, hf, okN_cg ho rfl ho.1 rfl⟩, hx0, hx1⟩
        · exact ⟨n, m, ⟨pOk_cg hp rfl, sOk_cg hs rfl, ht, hf, okN_cg ho rfl ho.1 rfl⟩, hx0, hx1⟩
      · rcases hj with rfl | rfl <;> exact .inr (fun _ => rfl)
    by_cases z : p1 = 0
    · refine fin 6 (vn 4 = p1) (fun hc hh K hH hK => ?_) (.inl rfl)
      unfold vX6_setBias
      refine s6_isBeyond c_500 (by decide) (fun h => absurd h1 h) (fun a b => ⟨fun _ => ⟨hH.kp hJ, fun _ => ?_, fun q => absurd z q⟩, fun q => absurd rfl q⟩)
      unfold vX6_setBias_49
      refine ⟨fun h => ?_, fun h => ?_⟩
      · have h : ¬ vn 4 = p1 := h
        rw [if_neg h] at hK
        exact hK
      · have h : vn 4 = p1 := h
        rw [if_pos h] at hK
        exact hK
    · refine fin 7 (vn 4 = p1) (fun hc hh K hH hK => ?_) (.inr rfl)
      unfold vX6_setBias
      refine s6_isBeyond c_500 (by decide) (fun h => absurd h1 h) (fun a b => ⟨fun _ => ⟨hH.kp hJ, fun q => absurd q z, fun _ => ?_⟩, fun q => absurd rfl q⟩)
      unfold vX6_setBias_49
      refine ⟨fun h => ?_, fun h => ?_⟩
      · have h : ¬ vn 4 = p1 := h
        rw [if_neg h] at hK
        exact hK
      · have h : vn 4 = p1 := h
        rw [if_pos h] at hK
        exact hK
  · refine .inl ⟨-2, by decide, fun hc hh K hH hK => ?_⟩
    unfold vX6_setBias
    exact s6_isBeyond c_500 (by decide) (fun _ => ⟨fun q => absurd q (by decide), fun _ => hK⟩) (fun a b => absurd ⟨a, b⟩ h1)
theorem ts_mode {a t : Int32} (ha : aT a t) (hJ : Jc (vn, vf, vs, vp, vq, vd, vo)) : TS (vn, vf, vs, vp, vq, vd, vo) False (fun hc hh K => vX6_actRecorded vn vf vs vp vq vd vo hc hh a 0 (fun r u => K r (u.1, u.2.1, vs, vp, vq, vd, u.2.2.1, u.2.2.2.1, u.2.2.2.2))) := by
  have hJ' := hJ
  obtain ⟨n, m, hI, hx0, hx1⟩ := hJ'
  have hI : sI n m vn vf vs vp vq vd vo := hI
  by_cases h : (vn 0 = 4 ∨ vn 0 = 5) ∨ vn 0 = t
  · refine .inl ⟨-3, by decide, fun hc hh K hH hK => ?_⟩
    unfold vX6_actRecorded
    exact s4_err_mode ha (fun _ => ⟨fun q => absurd q (by decide), fun _ => hK⟩) (fun q => absurd h q)
  · refine .inr ⟨jd n vs vp vq vf, (bcN vn t, vf, vs, vp, vq, vd, vo), jd_nn _ _ _ _ _, ⟨n, m, sI_bc hI ha, ?_, ?_⟩, .inr (fun q => absurd (.inl q) h), fun hc hh K hH hK => ?_⟩
    · obtain ⟨a2, a3, a4, a7⟩ := hx0
      show ex0 m (bcN vn t) vo
      unfold bcN
      split
      · exact ⟨.inl rfl, a3, a4, .inl rfl⟩
      · exact ⟨a2, a3, a4, .inl rfl⟩
    · have hno : ¬ ovr vn := fun q => h (.inl q)
      refine ⟨fun q => absurd q ?_, fun _ => hx1.2 hno⟩
      show ¬ ovr (bcN vn t)
      unfold bcN
      rcases ha with ⟨-, rfl⟩ | ⟨-, rfl⟩ | ⟨-, rfl⟩
      · exact nov (x := 1) (by decide)
      · exact nov (x := 0) (by decide)
      · exact nov (x := 3) (by decide)
    · unfold vX6_actRecorded
      exact s4_err_mode ha (fun q => absurd q h) (fun _ => ⟨fun _ => ⟨hH.kp hJ, s4_carry_mode hI ha hK⟩, fun q => absurd rfl q⟩)
theorem ts_open (hJ : Jc (vn, vf, vs, vp, vq, vd, vo)) (p1 : Int32) : TS (vn, vf, vs, vp, vq, vd, vo) False (fun hc hh K => vX6_open vn vf vs vp vq vd vo hc hh p1 (fun r u => K r (u.1, u.2.1, vs, vp, vq, vd, u.2.2.1, u.2.2.2.1, u.2.2.2.2))) := by
  have hJ' := hJ
  obtain ⟨n, m, hI, hx0, hx1⟩ := hJ'
  have hI : sI n m vn vf vs vp vq vd vo := hI
  have hs := hI.2.1
  have h4 := hs.1
  have uniq : ∀ i j : Nat, i < m → j < m → nI i = nI j → i = j := fun i j hi hj e => (nI_eq (by omega) (by omega)).mp e
  by_cases hm : ∃ j, j < m ∧ p1 = nI j
  · obtain ⟨j, hj, e⟩ := hm
    subst e
    by_cases hz : vo j = 0
    · refine .inr ⟨nI (cc (upd vo j 1) m), (opN vn j, vf, vs, vp, vq, vd, upd vo j 1), nI_nn (by have := cc_le (upd vo j 1) m; omega), ⟨n, m, sI_op hI, ?_, ?_⟩, .inr ?_, fun hc hh K hH hK => ?_⟩
      · obtain ⟨a2, a3, a4, a7⟩ := hx0
        have a7 : vn 5 = -5 ∨ vn 0 = 2 ∧ ∃ j, j < m ∧ vn 5 = nI j ∧ vo j = 0 := a7
        show ex0 m (opN vn j) (upd vo j 1)
        unfold opN
        split
        · exact ⟨.inl rfl, a3, a4, .inl rfl⟩
        · rename_i hne
          refine ⟨a2, a3, a4, ?_⟩
          rcases a7 with q | ⟨q0, i, hi, q1, q2⟩
          · exact .inl q
          · refine .inr ⟨q0, i, hi, q1, ?_⟩
            show (if i = j then (1 : Int32) else vo i) = 0
            rw [if_neg (fun q => hne (by rw [q1, q]))]
            exact q2
      · show ex1 (opN vn j) vf
        have hx1 : ex1 vn vf := hx1
        have a7 : vn 5 = -5 ∨ vn 0 = 2 ∧ ∃ j, j < m ∧ vn 5 = nI j ∧ vo j = 0 := hx0.2.2.2
        unfold opN
        split
        · rename_i e5
          have h2 : vn 0 = 2 := by
            rcases a7 with q | ⟨q0, -⟩
            · rw [q] at e5
              exact absurd e5.symm (nI_n5 (by omega))
            · exact q0
          refine ⟨fun q => absurd q (nov (x := 1) (by decide)), fun _ => hx1.2 ?_⟩
          unfold ovr
          rw [h2]
          exact nov (by decide)
        · exact hx1
      · intro hov
        show opN vn j 0 = vn 0
        have hov : ovr vn := hov
        have a7 : vn 5 = -5 ∨ vn 0 = 2 ∧ ∃ j, j < m ∧ vn 5 = nI j ∧ vo j = 0 := hx0.2.2.2
        unfold opN
        split
        · rename_i e5
          rcases a7 with q | ⟨q0, -⟩
          · rw [q] at e5
            exact absurd e5.symm (nI_n5 (by omega))
          · unfold ovr at hov
            rw [q0] at hov
            exact absurd hov (nov (by decide))
        · rfl
      · unfold vX6_open vX6_actRecorded
        refine s4_err_open hs (fun q => absurd ⟨j, hj, rfl⟩ q) (fun i hi e2 h2 => ?_) (fun i hi e2 _ => ⟨fun _ => ⟨hH.kp hJ, s4_carry_open hI hj hK⟩, fun q => absurd rfl q⟩)
        have := uniq j i hj hi e2
        subst this
        exact absurd hz h2
    · refine .inl ⟨-3, by decide, fun hc hh K hH hK => ?_⟩
      unfold vX6_open vX6_actRecorded
      refine s4_err_open hs (fun q => absurd ⟨j, hj, rfl⟩ q) (fun i hi e2 h2 => ⟨fun q => absurd q (by decide), fun _ => hK⟩) (fun i hi e2 h0 => ?_)
      have := uniq j i hj hi e2
      subst this
      exact absurd h0 hz
  · refine .inl ⟨-1, by decide, fun hc hh K hH hK => ?_⟩
    unfold vX6_open vX6_actRecorded
    exact s4_err_open hs (fun _ => ⟨fun q => absurd q (by decide), fun _ => hK⟩) (fun i hi e2 _ => absurd ⟨i, hi, e2⟩ hm) (fun i hi e2 _ => absurd ⟨i, hi, e2⟩ hm)
theorem s6_passN {n m : Nat} (hJ : Jc (vn, vf, vs, vp, vq, vd, vo)) (hI : sI n m vn vf vs vp vq vd vo) {t : Nat} (h1 : 1 ≤ t) (h2 : t ≤ 200) {hc : Nat → Int32} {hh : Nat → Sx} (hH : Hx hc hh) {K : Int32 → ((Nat → Int32) × (Nat → UInt32) × (Nat → Int32) × (Nat → Int32) × (Nat → Sx)) → Prop} (hK : K ((itS n m vs vp vq vd vo t (vn, vf)).1 0) ((itS n m vs vp vq vd vo t (vn, vf)).1, (itS n m vs vp vq vd vo t (vn, vf)).2, vo, hck hc, hhk hc hh (vn, vf, vs, vp, vq, vd, vo))) : vX6_pass vn vf vs vp vq vd vo hc hh (nI t) K := by
  unfold vX6_pass vX6_actRecorded
  exact s4_err_pass (fun q => absurd ⟨by rw [i_nI (by omega)]; omega, by rw [i_nI (by omega)]; omega⟩ q) (fun _ _ => ⟨fun _ => ⟨hH.kp hJ, s4_carry_pass hI (by omega) hK⟩, fun q => absurd rfl q⟩)
theorem mode_nn {n m : Nat} (hI : sI n m vn vf vs vp vq vd vo) : ¬ vn 0 < (0 : Int32) := by
  have := hI.2.2.2.2.2.1.1
  rw [i_lt, c_0]
  omega
theorem ts_pass (hJ : Jc (vn, vf, vs, vp, vq, vd, vo)) (p1 : Int32) : TS (vn, vf, vs, vp, vq, vd, vo) False (fun hc hh K => vX6_pass vn vf vs vp vq vd vo hc hh p1 (fun r u => K r (u.1, u.2.1, vs, vp, vq, vd, u.2.2.1, u.2.2.2.1, u.2.2.2.2))) := by
  have hJ' := hJ
  obtain ⟨n, m, hj⟩ := hJ'
  have hj : jI n m vn vf vs vp vq vd vo := hj
  by_cases h : 1 ≤ p1.toInt ∧ p1.toInt ≤ 200
  · obtain ⟨t, ht, e⟩ : ∃ t : Nat, (1 ≤ t ∧ t ≤ 200) ∧ p1 = nI t := ⟨p1.toInt.toNat, by omega, i_of (by omega)⟩
    subst e
    have hj2 := jI_it (n := n) (m := m) t (vn, vf) hj
    refine .inr ⟨(itS n m vs vp vq vd vo t (vn, vf)).1 0, ((itS n m vs vp vq vd vo t (vn, vf)).1, (itS n m vs vp vq vd vo t (vn, vf)).2, vs, vp, vq, vd, vo), mode_nn hj2.1, ⟨n, m, hj2⟩, .inr (fun q => it_ov t (vn, vf) q), fun hc hh K hH hK => s6_passN hJ hj.1 ht.1 ht.2 hH hK⟩
  · refine .inl ⟨-2, by decide, fun hc hh K hH hK => ?_⟩
    unfold vX6_pass vX6_actRecorded
    exact s4_err_pass (fun _ => ⟨fun q => absurd q (by decide), fun _ => hK⟩) (fun a b => absurd ⟨a, b⟩ h)
theorem ts_restore (hJ : Jc (vn, vf, vs, vp, vq, vd, vo)) {ss : Nat → Sx} {sv : Nat → Int32} (hS : Sl ss sv) (p1 : Int32) : TS (vn, vf, vs, vp, vq, vd, vo) True (fun hc hh K => vX6_restore vn vf vs vp vq vd vo hc hh ss sv p1 (fun r u => K r (u.1, u.2.1, u.2.2.1, u.2.2.2.1, u.2.2.2.2.1, u.2.2.2.2.2.1, u.2.2.2.2.2.2.1, u.2.2.2.2.2.2.2.1, u.2.2.2.2.2.2.2.2))) := by
  have c_2 : (2 : Int32).toInt = 2 := by decide
  by_cases h : 0 ≤ p1.toInt ∧ p1.toInt < 2
  · obtain ⟨j, hj, e⟩ : ∃ j : Nat, j < 2 ∧ p1 = nI j := ⟨p1.toInt.toNat, by omega, i_of h.1⟩
    subst e
    obtain ⟨b1, b2⟩ := hS j hj
    by_cases hz : sv j = 0
    · refine .inl ⟨-3, by decide, fun hc hh K hH hK => ?_⟩
      unfold vX6_restore
      rw [i_lt, i_lt, c_0, c_2, nI_cl (by omega)]
      exact ⟨fun q => by omega, fun _ => ⟨fun _ => ⟨nI_in2 hj (by omega), fun q => absurd hz q, fun _ => hK⟩, fun q => by omega⟩⟩
    · have hr := b2 hz
      refine .inr ⟨(ss j).2.1 0, (ss j).2, ?_, hr, .inl trivial, fun hc hh K hH hK => ?_⟩
      · obtain ⟨n, m, hj2⟩ := hr
        exact mode_nn hj2.1
      · unfold vX6_restore
        rw [i_lt, i_lt, c_0, c_2, nI_cl (by omega)]
        exact ⟨fun q => by omega, fun _ => ⟨fun _ => ⟨nI_in2 hj (by omega), fun _ => ⟨hH.kp hJ, nI_in2 hj (by omega), hr.cp, hK⟩, fun q => absurd q hz⟩, fun q => by omega⟩⟩
  · refine .inl ⟨-1, by decide, fun hc hh K hH hK => ?_⟩
    unfold vX6_restore
    rw [i_lt, i_lt, c_0, c_2]
    exact ⟨fun _ => hK, fun _ => ⟨fun q => by omega, fun _ => hK⟩⟩
end CL
