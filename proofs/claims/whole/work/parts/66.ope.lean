/-! acts -/
def bcN (vn : Nat → Int32) (t : Int32) : Nat → Int32 := if t = 1 then upd (upd (upd vn 0 1) 5 (-5)) 2 0 else upd (upd vn 0 t) 5 (-5)
def aT (a t : Int32) : Prop := a = 103 ∧ t = 1 ∨ a = 102 ∧ t = 0 ∨ a = 98 ∧ t = 3
theorem s4_err_mode {vn vo : Nat → Int32} {a t num : Int32} (ha : aT a t) {K : Int32 → Unit → Prop} (h1 : (vn 0 = 4 ∨ vn 0 = 5) ∨ vn 0 = t → K (-3) ()) (h0 : ¬ ((vn 0 = 4 ∨ vn 0 = 5) ∨ vn 0 = t) → K 0 ()) : vX4_errorOf vn vo a num K := by
  unfold vX4_errorOf vX4_errorOf_59 vX4_errorOf_80 vX4_errorOf_102
  rcases ha with ⟨rfl, rfl⟩ | ⟨rfl, rfl⟩ | ⟨rfl, rfl⟩
  · refine ⟨fun q => absurd q (by decide), fun _ => ⟨fun q => absurd q (by decide), fun _ => ⟨fun _ => s4_arrived (fun h => ⟨fun _ => h1 (.inl h), fun q => absurd q (by decide)⟩) (fun h => ⟨fun q => absurd rfl q, fun _ => ⟨fun h2 => h0 (fun q => q.elim h h2), fun h2 => h1 (.inr h2)⟩⟩), fun q => absurd rfl q⟩⟩⟩
  · refine ⟨fun q => absurd q (by decide), fun _ => ⟨fun _ => s4_arrived (fun h => ⟨fun _ => h1 (.inl h), fun q => absurd q (by decide)⟩) (fun h => ⟨fun q => absurd rfl q, fun _ => ⟨fun h2 => h0 (fun q => q.elim h h2), fun h2 => h1 (.inr h2)⟩⟩), fun q => absurd rfl q⟩⟩
  · refine ⟨fun _ => s4_arrived (fun h => ⟨fun _ => h1 (.inl h), fun q => absurd q (by decide)⟩) (fun h => ⟨fun q => absurd rfl q, fun _ => ⟨fun h2 => h0 (fun q => q.elim h h2), fun h2 => h1 (.inr h2)⟩⟩), fun q => absurd rfl q⟩
theorem m_45 {x : Int32} (h : 0 ≤ x.toInt ∧ x.toInt ≤ 5) : ¬ x < (4 : Int32) ↔ (x = 4 ∨ x = 5) := by
  have c4 : (4 : Int32).toInt = 4 := by decide
  rw [i_lt, i_eq, i_eq, c4, c_5]
  omega
theorem s7_modeError {vn vs vp vq vd vo mn : Nat → Int32} (hR : rN vn vs vp vq vd vo mn) (hr : 0 ≤ (vn 0).toInt ∧ (vn 0).toInt ≤ 5) {t : Int32} {K : Int32 → Unit → Prop} (h1 : (vn 0 = 4 ∨ vn 0 = 5) ∨ vn 0 = t → K (-3) ()) (h0 : ¬ ((vn 0 = 4 ∨ vn 0 = 5) ∨ vn 0 = t) → K 0 ()) : vX7_modeError mn t K := by
  unfold vX7_modeError vX7_modeError_20
  rw [hR.1 0 (by decide)]
  refine ⟨fun h => h1 (.inr h), fun h => ⟨fun h2 => h0 (fun q => ?_), fun h2 => h1 (.inl ((m_45 hr).mp h2))⟩⟩
  rcases q with q | q
  · exact (m_45 hr).mpr q h2
  · exact h q
theorem bc_ok {m : Nat} {vn : Nat → Int32} {a t : Int32} (ha : aT a t) (h : okN m vn) : okN m (bcN vn t) ∧ bcN vn t 10 = vn 10 ∧ bcN vn t 11 = vn 11 ∧ ¬ bcN vn t 0 = 2 := by
  unfold bcN
  rcases ha with ⟨rfl, rfl⟩ | ⟨rfl, rfl⟩ | ⟨rfl, rfl⟩
  · rw [if_pos rfl]
    exact ⟨⟨h.1, (by decide : 0 ≤ (1 : Int32).toInt ∧ (1 : Int32).toInt ≤ 5), .inl rfl, .inr rfl⟩, rfl, rfl, (by decide : ¬ (1 : Int32) = 2)⟩
  · rw [if_neg (by decide)]
    exact ⟨⟨h.1, (by decide : 0 ≤ (0 : Int32).toInt ∧ (0 : Int32).toInt ≤ 5), .inl rfl, .inr rfl⟩, rfl, rfl, (by decide : ¬ (0 : Int32) = 2)⟩
  · rw [if_neg (by decide)]
    exact ⟨⟨h.1, (by decide : 0 ≤ (3 : Int32).toInt ∧ (3 : Int32).toInt ≤ 5), .inl rfl, .inr rfl⟩, rfl, rfl, (by decide : ¬ (3 : Int32) = 2)⟩
theorem s4_carry_mode {n m : Nat} {vn vs vp vq vd vo : Nat → Int32} {vf : Nat → UInt32} (h : sI n m vn vf vs vp vq vd vo) {a t num : Int32} (ha : aT a t) {K : Int32 → ((Nat → Int32) × (Nat → UInt32) × (Nat → Int32)) → Prop} (hK : K (jd n vs vp vq vf) (bcN vn t, vf, vo)) : vX4_carryOut vn vf vs vp vq vd vo a num K := by
  obtain ⟨hp, hs, ht, hf, ho⟩ := h
  unfold vX4_carryOut vX4_startApproach vX4_enter
  unfold bcN at hK
  have hj : ∀ vn' : Nat → Int32, vn' 10 = vn 10 → K (jd n vs vp vq vf) (vn', vf, vo) → vX4_judge vn' vf vs vp vq (fun r _ => K r (vn', vf, vo)) := fun vn' e hk => s4_judge (pOk_cg hp e) ht hf hk
  rcases ha with ⟨rfl, rfl⟩ | ⟨rfl, rfl⟩ | ⟨rfl, rfl⟩
  · rw [if_pos rfl] at hK
    exact ⟨fun q => absurd q (by decide), fun _ => ⟨fun q => absurd q (by decide), fun _ => ⟨fun _ => hj (upd (upd (upd vn 0 1) 5 (-5)) 2 0) rfl hK, fun q => absurd rfl q⟩⟩⟩
  · rw [if_neg (by decide)] at hK
    exact ⟨fun q => absurd q (by decide), fun _ => ⟨fun _ => hj (upd (upd vn 0 0) 5 (-5)) rfl hK, fun q => absurd rfl q⟩⟩
  · rw [if_neg (by decide)] at hK
    exact ⟨fun _ => hj (upd (upd vn 0 3) 5 (-5)) rfl hK, fun q => absurd rfl q⟩
theorem s7_becomes {n m : Nat} {vn vs vp vq vd vo mn : Nat → Int32} {vf mf : Nat → UInt32} (h : sI n m vn vf vs vp vq vd vo) (hW : rW vn vf vs vp vq vd vo mn mf) {a t : Int32} (ha : aT a t) {K : Int32 → (Nat → Int32) → Prop} (hK : ∀ mn', rW (bcN vn t) vf vs vp vq vd vo mn' mf → K (jd n vs vp vq vf) mn') : vX7_becomes mn mf t K := by
  have hf := h.2.2.2.1
  have hfm := hW.fOk hf
  obtain ⟨hp, hs, ht, -, ho⟩ := h
  obtain ⟨c1, c2, c3, c4⟩ := bc_ok ha ho
  have hR := hW.1
  have fin : ∀ mn', rN (bcN vn t) vs vp vq vd vo mn' → vX7_judged mn' mf (fun r_37 u_37 => K r_37 mn') := fun mn' hR' => s7_judged hR' (pOk_cg hp c2) ht hfm (by
    rw [jd_cg hW.2.1]
    exact hK _ ⟨hR', hW.2.1, hW.2.2.1, fun q => absurd q c4⟩)
  unfold vX7_becomes vX7_becomes_35
  rw [tc_2]
  refine ⟨fun h1 => ⟨vi_2 (by decide), fin _ ?_⟩, fun h1 => ⟨vi_2 (by decide), fin _ ?_⟩⟩
  · rw [hR.1 2 (by decide)]
    refine rN_cg (rN_un (rN_un (rN_un hR (show 0 < 12 by decide) t) (show 5 < 12 by decide) (-5)) (show 2 < 12 by decide) (vn 2)) (fun j hj => ?_)
    unfold bcN
    rw [if_neg h1]
    unfold upd
    split
    · rename_i e
      rw [e]
      rfl
    · split
      · rename_i e
        rw [e]
        rfl
      · split
        · rename_i e
          rw [e]
        · rfl
  · refine rN_cg (rN_un (rN_un (rN_un hR (show 0 < 12 by decide) t) (show 5 < 12 by decide) (-5)) (show 2 < 12 by decide) 0) (fun j hj => ?_)
    unfold bcN
    rw [if_pos h1, h1]
theorem sI_bc {n m : Nat} {vn vs vp vq vd vo : Nat → Int32} {vf : Nat → UInt32} (h : sI n m vn vf vs vp vq vd vo) {a t : Int32} (ha : aT a t) : sI n m (bcN vn t) vf vs vp vq vd vo := by
  obtain ⟨hp, hs, ht, hf, ho⟩ := h
  obtain ⟨c1, c2, c3, -⟩ := bc_ok ha ho
  exact ⟨pOk_cg hp c2, sOk_cg hs c3, ht, hf, c1⟩
theorem op_mode {a t : Int32} (ha : aT a t) {vn : Nat → Int32} {vf : Nat → UInt32} {vs vp vq vd vo un : Nat → Int32} {uf : Nat → UInt32} {us up uq ud uo tm tx hc : Nat → Int32} {hh ss : Nat → Sx} {sv mn : Nat → Int32} {mf : Nat → UInt32} {mk : Nat → Int32} {mG : Nat → UInt32} {mv mt mm : Nat → Int32} (hL : LIx vn vf vs vp vq vd vo un uf us up uq ud uo tm tx hc hh ss sv mn mf mk mG mv mt mm) : vX6_actRecorded vn vf vs vp vq vd vo hc hh a 0 (fun r u => vX7_changesTo mn mf mk mG mm t (fun q z => r = q ∧ LIx u.1 u.2.1 vs vp vq vd u.2.2.1 un uf us up uq ud uo tm tx u.2.2.2.1 u.2.2.2.2 ss sv z.1 mf z.2.1 z.2.2.1 mv mt z.2.2.2)) := by
  have hL' := hL
  obtain ⟨hP, hQ, hS, hT⟩ := hL'
  have hP' := hP
  obtain ⟨n, m, hI, hW⟩ := hP'
  have hr := hI.2.2.2.2.2.1
  unfold vX6_actRecorded
  refine s4_err_mode ha (fun h => ⟨fun q => absurd q (by decide), fun _ => s7_modeError hW.1 hr (fun _ => ⟨fun q => absurd q (by decide), fun _ => ⟨rfl, hL⟩⟩) (fun q => absurd h q)⟩) (fun h => ⟨fun _ => ⟨hQ.kpre hP, s4_carry_mode hI ha ?_⟩, fun q => absurd rfl q⟩)
  refine s7_modeError hW.1 hr (fun q => absurd q h) (fun _ => ⟨fun _ => s7_rec hP hQ hS (fun mk' mG' mm' hQ' hS' hm' => s7_becomes hI hW ha (fun mn' hW' => ⟨rfl, LIx_mk ⟨n, m, sI_bc hI ha, hW'⟩ hQ' hS' (TR_cg hT hm')⟩)), fun q => absurd rfl q⟩)
theorem h_op_5 : op_5 LIx := by
  intro vn vf vs vp vq vd vo un uf us up uq ud uo tm tx hc hh ss sv mn mf mk mG mv mt mm hL
  exact op_mode (a := 103) (t := 1) (.inl ⟨rfl, rfl⟩) hL
theorem h_op_6 : op_6 LIx := by
  intro vn vf vs vp vq vd vo un uf us up uq ud uo tm tx hc hh ss sv mn mf mk mG mv mt mm hL
  exact op_mode (a := 102) (t := 0) (.inr (.inl ⟨rfl, rfl⟩)) hL
theorem h_op_7 : op_7 LIx := by
  intro vn vf vs vp vq vd vo un uf us up uq ud uo tm tx hc hh ss sv mn mf mk mG mv mt mm hL
  exact op_mode (a := 98) (t := 3) (.inr (.inr ⟨rfl, rfl⟩)) hL
/-! opening -/
def opN (vn : Nat → Int32) (j : Nat) : Nat → Int32 := if vn 5 = nI j then upd (upd (upd vn 0 1) 5 (-5)) 2 0 else vn
theorem s4_err_open {m : Nat} {vn vd vo : Nat → Int32} (hs : sOk vn vd vo m) {p : Int32} {K : Int32 → Unit → Prop} (hn : (¬ ∃ j, j < m ∧ p = nI j) → K (-1) ()) (h1 : ∀ j, j < m → p = nI j → ¬ vo j = 0 → K (-3) ()) (h0 : ∀ j, j < m → p = nI j → vo j = 0 → K 0 ()) : vX4_errorOf vn vo 111 p K := by
  unfold vX4_errorOf vX5_errorOfOpening
  refine ⟨fun q => absurd q (by decide), fun _ => ⟨fun q => absurd q (by decide), fun _ => ⟨fun q => absurd q (by decide), fun _ => ⟨fun _ => s5_has hs.2.1 hs.1 (fun j hj e => ⟨fun _ => ?_, fun q => absurd q (by decide)⟩) (fun q => ⟨fun q => absurd rfl q, fun _ => hn q⟩), fun q => absurd rfl q⟩⟩⟩⟩
  have := hs.1
  rw [e, nI_cl (by omega)]
  exact ⟨nI_in2 (by omega) (by omega), fun q => h0 j hj e q, fun q => h1 j hj e q⟩
theorem s7_openError {m : Nat} {vn vs vp vq vd vo mn : Nat → Int32} (hR : rN vn vs vp vq vd vo mn) (hs : sOk vn vd vo m) {p : Int32} {K : Int32 → Unit → Prop} (hn : (¬ ∃ j, j < m ∧ p = nI j) → K (-1) ()) (h1 : ∀ j, j < m → p = nI j → ¬ vo j = 0 → K (-3) ()) (h0 : ∀ j, j < m → p = nI j → vo j = 0 → K 0 ()) : vX7_openError mn p K := by
  obtain ⟨h4, hn11, hb, hd⟩ := hs
  have e11 : (mn 11 - 1).toInt = (m : Int) - 1 := by
    rw [hR.1 11 (by decide), hn11, i_sub, i_nI (by omega), c_1] <;> rw [i_nI (by omega), c_1] <;> omega
  unfold vX7_openError
  refine s7_isIn c_0 e11 (fun a b => ⟨fun _ => ?_, fun q => absurd q (by decide)⟩) (fun q => ⟨fun q => absurd rfl q, fun _ => hn (fun ⟨j, hj, e⟩ => q (by
    rw [e, i_nI (by omega)]
    omega))⟩)
  obtain ⟨j, hj, e⟩ : ∃ j : Nat, j < m ∧ p = nI j := ⟨p.toInt.toNat, by omega, i_of (by omega)⟩
  rw [e]
  exact s7_isClosed hR (by omega) (fun h => ⟨fun _ => h1 j hj e h, fun q => absurd rfl q⟩) (fun h => ⟨fun q => absurd q (by decide), fun _ => h0 j hj e h⟩)
theorem op_ok {m j : Nat} {vn : Nat → Int32} (h : okN m vn) : okN m (opN vn j) ∧ opN vn j 10 = vn 10 ∧ opN vn j 11 = vn 11 := by
  unfold opN
  split
  · exact ⟨⟨h.1, (by decide : 0 ≤ (1 : Int32).toInt ∧ (1 : Int32).toInt ≤ 5), .inl rfl, .inr rfl⟩, rfl, rfl⟩
  · exact ⟨h, rfl, rfl⟩
theorem sI_op {n m j : Nat} {vn vs vp vq vd vo : Nat → Int32} {vf : Nat → UInt32} (h : sI n m vn vf vs vp vq vd vo) : sI n m (opN vn j) vf vs vp vq vd (upd vo j 1) := by
  obtain ⟨hp, hs, ht, hf, ho⟩ := h
  obtain ⟨c1, c2, c3⟩ := op_ok (j := j) ho
  refine ⟨pOk_cg hp c2, ⟨hs.1, c3.trans hs.2.1, fun i hi => ?_, hs.2.2.2⟩, ht, hf, c1⟩
  show bz (if i = j then 1 else vo i)
  split
  · exact .inr rfl
  · exact hs.2.2.1 i hi
theorem s4_carry_open {n m j : Nat} {vn vs vp vq vd vo : Nat → Int32} {vf : Nat → UInt32} (h : sI n m vn vf vs vp vq vd vo) (hj : j < m) {K : Int32 → ((Nat → Int32) × (Nat → UInt32) × (Nat → Int32)) → Prop} (hK : K (nI (cc (upd vo j 1) m)) (opN vn j, vf, upd vo j 1)) : vX4_carryOut vn vf vs vp vq vd vo 111 (nI j) K := by
  have hI2 := sI_op (j := j) h
  have h4 := h.2.1.1
  unfold vX4_carryOut vX5_markOpen vX4_carryOut_93 vX4_startApproach vX4_enter
  rw [nar_1, nI_cl (by omega)]
  refine ⟨fun q => absurd q (by decide), fun _ => ⟨fun q => absurd q (by decide), fun _ => ⟨fun q => absurd q (by decide), fun _ => ⟨fun _ => ⟨nI_in2 (by omega) (by omega), fun h1 => ?_, fun h1 => ?_⟩, fun q => absurd rfl q⟩⟩⟩⟩
  · have hs2 := hI2.2.1
    unfold opN at hK hs2
    rw [if_neg h1] at hK hs2
    exact s5_countClosed hs2 hK
  · have hs2 := hI2.2.1
    unfold opN at hK hs2
    rw [if_pos h1] at hK hs2
    exact s5_countClosed hs2 hK
theorem s7_opens {n m j : Nat} {vn vs vp vq vd vo mn : Nat → Int32} {vf mf : Nat → UInt32} (h : sI n m vn vf vs vp vq vd vo) (hW : rW vn vf vs vp vq vd vo mn mf) (hj : j < m) {K : Int32 → (Nat → Int32) → Prop} (hK : ∀ mn', rW (opN vn j) vf vs vp vq vd (upd vo j 1) mn' mf → K (nI (cc (upd vo j 1) m)) mn') : vX7_opens mn (nI j) K := by
  have hI2 := sI_op (j := j) h
  have h4 := h.2.1.1
  have ho := h.2.2.2.2
  have hR := hW.1
  have i33 : (32 : Int32) + 2 * nI j + 1 = nI (33 + 2 * j) := by
    rw [show (32 : Int32) = nI 32 by rfl, ix_2, nI_1, show 32 + 2 * j + 1 = 33 + 2 * j by omega]
  unfold vX7_opens vX7_opens_56
  rw [i33, nI_cl (by omega)]
  have hR1 := rN_stop hR (show j < 4 by omega) 1
  have e0 : (upd mn (33 + 2 * j) 1) 0 = vn 0 := by
    rw [hR1.1 0 (by decide)]
  have e5 : (upd mn (33 + 2 * j) 1) 5 = vn 5 := by
    rw [hR1.1 5 (by decide)]
  rw [e0, e5]
  have same : ¬ vn 5 = nI j → vX7_closed (upd mn (33 + 2 * j) 1) (fun r_57 u_57 => K r_57 (upd mn (33 + 2 * j) 1)) := by
    intro h1
    have hs2 := hI2.2.1
    unfold opN at hK hs2
    rw [if_neg h1] at hK hs2
    exact s7_closed hR1 hs2 (hK _ ⟨hR1, hW.2.1, hW.2.2.1, hW.2.2.2⟩)
  refine ⟨nI_in2 (by omega) (by omega), fun h2 => same ?_, fun h2 => ⟨fun h5 => same h5, fun h5 => ?_⟩⟩
  · have q := ho.2.2.2.resolve_left h2
    rw [q]
    exact fun z => nI_n5 (by omega) z.symm
  · have hs2 := hI2.2.1
    unfold opN at hK hs2
    rw [if_pos h5] at hK hs2
    have hR2 := rN_un (rN_un (rN_un hR1 (show 0 < 12 by decide) 1) (show 5 < 12 by decide) (-5)) (show 2 < 12 by decide) 0
    exact s7_closed hR2 hs2 (hK _ ⟨hR2, hW.2.1, hW.2.2.1, fun q => absurd q (show ¬ (1 : Int32) = 2 by decide)⟩)
theorem h_op_8 : op_8 LIx := by
  intro vn vf vs vp vq vd vo un uf us up uq ud uo tm tx hc hh ss sv mn mf mk mG mv mt mm s1 hL
  have hL' := hL
  obtain ⟨hP, hQ, hS, hT⟩ := hL'
  have hP' := hP
  obtain ⟨n, m, hI, hW⟩ := hP'
  have hs := hI.2.1
  have h4 := hs.1
  have hR := hW.1
  have uniq : ∀ i j : Nat, i < m → j < m → nI i = nI j → i = j := fun i j hi hj e => (nI_eq (by omega) (by omega)).mp e
  unfold vX6_open vX6_actRecorded vX7_open
  refine s4_err_open hs (fun h => ⟨fun q => absurd q (by decide), fun _ => ?_⟩) (fun j hj e h => ⟨fun q => absurd q (by decide), fun _ => ?_⟩) (fun j hj e h => ⟨fun _ => ⟨hQ.kpre hP, ?_⟩, fun q => absurd rfl q⟩)
  · exact s7_openError hR hs (fun _ => ⟨fun q => absurd q (by decide), fun _ => ⟨rfl, hL⟩⟩) (fun j hj e _ => absurd ⟨j, hj, e⟩ h) (fun j hj e _ => absurd ⟨j, hj, e⟩ h)
  · exact s7_openError hR hs (fun q => absurd ⟨j, hj, e⟩ q) (fun _ _ _ _ => ⟨fun q => absurd q (by decide), fun _ => ⟨rfl, hL⟩⟩) (fun i hi e2 h2 => by
      have := uniq i j hi hj (e2.symm.trans e)
      subst this
      exact absurd h2 h)
  · subst e
    refine s4_carry_open hI hj ?_
    refine s7_openError hR hs (fun q => absurd ⟨j, hj, rfl⟩ q) (fun i hi e2 h2 => ?_) (fun _ _ _ _ => ⟨fun _ => s7_rec hP hQ hS (fun mk' mG' mm' hQ' hS' hm' => s7_opens hI hW hj (fun mn' hW' => ⟨rfl, LIx_mk ⟨n, m, sI_op hI, hW'⟩ hQ' hS' (TR_cg hT hm')⟩)), fun q => absurd rfl q⟩)
    have := uniq j i hj hi e2
    subst this
    exact absurd h h2
/-! seconds -/
def itS (n m : Nat) (vs vp vq vd vo : Nat → Int32) : Nat → (Nat → Int32) × (Nat → UInt32) → (Nat → Int32) × (Nat → UInt32)
  | 0, z => z
  | k + 1, z => itS n m vs vp vq vd vo k (secS n m vs vp vq vd vo z.1 z.2)
theorem it_s (n m : Nat) (vs vp vq vd vo : Nat → Int32) (k : Nat) (z : (Nat → Int32) × (Nat → UInt32)) : itS n m vs vp vq vd vo (k + 1) z = itS n m vs vp vq vd vo k (secS n m vs vp vq vd vo z.1 z.2) := rfl
theorem sI_it {n m : Nat} {vs vp vq vd vo : Nat → Int32} : ∀ (k : Nat) (z : (Nat → Int32) × (Nat → UInt32)), sI n m z.1 z.2 vs vp vq vd vo → sI n m (itS n m vs vp vq vd vo k z).1 (itS n m vs vp vq vd vo k z).2 vs vp vq vd vo := by
  intro k
  induction k with
  | zero => intro z h; exact h
  | succ k ih => intro z h; exact ih _ (sec_ok h)
theorem s4_carry_pass {n m t : Nat} {vn vs vp vq vd vo : Nat → Int32} {vf : Nat → UInt32} (h : sI n m vn vf vs vp vq vd vo) (ht : t ≤ 1000) {K : Int32 → ((Nat → Int32) × (Nat → UInt32) × (Nat → Int32)) → Prop} (hK : K ((itS n m vs vp vq vd vo t (vn, vf)).1 0) ((itS n m vs vp vq vd vo t (vn, vf)).1, (itS n m vs vp vq vd vo t (vn, vf)).2, vo)) : vX4_carryOut vn vf vs vp vq vd vo 116 (nI t) K := by
  unfold vX4_carryOut
  refine ⟨fun q => absurd q (by decide), fun _ => ⟨fun q => absurd q (by decide), fun _ => ⟨fun q => absurd q (by decide), fun _ => ⟨fun q => absurd q (by decide), fun _ => ?_⟩⟩⟩⟩
  refine lp_ex (fun z : (Nat → Int32) × (Nat → UInt32) × Int32 => ∃ i : Nat, i ≤ t ∧ z.2.2 = nI i ∧ sI n m z.1 z.2.1 vs vp vq vd vo ∧ itS n m vs vp vq vd vo (t - i) (z.1, z.2.1) = itS n m vs vp vq vd vo t (vn, vf)) (fun z => t - z.2.2.toNatClampNeg) _ ⟨0, by omega, rfl, h, rfl⟩ ?_
  rintro B ⟨wn, wf, z⟩ ⟨i, hi, hz, hI, he⟩ hB
  dsimp only at hz hI he hB
  subst hz
  unfold vX4_carryOut_103F vX4_carryOut_103b
  dsimp only
  rw [nI_leI (by omega) (by omega)]
  refine ⟨fun h => ?_, fun h => s4_second hI (hB _ ⟨i + 1, by omega, nI_1 i, sec_ok hI, ?_⟩ ?_)⟩
  · rw [show t - i = 0 by omega] at he
    rw [← he] at hK
    exact hK
  · obtain ⟨k, hk⟩ : ∃ k, t - i = k + 1 := ⟨t - i - 1, by omega⟩
    rw [hk, it_s] at he
    rw [show t - (i + 1) = k by omega]
    exact he
  · dsimp only
    rw [nI_1, nI_cl (by omega), nI_cl (by omega)]
    omega
theorem s7_passes {n m t : Nat} {vn vs vp vq vd vo mn : Nat → Int32} {vf mf : Nat → UInt32} (h : sI n m vn vf vs vp vq vd vo) (hW : rW vn vf vs vp vq vd vo mn mf) (ht : t ≤ 1000) {K : Int32 → ((Nat → Int32) × (Nat → UInt32)) → Prop} (hK : ∀ mn' mf', rW (itS n m vs vp vq vd vo t (vn, vf)).1 (itS n m vs vp vq vd vo t (vn, vf)).2 vs vp vq vd vo mn' mf' → K ((itS n m vs vp vq vd vo t (vn, vf)).1 0) (mn', mf')) : vX7_passes mn mf (nI t) K := by
  unfold vX7_passes
  refine lp_ex (fun z : (Nat → Int32) × (Nat → UInt32) × Int32 => ∃ i : Nat, i ≤ t ∧ z.2.2 = nI i ∧ ∃ (wn : Nat → Int32) (wf : Nat → UInt32), sI n m wn wf vs vp vq vd vo ∧ rW wn wf vs vp vq vd vo z.1 z.2.1 ∧ itS n m vs vp vq vd vo (t - i) (wn, wf) = itS n m vs vp vq vd vo t (vn, vf)) (fun z => t - z.2.2.toNatClampNeg) _ ⟨0, by omega, rfl, vn, vf, h, hW, rfl⟩ ?_
  rintro B ⟨xn, xf, z⟩ ⟨i, hi, hz, wn, wf, hI, hX, he⟩ hB
  dsimp only at hz hX hB
  subst hz
  unfold vX7_passes_2F vX7_passes_2b
  dsimp only
  rw [nI_leI (by omega) (by omega)]
  refine ⟨fun h => ?_, fun h => s7_second hX hI (fun mn' mf' hX' => hB _ ⟨i + 1, by omega, nI_1 i, _, _, sec_ok hI, hX', ?_⟩ ?_)⟩
  · rw [show t - i = 0 by omega] at he
    rw [← he] at hK
    have e0 : xn 0 = wn 0 := hX.1.1 0 (by decide)
    rw [e0]
    exact hK _ _ hX
  · obtain ⟨k, hk⟩ : ∃ k, t - i = k + 1 := ⟨t - i - 1, by omega⟩
    rw [hk, it_s] at he
    rw [show t - (i + 1) = k by omega]
    exact he
  · dsimp only
    rw [nI_1, nI_cl (by omega), nI_cl (by omega)]
    omega
theorem s4_err_pass {vn vo : Nat → Int32} {p : Int32} {K : Int32 → Unit → Prop} (h1 : ¬ (1 ≤ p.toInt ∧ p.toInt ≤ 200) → K (-2) ()) (h0 : 1 ≤ p.toInt → p.toInt ≤ 200 → K 0 ()) : vX4_errorOf vn vo 116 p K := by
  unfold vX4_errorOf vX4_errorOf_130
  rw [i_lt, i_le, c_1, c_200]
  exact ⟨fun q => absurd q (by decide), fun _ => ⟨fun q => absurd q (by decide), fun _ => ⟨fun q => absurd q (by decide), fun _ => ⟨fun q => absurd q (by decide), fun _ => ⟨fun h => h1 (by omega), fun h => ⟨fun h2 => h0 (by omega) h2, fun h2 => h1 (by omega)⟩⟩⟩⟩⟩⟩
theorem h_op_9 : op_9 LIx := by
  intro vn vf vs vp vq vd vo un uf us up uq ud uo tm tx hc hh ss sv mn mf mk mG mv mt mm s1 hL
  have hL' := hL
  obtain ⟨hP, hQ, hS, hT⟩ := hL'
  have hP' := hP
  obtain ⟨n, m, hI, hW⟩ := hP'
  unfold vX6_pass vX6_actRecorded vX7_pass
  refine s4_err_pass (fun h => ⟨fun q => absurd q (by decide), fun _ => ?_⟩) (fun a b => ⟨fun _ => ⟨hQ.kpre hP, ?_⟩, fun q => absurd rfl q⟩)
  · exact s7_isIn c_1 c_200 (fun a b => absurd ⟨a, b⟩ h) (fun _ => ⟨fun q => absurd rfl q, fun _ => ⟨rfl, hL⟩⟩)
  · obtain ⟨t, ht, e⟩ : ∃ t : Nat, t ≤ 200 ∧ s1 = nI t := ⟨s1.toInt.toNat, by omega, i_of (by omega)⟩
    rw [e] at a b ⊢
    refine s4_carry_pass hI (by omega) ?_
    exact s7_isIn c_1 c_200 (fun _ _ => ⟨fun _ => s7_rec hP hQ hS (fun mk' mG' mm' hQ' hS' hm' => s7_passes hI hW (by omega) (fun mn' mf' hW' => ⟨rfl, LIx_mk ⟨n, m, sI_it t (vn, vf) hI, hW'⟩ hQ' hS' (TR_cg hT hm')⟩)), fun q => absurd q (by decide)⟩) (fun q => absurd ⟨a, b⟩ q)
