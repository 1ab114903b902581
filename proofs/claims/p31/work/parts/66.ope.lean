/-! acts -/
def bcN (vn : Nat → Int32) (t : Int32) : Nat → Int32 := if t = 1 then upd (upd (upd vn 0 1) 5 (-5)) 2 0 else upd (upd vn 0 t) 5 (-5)
def aT (a t : Int32) : Prop := a = 103 ∧ t = 1 ∨ a = 102 ∧ t = 0 ∨ a = 98 ∧ t = 3
theorem s4_err_mode {vn vo : Nat → Int32} {a t num : Int32} (ha : aT a t) {K : Int32 → Unit → Prop} (h1 : (vn 0 = 4 ∨ vn 0 = 5) ∨ vn 0 = t → K (-3) ()) (h0 : ¬ ((vn 0 = 4 ∨ vn 0 = 5) ∨ vn 0 = t) → K 0 ()) : vX4_errorOf vn vo a num K := by
  unfold vX4_errorOf vX4_errorOf_59 vX4_errorOf_80 vX4_errorOf_102
  rcases ha with ⟨rfl, rfl⟩ | ⟨rfl, rfl⟩ | ⟨rfl, rfl⟩
  · refine ⟨fun q => absurd q (by decide), fun _ => ⟨fun q => absurd q (by decide), fun _ => ⟨fun _ => s4_arrived (fun h => ⟨fun _ => h1 (.inl h), fun q => absurd q (by decide)⟩) (fun h => ⟨fun q => absurd rfl q, fun _ => ⟨fun h2 => h0 (fun q => q.elim h h2), fun h2 => h1 (.inr h2)⟩⟩), fun q => absurd rfl q⟩⟩⟩
  · refine ⟨fun q => absurd q (by decide), fun _ => ⟨fun _ => s4_arrived (fun h => ⟨fun _ => h1 (.inl h), fun q => absurd q (by decide)⟩) (fun h => ⟨fun q => absurd rfl q, fun _ => ⟨fun h2 => h0 (fun q => q.elim h h2), fun h2 => h1 (.inr h2)⟩⟩), fun q => absurd rfl q⟩⟩
  · refine ⟨fun _ => s4_arrived (fun h => ⟨fun _ => h1 (.inl h), fun q => absurd q (by decide)⟩) (fun h => ⟨fun q => absurd rfl q, fun _ => ⟨fun h2 => h0 (fun q => q.elim h h2), fun h2 => h1 (.inr h2)⟩⟩), fun q => absurd rfl q⟩
theorem m_45 {x : Int32} (h : 0 ≤ x.toInt ∧ x.toInt ≤ 5) : ¬ x < (4 : Int32) ↔ (x = 4 ∨ x = 5) := by
  have c4 : (4 : Int32).toInt = 4 := by decide
  rw [i_lt, i_eq, i_eq, c4, c_5]
  omega
theorem bc_ok {m : Nat} {vn : Nat → Int32} {a t : Int32} (ha : aT a t) (h : okN m vn) : okN m (bcN vn t) ∧ bcN vn t 10 = vn 10 ∧ bcN vn t 11 = vn 11 ∧ ¬ bcN vn t 0 = 2 := by
  unfold bcN
  rcases ha with ⟨rfl, rfl⟩ | ⟨rfl, rfl⟩ | ⟨rfl, rfl⟩
  · rw [if_pos rfl]
    exact ⟨⟨h.1, (by decide : 0 ≤ (1 : Int32).toInt ∧ (1 : Int32).toInt ≤ 5), .inl rfl, .inr rfl⟩, rfl, rfl, (by decide : ¬ (1 : Int32) = 2)⟩
  · rw [if_neg (by decide)]
    exact ⟨⟨h.1, (by decide : 0 ≤ (0 : Int32).toInt ∧ (0 : Int32).toInt ≤ 5), .inl rfl, .inr rfl⟩, rfl, rfl, (by decide : ¬ (0 : Int32) = 2)⟩
  · rw [if_neg (by decide)]
    exact ⟨⟨h.1, (by decide : 0 ≤ (3 : Int32).toInt ∧ (3 : Int32).toInt ≤ 5), .inl rfl, .inr rfl⟩, rfl, rfl, (by decide : ¬ (3 : Int32) = 2)⟩
theorem s4_carry_mode {n m : Nat} {vn vs vp vq vd vo : Nat → Int32} {vf : Nat → UInt32} (h : sI n m vn vf vs vp vq vd vo) {a t num : Int32} (ha : aT a t) {K : Int32 → ((Nat → Int32) × (Nat → UInt32) × (Nat → Int32)) → Prop} (hK : K (jd n vs vp vq vf) (bcN vn t, vf, vo)) : vX4_carryOut vn vf vs vp vq vd vo a num K := by
  obtain ⟨hp, hs, ht, hf, ho⟩ := h
  unfold vX4_carryOut vX4_startApproach vX4_enter
  unfold bcN at hK
  have hj : ∀ vn' : Nat → Int32, vn' 10 = vn 10 → K (jd n vs vp vq vf) (vn', vf, vo) → vX4_judge vn' vf vs vp vq (fun r _ => K r (vn', vf, vo)) := fun vn' e hk => s4_judge (pOk_cg hp e) ht hf hk
  rcases ha with ⟨rfl, rfl⟩ | ⟨rfl, rfl⟩ | ⟨rfl, rfl⟩
  · rw [if_pos rfl] at hK
    exact ⟨fun q => absurd q (by decide), fun _ => ⟨fun q => absurd q (by decide), fun _ => ⟨fun _ => hj (upd (upd (upd vn 0 1) 5 (-5)) 2 0) rfl hK, fun q => absurd rfl q⟩⟩⟩
  · rw [if_neg (by decide)] at hK
    exact ⟨fun q => absurd q (by decide), fun _ => ⟨fun _ => hj (upd (upd vn 0 0) 5 (-5)) rfl hK, fun q => absurd rfl q⟩⟩
  · rw [if_neg (by decide)] at hK
    exact ⟨fun _ => hj (upd (upd vn 0 3) 5 (-5)) rfl hK, fun q => absurd rfl q⟩
theorem sI_bc {n m : Nat} {vn vs vp vq vd vo : Nat → Int32} {vf : Nat → UInt32} (h : sI n m vn vf vs vp vq vd vo) {a t : Int32} (ha : aT a t) : sI n m (bcN vn t) vf vs vp vq vd vo := by
  obtain ⟨hp, hs, ht, hf, ho⟩ := h
  obtain ⟨c1, c2, c3, -⟩ := bc_ok ha ho
  exact ⟨pOk_cg hp c2, sOk_cg hs c3, ht, hf, c1⟩
/-! opening -/
def opN (vn : Nat → Int32) (j : Nat) : Nat → Int32 := if vn 5 = nI j then upd (upd (upd vn 0 1) 5 (-5)) 2 0 else vn
theorem s4_err_open {m : Nat} {vn vd vo : Nat → Int32} (hs : sOk vn vd vo m) {p : Int32} {K : Int32 → Unit → Prop} (hn : (¬ ∃ j, j < m ∧ p = nI j) → K (-1) ()) (h1 : ∀ j, j < m → p = nI j → ¬ vo j = 0 → K (-3) ()) (h0 : ∀ j, j < m → p = nI j → vo j = 0 → K 0 ()) : vX4_errorOf vn vo 111 p K := by
  unfold vX4_errorOf vX5_errorOfOpening
  refine ⟨fun q => absurd q (by decide), fun _ => ⟨fun q => absurd q (by decide), fun _ => ⟨fun q => absurd q (by decide), fun _ => ⟨fun _ => s5_has hs.2.1 hs.1 (fun j hj e => ⟨fun _ => ?_, fun q => absurd q (by decide)⟩) (fun q => ⟨fun q => absurd rfl q, fun _ => hn q⟩), fun q => absurd rfl q⟩⟩⟩⟩
  have := hs.1
  rw [e, nI_cl (by omega)]
  exact ⟨nI_in2 (by omega) (by omega), fun q => h0 j hj e q, fun q => h1 j hj e q⟩
theorem op_ok {m j : Nat} {vn : Nat → Int32} (h : okN m vn) : okN m (opN vn j) ∧ opN vn j 10 = vn 10 ∧ opN vn j 11 = vn 11 := by
  unfold opN
  split
  · exact ⟨⟨h.1, (by decide : 0 ≤ (1 : Int32).toInt ∧ (1 : Int32).toInt ≤ 5), .inl rfl, .inr rfl⟩, rfl, rfl⟩
  · exact ⟨h, rfl, rfl⟩
theorem sI_op {n m j : Nat} {vn vs vp vq vd vo : Nat → Int32} {vf : Nat → UInt32} (h : sI n m vn vf vs vp vq vd vo) : sI n m (opN vn j) vf vs vp vq vd (upd vo j 1) := by
  obtain ⟨hp, hs, ht, hf, ho⟩ := h
  obtain ⟨c1, c2, c3⟩ := op_ok (j := j) ho
  refine ⟨pOk_cg hp c2, ⟨hs.1, c3.trans hs.2.1, fun i hi => ?_, hs.2.2.2⟩, ht, hf, c1⟩
  show bz (if i = j then 1 else vo i)
  split
  · exact .inr rfl
  · exact hs.2.2.1 i hi
theorem s4_carry_open {n m j : Nat} {vn vs vp vq vd vo : Nat → Int32} {vf : Nat → UInt32} (h : sI n m vn vf vs vp vq vd vo) (hj : j < m) {K : Int32 → ((Nat → Int32) × (Nat → UInt32) × (Nat → Int32)) → Prop} (hK : K (nI (cc (upd vo j 1) m)) (opN vn j, vf, upd vo j 1)) : vX4_carryOut vn vf vs vp vq vd vo 111 (nI j) K := by
  have hI2 := sI_op (j := j) h
  have h4 := h.2.1.1
  unfold vX4_carryOut vX5_markOpen vX4_carryOut_93 vX4_startApproach vX4_enter
  rw [nar_1, nI_cl (by omega)]
  refine ⟨fun q => absurd q (by decide), fun _ => ⟨fun q => absurd q (by decide), fun _ => ⟨fun q => absurd q (by decide), fun _ => ⟨fun _ => ⟨nI_in2 (by omega) (by omega), fun h1 => ?_, fun h1 => ?_⟩, fun q => absurd rfl q⟩⟩⟩⟩
  · have hs2 := hI2.2.1
    unfold opN at hK hs2
    rw [if_neg h1] at hK hs2
    exact s5_countClosed hs2 hK
  · have hs2 := hI2.2.1
    unfold opN at hK hs2
    rw [if_pos h1] at hK hs2
    exact s5_countClosed hs2 hK
/-! seconds -/
def itS (n m : Nat) (vs vp vq vd vo : Nat → Int32) : Nat → (Nat → Int32) × (Nat → UInt32) → (Nat → Int32) × (Nat → UInt32)
  | 0, z => z
  | k + 1, z => itS n m vs vp vq vd vo k (secS n m vs vp vq vd vo z.1 z.2)
theorem it_s (n m : Nat) (vs vp vq vd vo : Nat → Int32) (k : Nat) (z : (Nat → Int32) × (Nat → UInt32)) : itS n m vs vp vq vd vo (k + 1) z = itS n m vs vp vq vd vo k (secS n m vs vp vq vd vo z.1 z.2) := rfl
theorem sI_it {n m : Nat} {vs vp vq vd vo : Nat → Int32} : ∀ (k : Nat) (z : (Nat → Int32) × (Nat → UInt32)), sI n m z.1 z.2 vs vp vq vd vo → sI n m (itS n m vs vp vq vd vo k z).1 (itS n m vs vp vq vd vo k z).2 vs vp vq vd vo := by
  intro k
  induction k with
  | zero => intro z h; exact h
  | succ k ih => intro z h; exact ih _ (sec_ok h)
theorem s4_carry_pass {n m t : Nat} {vn vs vp vq vd vo : Nat → Int32} {vf : Nat → UInt32} (h : sI n m vn vf vs vp vq vd vo) (ht : t ≤ 1000) {K : Int32 → ((Nat → Int32) × (Nat → UInt32) × (Nat → Int32)) → Prop} (hK : K ((itS n m vs vp vq vd vo t (vn, vf)).1 0) ((itS n m vs vp vq vd vo t (vn, vf)).1, (itS n m vs vp vq vd vo t (vn, vf)).2, vo)) : vX4_carryOut vn vf vs vp vq vd vo 116 (nI t) K := by
  unfold vX4_carryOut
  refine ⟨fun q => absurd q (by decide), fun _ => ⟨fun q => absurd q (by decide), fun _ => ⟨fun q => absurd q (by decide), fun _ => ⟨fun q => absurd q (by decide), fun _ => ?_⟩⟩⟩⟩
  refine lp_ex (fun z : (Nat → Int32) × (Nat → UInt32) × Int32 => ∃ i : Nat, i ≤ t ∧ z.2.2 = nI i ∧ sI n m z.1 z.2.1 vs vp vq vd vo ∧ itS n m vs vp vq vd vo (t - i) (z.1, z.2.1) = itS n m vs vp vq vd vo t (vn, vf)) (fun z => t - z.2.2.toNatClampNeg) _ ⟨0, by omega, rfl, h, rfl⟩ ?_
  rintro B ⟨wn, wf, z⟩ ⟨i, hi, hz, hI, he⟩ hB
  dsimp only at hz hI he hB
  subst hz
  unfold vX4_carryOut_103F vX4_carryOut_103b
  dsimp only
  rw [nI_leI (by omega) (by omega)]
  refine ⟨fun h => ?_, fun h => s4_second hI (hB _ ⟨i + 1, by omega, nI_1 i, sec_ok hI, ?_⟩ ?_)⟩
  · rw [show t - i = 0 by omega] at he
    rw [← he] at hK
    exact hK
  · obtain ⟨k, hk⟩ : ∃ k, t - i = k + 1 := ⟨t - i - 1, by omega⟩
    rw [hk, it_s] at he
    rw [show t - (i + 1) = k by omega]
    exact he
  · dsimp only
    rw [nI_1, nI_cl (by omega), nI_cl (by omega)]
    omega
theorem s4_err_pass {vn vo : Nat → Int32} {p : Int32} {K : Int32 → Unit → Prop} (h1 : ¬ (1 ≤ p.toInt ∧ p.toInt ≤ 200) → K (-2) ()) (h0 : 1 ≤ p.toInt → p.toInt ≤ 200 → K 0 ()) : vX4_errorOf vn vo 116 p K := by
  unfold vX4_errorOf vX4_errorOf_130
  rw [i_lt, i_le, c_1, c_200]
  exact ⟨fun q => absurd q (by decide), fun _ => ⟨fun q => absurd q (by decide), fun _ => ⟨fun q => absurd q (by decide), fun _ => ⟨fun q => absurd q (by decide), fun _ => ⟨fun h => h1 (by omega), fun h => ⟨fun h2 => h0 (by omega) h2, fun h2 => h1 (by omega)⟩⟩⟩⟩⟩⟩
