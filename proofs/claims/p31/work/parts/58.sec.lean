/-! a second -/
def okN (m : Nat) (vn : Nat → Int32) : Prop := bz (vn 4) ∧ (0 ≤ (vn 0).toInt ∧ (vn 0).toInt ≤ 5) ∧ hOk vn m ∧ (vn 0 = 2 ∨ vn 5 = -5)
def sI (n m : Nat) (vn : Nat → Int32) (vf : Nat → UInt32) (vs vp vq vd vo : Nat → Int32) : Prop := pOk vn vp vq n ∧ sOk vn vd vo m ∧ tOk vs ∧ fOk vf ∧ okN m vn
theorem jd_cg {n : Nat} {vs vp vq : Nat → Int32} {vf mf : Nat → UInt32} (hk : ∀ k, k < 4 → mf k = vf k) : jd n vs vp vq mf = jd n vs vp vq vf := by
  unfold jd driftB
  rw [hk 0 (by decide), hk 1 (by decide), hk 2 (by decide), hk 3 (by decide)]
def v1N (vn : Nat → Int32) : Nat → Int32 := upd vn 1 (vn 1 + 1)
def axS (n m : Nat) (vs vp vq vd vo vn : Nat → Int32) (vf : Nat → UInt32) : UInt32 := if vn 0 = 0 then FP.fconst0 else alS vs (vf 0) (wS n m vn vp vq vd vo (vf 0) (vf 4)) (vf 2)
def ayS (vs vn : Nat → Int32) (vf : Nat → UInt32) : UInt32 := if vn 0 = 0 then FP.fconst0 else acS vs (vf 1) (vf 3)
def h3S (m : Nat) (vd vo vn : Nat → Int32) (vf : Nat → UInt32) : (Nat → Int32) × (Nat → UInt32) := if vn 0 = 1 then haS m vd vo vn vf else (vn, vf)
def enS (n m : Nat) (vs vp vq vd vo vn : Nat → Int32) (vf : Nat → UInt32) : (Nat → Int32) × (Nat → UInt32) := if fk (vf 0) ≤ 0 then (arN vn vs vf, zfF vf) else laS n vs vp vq (h3S m vd vo (cmN vn (vf 0)) vf).1 (h3S m vd vo (cmN vn (vf 0)) vf).2
def secS (n m : Nat) (vs vp vq vd vo vn : Nat → Int32) (vf : Nat → UInt32) : (Nat → Int32) × (Nat → UInt32) := if vn 0 = 4 ∨ vn 0 = 5 then (v1N vn, vf) else enS n m vs vp vq vd vo (v1N vn) (mvS vf (axS n m vs vp vq vd vo (v1N vn) vf) (ayS vs (v1N vn) vf))
theorem s4_arrived {vn : Nat → Int32} {K : Int32 → Unit → Prop} (h1 : vn 0 = 4 ∨ vn 0 = 5 → K 1 ()) (h0 : ¬ (vn 0 = 4 ∨ vn 0 = 5) → K 0 ()) : vX4_hasArrived vn K := by
  unfold vX4_hasArrived vX4_hasArrived_16
  exact ⟨fun h => h1 (.inl h), fun h => ⟨fun h2 => h0 (fun q => q.elim h h2), fun h2 => h1 (.inr h2)⟩⟩
theorem z_126 : ml 126 FP.fconst0 := by unfold ml; decide
theorem ax_ml {n m : Nat} {vs vp vq vd vo vn : Nat → Int32} {vf : Nat → UInt32} (ht : tOk vs) : ml 126 (axS n m vs vp vq vd vo vn vf) := by
  unfold axS
  split
  · exact z_126
  · exact al_ml ht _ _ _
theorem ay_ml {vs vn : Nat → Int32} {vf : Nat → UInt32} (ht : tOk vs) : ml 126 (ayS vs vn vf) := by
  unfold ayS
  split
  · exact z_126
  · exact ac_ml ht _ _
/-! what stays -/
theorem r_2 : 0 ≤ (2 : Int32).toInt ∧ (2 : Int32).toInt ≤ 5 := by decide
theorem r_3 : 0 ≤ (3 : Int32).toInt ∧ (3 : Int32).toInt ≤ 5 := by decide
theorem zf_ok {vf : Nat → UInt32} (hf : fOk vf) : fOk (zfF vf) := by
  obtain ⟨⟨a0, a1, a2, a3, a4⟩, n0, n1, n2, n3⟩ := hf
  have z : nz FP.fconst0 := by unfold nz; decide
  exact ⟨⟨z_126.mono (by decide), a1, z_126.mono (by decide), z_126.mono (by decide), a4⟩, z, n1, z, z⟩
theorem pOk_cg {n : Nat} {vn vn' vp vq : Nat → Int32} (h : pOk vn vp vq n) (e : vn' 10 = vn 10) : pOk vn' vp vq n := ⟨h.1, e.trans h.2.1, h.2.2⟩
theorem sOk_cg {m : Nat} {vn vn' vd vo : Nat → Int32} (h : sOk vn vd vo m) (e : vn' 11 = vn 11) : sOk vn' vd vo m := ⟨h.1, e.trans h.2.1, h.2.2⟩
theorem okN_cg {m : Nat} {vn vn' : Nat → Int32} (h : okN m vn) (e0 : vn' 0 = vn 0) (e4 : bz (vn' 4)) (e5 : vn' 5 = vn 5) : okN m vn' := by
  obtain ⟨a, b, c, d⟩ := h
  unfold okN hOk
  rw [e0, e5]
  exact ⟨e4, b, c, d⟩
theorem ar_ok {m : Nat} {vn vs : Nat → Int32} {vf : Nat → UInt32} (h : okN m vn) : okN m (arN vn vs vf) := by
  refine ⟨h.1, ?_, .inl rfl, .inr rfl⟩
  show 0 ≤ ((if geB vs vf = true then (4 : Int32) else 5)).toInt ∧ ((if geB vs vf = true then (4 : Int32) else 5)).toInt ≤ 5
  split <;> decide
theorem cm_ok {m : Nat} {vn : Nat → Int32} {x : UInt32} (h : okN m vn) : okN m (cmN vn x) ∧ cmN vn x 10 = vn 10 ∧ cmN vn x 11 = vn 11 ∧ cmN vn x 0 = vn 0 ∧ cmN vn x 5 = vn 5 := by
  unfold cmN
  split
  · exact ⟨okN_cg h rfl (.inr rfl) rfl, rfl, rfl, rfl, rfl⟩
  · split
    · exact ⟨okN_cg h rfl (.inl rfl) rfl, rfl, rfl, rfl, rfl⟩
    · exact ⟨okN_cg h rfl h.1 rfl, rfl, rfl, rfl, rfl⟩
theorem h3_ok {m : Nat} {vn vd vo : Nat → Int32} {vf : Nat → UInt32} (h : okN m vn) (hf : fOk vf) : okN m (h3S m vd vo vn vf).1 ∧ fOk (h3S m vd vo vn vf).2 ∧ (h3S m vd vo vn vf).1 10 = vn 10 ∧ (h3S m vd vo vn vf).1 11 = vn 11 := by
  unfold h3S
  split
  · unfold haS hv
    rcases hr_facts m vd vo vf with q | ⟨j, hj, q⟩
    · rw [if_pos q, if_pos q]
      exact ⟨h, hf, rfl, rfl⟩
    · by_cases e : hrS m vd vo vf = -5
      · rw [if_pos e, if_pos e]
        exact ⟨h, hf, rfl, rfl⟩
      · rw [if_neg e, if_neg e]
        refine ⟨⟨h.1, r_2, .inr ⟨j, hj, q⟩, .inl rfl⟩, ?_, rfl, rfl⟩
        obtain ⟨⟨a0, a1, a2, a3, a4⟩, nn⟩ := hf
        exact ⟨⟨a0, a1, a2, a3, ((mg_m _).mono (by decide)).ml⟩, nn⟩
  · exact ⟨h, hf, rfl, rfl⟩
theorem la_ok {n m : Nat} {vs vp vq vn : Nat → Int32} {vf : Nat → UInt32} (h : okN m vn) (hf : fOk vf) : okN m (laS n vs vp vq vn vf).1 ∧ fOk (laS n vs vp vq vn vf).2 ∧ (laS n vs vp vq vn vf).1 10 = vn 10 ∧ (laS n vs vp vq vn vf).1 11 = vn 11 := by
  unfold laS
  split
  · unfold stN
    split
    · exact ⟨⟨h.1, r_3, .inl rfl, .inr rfl⟩, hf, rfl, rfl⟩
    · exact ⟨okN_cg h rfl h.1 rfl, hf, rfl, rfl⟩
  · split
    · refine ⟨⟨h.1, r_2, .inl rfl, .inl rfl⟩, ?_, rfl, rfl⟩
      obtain ⟨⟨a0, a1, a2, a3, a4⟩, nn⟩ := hf
      exact ⟨⟨a0, a1, a2, a3, a0⟩, nn⟩
    · exact ⟨h, hf, rfl, rfl⟩
theorem en_ok {n m : Nat} {vs vp vq vd vo vn : Nat → Int32} {vf : Nat → UInt32} (h : okN m vn) (hf : fOk vf) : okN m (enS n m vs vp vq vd vo vn vf).1 ∧ fOk (enS n m vs vp vq vd vo vn vf).2 ∧ (enS n m vs vp vq vd vo vn vf).1 10 = vn 10 ∧ (enS n m vs vp vq vd vo vn vf).1 11 = vn 11 := by
  unfold enS
  split
  · exact ⟨ar_ok h, zf_ok hf, rfl, rfl⟩
  · obtain ⟨c1, c2, c3, c4, c5⟩ := cm_ok (x := vf 0) h
    obtain ⟨d1, d2, d3, d4⟩ := h3_ok (vd := vd) (vo := vo) c1 hf
    obtain ⟨e1, e2, e3, e4⟩ := la_ok (n := n) (vs := vs) (vp := vp) (vq := vq) d1 d2
    exact ⟨e1, e2, e3.trans (d3.trans c2), e4.trans (d4.trans c3)⟩
theorem sec_ok {n m : Nat} {vs vp vq vd vo vn : Nat → Int32} {vf : Nat → UInt32} (h : sI n m vn vf vs vp vq vd vo) : sI n m (secS n m vs vp vq vd vo vn vf).1 (secS n m vs vp vq vd vo vn vf).2 vs vp vq vd vo := by
  obtain ⟨hp, hs, ht, hf, ho⟩ := h
  unfold secS
  split
  · exact ⟨pOk_cg hp rfl, sOk_cg hs rfl, ht, hf, okN_cg ho rfl ho.1 rfl⟩
  · obtain ⟨e1, e2, e3, e4⟩ := en_ok (n := n) (vs := vs) (vp := vp) (vq := vq) (vd := vd) (vo := vo) (okN_cg (vn' := v1N vn) ho rfl ho.1 rfl) (mv_ok hf (ax_ml (n := n) (m := m) (vs := vs) (vp := vp) (vq := vq) (vd := vd) (vo := vo) (vn := v1N vn) (vf := vf) ht) (ay_ml (vs := vs) (vn := v1N vn) (vf := vf) ht))
    exact ⟨pOk_cg hp e3, sOk_cg hs e4, ht, e2, e1⟩
theorem s4_second {n m : Nat} {vs vp vq vd vo vn : Nat → Int32} {vf : Nat → UInt32} (h : sI n m vn vf vs vp vq vd vo) {K : ((Nat → Int32) × (Nat → UInt32)) → Prop} (hK : K (secS n m vs vp vq vd vo vn vf)) : vX4_passSecond vn vf vs vp vq vd vo K := by
  obtain ⟨hp, hs, ht, hf, ho⟩ := h
  have hp1 : pOk (v1N vn) vp vq n := pOk_cg hp rfl
  have hs1 : sOk (v1N vn) vd vo m := sOk_cg hs rfl
  have ho1 : okN m (v1N vn) := okN_cg ho rfl ho.1 rfl
  unfold vX4_passSecond
  unfold secS at hK
  have h53 : ∀ ax ay : UInt32, ml 126 ax → ml 126 ay → K (enS n m vs vp vq vd vo (v1N vn) (mvS vf ax ay)) → vX4_passSecond_53 (v1N vn) vf vs vp vq vd vo ax ay K := by
    intro ax ay hax hay hk
    have hf1 := mv_ok hf hax hay
    have q := hf1.1
    have hx1 : ml 178 (mvS vf ax ay 0) := q.1
    unfold enS at hk
    obtain ⟨c1, c2, c3, c4, c5⟩ := cm_ok (x := mvS vf ax ay 0) ho1
    refine ⟨q.2.2.1.mg.n32 (by decide), q.2.2.2.1.mg.n32 (by decide), q.1.mg.n32 (by decide), q.2.1.mg.n32 (by decide), fun h0 => s3_compare hx1 ?_, fun h0 => s4_arrive hf1 ?_⟩
    · have h0 : fk FP.fconst0 < fk (mvS vf ax ay 0) := (cg_lt (q.1.mg.nn (by decide)) nn_0).mp h0
      rw [fk_0] at h0
      rw [if_neg (by omega)] at hk
      have hp2 : pOk (cmN (v1N vn) (mvS vf ax ay 0)) vp vq n := pOk_cg hp1 c2
      have hs2 : sOk (cmN (v1N vn) (mvS vf ax ay 0)) vd vo m := sOk_cg hs1 c3
      refine ⟨fun h1 => s4_137 hp2 ht hf1 ?_, fun h1 => s4_holdAt hs2 hf1 ?_⟩
      · unfold h3S at hk
        rw [if_neg h1] at hk
        exact hk
      · obtain ⟨d1, d2, d3, d4⟩ := h3_ok (vd := vd) (vo := vo) c1 hf1
        unfold h3S at hk d1 d2 d3 d4
        have h1' : cmN (v1N vn) (mvS vf ax ay 0) 0 = 1 := h1
        rw [if_pos h1'] at hk d1 d2 d3 d4
        exact s4_137 (pOk_cg hp2 d3) ht d2 hk
    · have h0 : ¬ fk FP.fconst0 < fk (mvS vf ax ay 0) := fun z => h0 ((cg_lt (q.1.mg.nn (by decide)) nn_0).mpr z)
      rw [fk_0] at h0
      rw [if_pos (by omega)] at hk
      exact hk
  refine s4_arrived (vn := v1N vn) (fun ha => ⟨fun q => absurd q (by decide), fun _ => ?_⟩) (fun ha => ⟨fun _ => ⟨fun h0 => ?_, fun h0 => ?_⟩, fun q => absurd rfl q⟩)
  · have ha : vn 0 = 4 ∨ vn 0 = 5 := ha
    rw [if_pos ha] at hK
    exact hK
  · have ha : ¬ (vn 0 = 4 ∨ vn 0 = 5) := ha
    rw [if_neg ha] at hK
    have hax := ax_ml (n := n) (m := m) (vs := vs) (vp := vp) (vq := vq) (vd := vd) (vo := vo) (vn := v1N vn) (vf := vf) ht
    have hay := ay_ml (vs := vs) (vn := v1N vn) (vf := vf) ht
    unfold axS at hK hax
    unfold ayS at hK hay
    have h0' : ¬ v1N vn 0 = 0 := h0
    rw [if_neg h0', if_neg h0'] at hK
    rw [if_neg h0'] at hax hay
    refine s4_wanted hp1 hs1 hf.1.1 hf.1.2.2.2.2 (s4_along hf.1.1 hf.1.2.2.1 (w_mg hp1 hf.1.1 hf.1.2.2.2.2) ⟨fun _ => s4_across hf.1.2.1 hf.1.2.2.2.1 (h53 _ _ hax hay hK), fun q => absurd q h0⟩)
  · have ha : ¬ (vn 0 = 4 ∨ vn 0 = 5) := ha
    rw [if_neg ha] at hK
    unfold axS ayS at hK
    have h0' : v1N vn 0 = 0 := h0
    rw [if_pos h0', if_pos h0'] at hK
    exact ⟨fun q => absurd h0 q, fun _ => h53 _ _ z_126 z_126 hK⟩
/-! the model's -/
theorem w_hold {n m : Nat} {vn vp vq vd vo : Nat → Int32} {x h h' : UInt32} (h2 : ¬ vn 0 = 2) : wS n m vn vp vq vd vo x h = wS n m vn vp vq vd vo x h' := by
  unfold wS
  rw [if_neg h2, if_neg h2]
theorem mv_cg {vf mf : Nat → UInt32} (hk : ∀ k, k < 4 → mf k = vf k) (ax ay : UInt32) : ∀ k, k < 4 → mvS mf ax ay k = mvS vf ax ay k := by
  intro k h
  unfold mvS vf_upd
  rw [hk 0 (by decide), hk 1 (by decide), hk 2 (by decide), hk 3 (by decide)]
  rw [hk k h]
theorem ar_cg {vn vs : Nat → Int32} {vf mf : Nat → UInt32} (hk : ∀ k, k < 4 → mf k = vf k) : arN vn vs mf = arN vn vs vf := by
  unfold arN geB
  rw [hk 1 (by decide), hk 2 (by decide)]
