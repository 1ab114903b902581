/-! a second -/
def okN (m : Nat) (vn : Nat → Int32) : Prop := bz (vn 4) ∧ (0 ≤ (vn 0).toInt ∧ (vn 0).toInt ≤ 5) ∧ hOk vn m ∧ (vn 0 = 2 ∨ vn 5 = -5)
def sI (n m : Nat) (vn : Nat → Int32) (vf : Nat → UInt32) (vs vp vq vd vo : Nat → Int32) : Prop := pOk vn vp vq n ∧ sOk vn vd vo m ∧ tOk vs ∧ fOk vf ∧ okN m vn
def rW (vn : Nat → Int32) (vf : Nat → UInt32) (vs vp vq vd vo mn : Nat → Int32) (mf : Nat → UInt32) : Prop := rN vn vs vp vq vd vo mn ∧ (∀ k, k < 4 → mf k = vf k) ∧ ml 178 (mf 4) ∧ (vn 0 = 2 → vf 4 = mh vn vd (mf 4))
theorem rW.fOk {vn : Nat → Int32} {vf : Nat → UInt32} {vs vp vq vd vo mn : Nat → Int32} {mf : Nat → UInt32} (h : rW vn vf vs vp vq vd vo mn mf) (hf : fOk vf) : fOk mf := by
  obtain ⟨-, hk, h4, -⟩ := h
  obtain ⟨⟨a0, a1, a2, a3, a4⟩, n0, n1, n2, n3⟩ := hf
  rw [← hk 0 (by decide)] at a0 n0
  rw [← hk 1 (by decide)] at a1 n1
  rw [← hk 2 (by decide)] at a2 n2
  rw [← hk 3 (by decide)] at a3 n3
  exact ⟨⟨a0, a1, a2, a3, h4⟩, n0, n1, n2, n3⟩
theorem jd_cg {n : Nat} {vs vp vq : Nat → Int32} {vf mf : Nat → UInt32} (hk : ∀ k, k < 4 → mf k = vf k) : jd n vs vp vq mf = jd n vs vp vq vf := by
  unfold jd driftB
  rw [hk 0 (by decide), hk 1 (by decide), hk 2 (by decide), hk 3 (by decide)]
def v1N (vn : Nat → Int32) : Nat → Int32 := upd vn 1 (vn 1 + 1)
def axS (n m : Nat) (vs vp vq vd vo vn : Nat → Int32) (vf : Nat → UInt32) : UInt32 := if vn 0 = 0 then FP.fconst0 else alS vs (vf 0) (wS n m vn vp vq vd vo (vf 0) (vf 4)) (vf 2)
def ayS (vs vn : Nat → Int32) (vf : Nat → UInt32) : UInt32 := if vn 0 = 0 then FP.fconst0 else acS vs (vf 1) (vf 3)
def h3S (m : Nat) (vd vo vn : Nat → Int32) (vf : Nat → UInt32) : (Nat → Int32) × (Nat → UInt32) := if vn 0 = 1 then haS m vd vo vn vf else (vn, vf)
def enS (n m : Nat) (vs vp vq vd vo vn : Nat → Int32) (vf : Nat → UInt32) : (Nat → Int32) × (Nat → UInt32) := if fk (vf 0) ≤ 0 then (arN vn vs vf, zfF vf) else laS n vs vp vq (h3S m vd vo (cmN vn (vf 0)) vf).1 (h3S m vd vo (cmN vn (vf 0)) vf).2
def secS (n m : Nat) (vs vp vq vd vo vn : Nat → Int32) (vf : Nat → UInt32) : (Nat → Int32) × (Nat → UInt32) := if vn 0 = 4 ∨ vn 0 = 5 then (v1N vn, vf) else enS n m vs vp vq vd vo (v1N vn) (mvS vf (axS n m vs vp vq vd vo (v1N vn) vf) (ayS vs (v1N vn) vf))
theorem s4_arrived {vn : Nat → Int32} {K : Int32 → Unit → Prop} (h1 : vn 0 = 4 ∨ vn 0 = 5 → K 1 ()) (h0 : ¬ (vn 0 = 4 ∨ vn 0 = 5) → K 0 ()) : vX4_hasArrived vn K := by
  unfold vX4_hasArrived vX4_hasArrived_16
  exact ⟨fun h => h1 (.inl h), fun h => ⟨fun h2 => h0 (fun q => q.elim h h2), fun h2 => h1 (.inr h2)⟩⟩
theorem z_126 : ml 126 FP.fconst0 := by unfold ml; decide
theorem ax_ml {n m : Nat} {vs vp vq vd vo vn : Nat → Int32} {vf : Nat → UInt32} (ht : tOk vs) : ml 126 (axS n m vs vp vq vd vo vn vf) := by
  unfold axS
  split
  · exact z_126
  · exact al_ml ht _ _ _
theorem ay_ml {vs vn : Nat → Int32} {vf : Nat → UInt32} (ht : tOk vs) : ml 126 (ayS vs vn vf) := by
  unfold ayS
  split
  · exact z_126
  · exact ac_ml ht _ _
/-! what stays -/
theorem r_2 : 0 ≤ (2 : Int32).toInt ∧ (2 : Int32).toInt ≤ 5 := by decide
theorem r_3 : 0 ≤ (3 : Int32).toInt ∧ (3 : Int32).toInt ≤ 5 := by decide
theorem zf_ok {vf : Nat → UInt32} (hf : fOk vf) : fOk (zfF vf) := by
  obtain ⟨⟨a0, a1, a2, a3, a4⟩, n0, n1, n2, n3⟩ := hf
  have z : nz FP.fconst0 := by unfold nz; decide
  exact ⟨⟨z_126.mono (by decide), a1, z_126.mono (by decide), z_126.mono (by decide), a4⟩, z, n1, z, z⟩
theorem pOk_cg {n : Nat} {vn vn' vp vq : Nat → Int32} (h : pOk vn vp vq n) (e : vn' 10 = vn 10) : pOk vn' vp vq n := ⟨h.1, e.trans h.2.1, h.2.2⟩
theorem sOk_cg {m : Nat} {vn vn' vd vo : Nat → Int32} (h : sOk vn vd vo m) (e : vn' 11 = vn 11) : sOk vn' vd vo m := ⟨h.1, e.trans h.2.1, h.2.2⟩
theorem okN_cg {m : Nat} {vn vn' : Nat → Int32} (h : okN m vn) (e0 : vn' 0 = vn 0) (e4 : bz (vn' 4)) (e5 : vn' 5 = vn 5) : okN m vn' := by
  obtain ⟨a, b, c, d⟩ := h
  unfold okN hOk
  rw [e0, e5]
  exact ⟨e4, b, c, d⟩
theorem ar_ok {m : Nat} {vn vs : Nat → Int32} {vf : Nat → UInt32} (h : okN m vn) : okN m (arN vn vs vf) := by
  refine ⟨h.1, ?_, .inl rfl, .inr rfl⟩
  show 0 ≤ ((if geB vs vf = true then (4 : Int32) else 5)).toInt ∧ ((if geB vs vf = true then (4 : Int32) else 5)).toInt ≤ 5
  split <;> decide
theorem cm_ok {m : Nat} {vn : Nat → Int32} {x : UInt32} (h : okN m vn) : okN m (cmN vn x) ∧ cmN vn x 10 = vn 10 ∧ cmN vn x 11 = vn 11 ∧ cmN vn x 0 = vn 0 ∧ cmN vn x 5 = vn 5 := by
  unfold cmN
  split
  · exact ⟨okN_cg h rfl (.inr rfl) rfl, rfl, rfl, rfl, rfl⟩
  · split
    · exact ⟨okN_cg h rfl (.inl rfl) rfl, rfl, rfl, rfl, rfl⟩
    · exact ⟨okN_cg h rfl h.1 rfl, rfl, rfl, rfl, rfl⟩
theorem h3_ok {m : Nat} {vn vd vo : Nat → Int32} {vf : Nat → UInt32} (h : okN m vn) (hf : fOk vf) : okN m (h3S m vd vo vn vf).1 ∧ fOk (h3S m vd vo vn vf).2 ∧ (h3S m vd vo vn vf).1 10 = vn 10 ∧ (h3S m vd vo vn vf).1 11 = vn 11 := by
  unfold h3S
  split
  · unfold haS hv
    rcases hr_facts m vd vo vf with q | ⟨j, hj, q⟩
    · rw [if_pos q, if_pos q]
      exact ⟨h, hf, rfl, rfl⟩
    · by_cases e : hrS m vd vo vf = -5
      · rw [if_pos e, if_pos e]
        exact ⟨h, hf, rfl, rfl⟩
      · rw [if_neg e, if_neg e]
        refine ⟨⟨h.1, r_2, .inr ⟨j, hj, q⟩, .inl rfl⟩, ?_, rfl, rfl⟩
        obtain ⟨⟨a0, a1, a2, a3, a4⟩, nn⟩ := hf
        exact ⟨⟨a0, a1, a2, a3, ((mg_m _).mono (by decide)).ml⟩, nn⟩
  · exact ⟨h, hf, rfl, rfl⟩
theorem la_ok {n m : Nat} {vs vp vq vn : Nat → Int32} {vf : Nat → UInt32} (h : okN m vn) (hf : fOk vf) : okN m (laS n vs vp vq vn vf).1 ∧ fOk (laS n vs vp vq vn vf).2 ∧ (laS n vs vp vq vn vf).1 10 = vn 10 ∧ (laS n vs vp vq vn vf).1 11 = vn 11 := by
  unfold laS
  split
  · unfold stN
    split
    · exact ⟨⟨h.1, r_3, .inl rfl, .inr rfl⟩, hf, rfl, rfl⟩
    · exact ⟨okN_cg h rfl h.1 rfl, hf, rfl, rfl⟩
  · split
    · refine ⟨⟨h.1, r_2, .inl rfl, .inl rfl⟩, ?_, rfl, rfl⟩
      obtain ⟨⟨a0, a1, a2, a3, a4⟩, nn⟩ := hf
      exact ⟨⟨a0, a1, a2, a3, a0⟩, nn⟩
    · exact ⟨h, hf, rfl, rfl⟩
theorem en_ok {n m : Nat} {vs vp vq vd vo vn : Nat → Int32} {vf : Nat → UInt32} (h : okN m vn) (hf : fOk vf) : okN m (enS n m vs vp vq vd vo vn vf).1 ∧ fOk (enS n m vs vp vq vd vo vn vf).2 ∧ (enS n m vs vp vq vd vo vn vf).1 10 = vn 10 ∧ (enS n m vs vp vq vd vo vn vf).1 11 = vn 11 := by
  unfold enS
  split
  · exact ⟨ar_ok h, zf_ok hf, rfl, rfl⟩
  · obtain ⟨c1, c2, c3, c4, c5⟩ := cm_ok (x := vf 0) h
    obtain ⟨d1, d2, d3, d4⟩ := h3_ok (vd := vd) (vo := vo) c1 hf
    obtain ⟨e1, e2, e3, e4⟩ := la_ok (n := n) (vs := vs) (vp := vp) (vq := vq) d1 d2
    exact ⟨e1, e2, e3.trans (d3.trans c2), e4.trans (d4.trans c3)⟩
theorem sec_ok {n m : Nat} {vs vp vq vd vo vn : Nat → Int32} {vf : Nat → UInt32} (h : sI n m vn vf vs vp vq vd vo) : sI n m (secS n m vs vp vq vd vo vn vf).1 (secS n m vs vp vq vd vo vn vf).2 vs vp vq vd vo := by
  obtain ⟨hp, hs, ht, hf, ho⟩ := h
  unfold secS
  split
  · exact ⟨pOk_cg hp rfl, sOk_cg hs rfl, ht, hf, okN_cg ho rfl ho.1 rfl⟩
  · obtain ⟨e1, e2, e3, e4⟩ := en_ok (n := n) (vs := vs) (vp := vp) (vq := vq) (vd := vd) (vo := vo) (okN_cg (vn' := v1N vn) ho rfl ho.1 rfl) (mv_ok hf (ax_ml (n := n) (m := m) (vs := vs) (vp := vp) (vq := vq) (vd := vd) (vo := vo) (vn := v1N vn) (vf := vf) ht) (ay_ml (vs := vs) (vn := v1N vn) (vf := vf) ht))
    exact ⟨pOk_cg hp e3, sOk_cg hs e4, ht, e2, e1⟩
theorem s4_second {n m : Nat} {vs vp vq vd vo vn : Nat → Int32} {vf : Nat → UInt32} (h : sI n m vn vf vs vp vq vd vo) {K : ((Nat → Int32) × (Nat → UInt32)) → Prop} (hK : K (secS n m vs vp vq vd vo vn vf)) : vX4_passSecond vn vf vs vp vq vd vo K := by
  obtain ⟨hp, hs, ht, hf, ho⟩ := h
  have hp1 : pOk (v1N vn) vp vq n := pOk_cg hp rfl
  have hs1 : sOk (v1N vn) vd vo m := sOk_cg hs rfl
  have ho1 : okN m (v1N vn) := okN_cg ho rfl ho.1 rfl
  unfold vX4_passSecond
  unfold secS at hK
  have h53 : ∀ ax ay : UInt32, ml 126 ax → ml 126 ay → K (enS n m vs vp vq vd vo (v1N vn) (mvS vf ax ay)) → vX4_passSecond_53 (v1N vn) vf vs vp vq vd vo ax ay K := by
    intro ax ay hax hay hk
    have hf1 := mv_ok hf hax hay
    have q := hf1.1
    have hx1 : ml 178 (mvS vf ax ay 0) := q.1
    unfold enS at hk
    obtain ⟨c1, c2, c3, c4, c5⟩ := cm_ok (x := mvS vf ax ay 0) ho1
    refine ⟨q.2.2.1.mg.n32 (by decide), q.2.2.2.1.mg.n32 (by decide), q.1.mg.n32 (by decide), q.2.1.mg.n32 (by decide), fun h0 => s3_compare hx1 ?_, fun h0 => s4_arrive hf1 ?_⟩
    · have h0 : fk FP.fconst0 < fk (mvS vf ax ay 0) := (cg_lt (q.1.mg.nn (by decide)) nn_0).mp h0
      rw [fk_0] at h0
      rw [if_neg (by omega)] at hk
      have hp2 : pOk (cmN (v1N vn) (mvS vf ax ay 0)) vp vq n := pOk_cg hp1 c2
      have hs2 : sOk (cmN (v1N vn) (mvS vf ax ay 0)) vd vo m := sOk_cg hs1 c3
      refine ⟨fun h1 => s4_137 hp2 ht hf1 ?_, fun h1 => s4_holdAt hs2 hf1 ?_⟩
      · unfold h3S at hk
        rw [if_neg h1] at hk
        exact hk
      · obtain ⟨d1, d2, d3, d4⟩ := h3_ok (vd := vd) (vo := vo) c1 hf1
        unfold h3S at hk d1 d2 d3 d4
        have h1' : cmN (v1N vn) (mvS vf ax ay 0) 0 = 1 := h1
        rw [if_pos h1'] at hk d1 d2 d3 d4
        exact s4_137 (pOk_cg hp2 d3) ht d2 hk
    · have h0 : ¬ fk FP.fconst0 < fk (mvS vf ax ay 0) := fun z => h0 ((cg_lt (q.1.mg.nn (by decide)) nn_0).mpr z)
      rw [fk_0] at h0
      rw [if_pos (by omega)] at hk
      exact hk
  refine s4_arrived (vn := v1N vn) (fun ha => ⟨fun q => absurd q (by decide), fun _ => ?_⟩) (fun ha => ⟨fun _ => ⟨fun h0 => ?_, fun h0 => ?_⟩, fun q => absurd rfl q⟩)
  · have ha : vn 0 = 4 ∨ vn 0 = 5 := ha
    rw [if_pos ha] at hK
    exact hK
  · have ha : ¬ (vn 0 = 4 ∨ vn 0 = 5) := ha
    rw [if_neg ha] at hK
    have hax := ax_ml (n := n) (m := m) (vs := vs) (vp := vp) (vq := vq) (vd := vd) (vo := vo) (vn := v1N vn) (vf := vf) ht
    have hay := ay_ml (vs := vs) (vn := v1N vn) (vf := vf) ht
    unfold axS at hK hax
    unfold ayS at hK hay
    have h0' : ¬ v1N vn 0 = 0 := h0
    rw [if_neg h0', if_neg h0'] at hK
    rw [if_neg h0'] at hax hay
    refine s4_wanted hp1 hs1 hf.1.1 hf.1.2.2.2.2 (s4_along hf.1.1 hf.1.2.2.1 (w_mg hp1 hf.1.1 hf.1.2.2.2.2) ⟨fun _ => s4_across hf.1.2.1 hf.1.2.2.2.1 (h53 _ _ hax hay hK), fun q => absurd q h0⟩)
  · have ha : ¬ (vn 0 = 4 ∨ vn 0 = 5) := ha
    rw [if_neg ha] at hK
    unfold axS ayS at hK
    have h0' : v1N vn 0 = 0 := h0
    rw [if_pos h0', if_pos h0'] at hK
    exact ⟨fun q => absurd h0 q, fun _ => h53 _ _ z_126 z_126 hK⟩
/-! the model's -/
theorem w_hold {n m : Nat} {vn vp vq vd vo : Nat → Int32} {x h h' : UInt32} (h2 : ¬ vn 0 = 2) : wS n m vn vp vq vd vo x h = wS n m vn vp vq vd vo x h' := by
  unfold wS
  rw [if_neg h2, if_neg h2]
theorem mv_cg {vf mf : Nat → UInt32} (hk : ∀ k, k < 4 → mf k = vf k) (ax ay : UInt32) : ∀ k, k < 4 → mvS mf ax ay k = mvS vf ax ay k := by
  intro k h
  unfold mvS vf_upd
  rw [hk 0 (by decide), hk 1 (by decide), hk 2 (by decide), hk 3 (by decide)]
  rw [hk k h]
theorem ar_cg {vn vs : Nat → Int32} {vf mf : Nat → UInt32} (hk : ∀ k, k < 4 → mf k = vf k) : arN vn vs mf = arN vn vs vf := by
  unfold arN geB
  rw [hk 1 (by decide), hk 2 (by decide)]
theorem s7_77 {n m : Nat} {vs vp vq vd vo vn mn : Nat → Int32} {vf mf : Nat → UInt32} (hW : rW vn vf vs vp vq vd vo mn mf) (hp : pOk vn vp vq n) (ht : tOk vs) (hf : fOk vf) (ho : okN m vn) {K : ((Nat → Int32) × (Nat → UInt32)) → Prop} (hK : ∀ mn' mf', rW (laS n vs vp vq vn vf).1 (laS n vs vp vq vn vf).2 vs vp vq vd vo mn' mf' → K (mn', mf')) : vX7_passesSecond_77 mn mf K := by
  have hfm := hW.fOk hf
  obtain ⟨hR, hk, h4, hh⟩ := hW
  have e0 : mn 0 = vn 0 := hR.1 0 (by decide)
  unfold vX7_passesSecond_77 vX7_passesSecond_97 vX7_judges
  unfold laS at hK
  rw [e0]
  refine ⟨fun h1 => ?_, fun h1 => ⟨fun h3 => ?_, fun h3 => ?_⟩⟩
  · rw [if_pos h1] at hK
    dsimp only at hK
    have h5 : vn 5 = -5 := ho.2.2.2.resolve_left (by rw [h1]; decide)
    refine s7_judged hR hp ht hfm ⟨fun q => absurd h1 q, fun _ => ?_⟩
    rw [jd_cg hk]
    have h36 : ∀ y : Int32, y = stY vn (jd n vs vp vq vf) → vX7_judges_36 mn mf (jd n vs vp vq vf) 2 y (fun u_98 => K (u_98.1, u_98.2)) := by
      intro y hy
      subst hy
      unfold vX7_judges_36
      rw [tc_2]
      refine ⟨vi_2 (by decide), fun hy => ?_, fun hy => ?_⟩
      · have hy : ¬ stY vn (jd n vs vp vq vf) = 2 := hy
        unfold vX7_judges_72
        refine ⟨fun _ => hK _ _ ⟨?_, hk, h4, fun q => ?_⟩, fun q => ?_⟩
        · unfold stN
          rw [if_neg hy]
          exact rN_un hR (by decide) _
        · unfold stN at q
          rw [if_neg hy] at q
          have q : vn 0 = 2 := q
          rw [h1] at q
          exact absurd q (by decide)
        · have q : mn 0 = 3 := q
          rw [e0, h1] at q
          exact absurd q (by decide)
      · have hy : stY vn (jd n vs vp vq vf) = 2 := hy
        have hj : ¬ jd n vs vp vq vf = 0 := by
          intro q
          unfold stY at hy
          rw [if_pos q] at hy
          exact absurd hy (by decide)
        unfold vX7_judges_72
        refine ⟨fun q => absurd rfl q, fun _ => ⟨fun _ => hK _ _ ⟨?_, hk, h4, fun q => ?_⟩, fun q => absurd q hj⟩⟩
        · unfold stN
          rw [if_pos hy]
          have e8 : (upd (upd (upd mn 2 (stY vn (jd n vs vp vq vf))) 0 3) 2 0) 8 = vn 8 := hR.1 8 (by decide)
          have e8' : (upd mn 2 (stY vn (jd n vs vp vq vf))) 8 = vn 8 := hR.1 8 (by decide)
          rw [e8']
          refine rN_un (rN_un (rN_v (rN_un (rN_un hR (by decide) _) (by decide) _) ?_) (by decide) _) (by decide) _
          exact (hR.1 5 (by decide)).trans h5
        · unfold stN at q
          rw [if_pos hy] at q
          exact absurd q (show ¬ (3 : Int32) = 2 by decide)
    rw [hR.1 2 (by decide)]
    refine ⟨fun q => h36 _ ?_, fun q => h36 _ ?_⟩
    · unfold stY
      rw [if_neg q]
    · unfold stY
      rw [if_pos q]
  · rw [if_neg h1, if_neg (fun q => h3 q.1)] at hK
    exact hK _ _ ⟨hR, hk, h4, hh⟩
  · rw [if_neg h1] at hK
    refine s7_judged hR hp ht hfm ⟨fun _ => ?_, fun q => absurd q h1⟩
    rw [jd_cg hk]
    unfold vX7_judges_72
    rw [e0, cl_le (hfm.1.1.mg.nn (by decide)) nn_50, hk 0 (by decide)]
    refine ⟨fun q => absurd h3 q, fun _ => ⟨fun hj => ?_, fun hj => ⟨fun h5 => ?_, fun h5 => ?_⟩⟩⟩
    · rw [if_neg (fun q => hj q.2.2)] at hK
      exact hK _ _ ⟨hR, hk, h4, hh⟩
    · rw [if_neg (fun q => by have := q.2.1; omega)] at hK
      exact hK _ _ ⟨hR, hk, h4, hh⟩
    · rw [if_pos ⟨h3, by omega, hj⟩] at hK
      refine hK _ _ ⟨rN_un (rN_un hR (by decide) _) (by decide) _, fun k hk4 => ?_, ?_, fun _ => rfl⟩
      · show (if k = 4 then vf 0 else mf k) = (if k = 4 then vf 0 else vf k)
        rw [if_neg (by omega), if_neg (by omega)]
        exact hk k hk4
      · exact hf.1.1
theorem s7_43 {n m : Nat} {vs vp vq vd vo vn mn : Nat → Int32} {vf mf : Nat → UInt32} (hW : rW vn vf vs vp vq vd vo mn mf) (hp : pOk vn vp vq n) (hs : sOk vn vd vo m) (ht : tOk vs) (hf : fOk vf) (ho : okN m vn) {K : ((Nat → Int32) × (Nat → UInt32)) → Prop} (hK : ∀ mn' mf', rW (enS n m vs vp vq vd vo vn vf).1 (enS n m vs vp vq vd vo vn vf).2 vs vp vq vd vo mn' mf' → K (mn', mf')) : vX7_passesSecond_43 mn mf K := by
  have hfm := hW.fOk hf
  obtain ⟨hR, hk, h4, hh⟩ := hW
  have k0 := hk 0 (by decide)
  have k2 := hk 2 (by decide)
  unfold vX7_passesSecond_43
  unfold enS at hK
  rw [cg_lt (hfm.1.1.mg.nn (by decide)) nn_0, fk_0]
  refine ⟨fun h0 => s7_senses hR ho.1 hfm.1.1 (fun mn2 hR2 => ?_), fun h0 => s7_arrives hR hfm (fun mn2 hR2 => ?_)⟩
  · rw [k0] at h0 hR2
    rw [if_neg (by omega)] at hK
    obtain ⟨c1, c2, c3, c4, c5⟩ := cm_ok (x := vf 0) ho
    have hp2 : pOk (cmN vn (vf 0)) vp vq n := pOk_cg hp c2
    have hs2 : sOk (cmN vn (vf 0)) vd vo m := sOk_cg hs c3
    have e0 : mn2 0 = cmN vn (vf 0) 0 := hR2.1 0 (by decide)
    have hh2 : cmN vn (vf 0) 0 = 2 → vf 4 = mh (cmN vn (vf 0)) vd (mf 4) := by
      intro q
      rw [c4] at q
      have := hh q
      unfold mh at this ⊢
      rw [c5]
      exact this
    rw [e0]
    obtain ⟨d1, d2, d3, d4⟩ := h3_ok (vd := vd) (vo := vo) c1 hf
    refine ⟨fun h1 => ?_, fun h1 => ?_⟩
    · unfold h3S at hK
      rw [if_neg h1] at hK
      exact s7_77 ⟨hR2, hk, h4, hh2⟩ hp2 ht hf c1 hK
    · refine s7_stops hR2 hs2 (hfm.1.1.mg.mono (by decide)) (hfm.1.2.2.1.mg.mono (by decide)) (fun mn3 hR3 => ?_)
      rw [k0, k2] at hR3
      have hR3 : rN (hv (cmN vn (vf 0)) (hrS m vd vo vf)) vs vp vq vd vo mn3 := hR3
      unfold h3S at hK d1 d2 d3 d4
      rw [if_pos h1] at hK d1 d2 d3 d4
      refine s7_77 ⟨hR3, ?_, h4, ?_⟩ (pOk_cg hp2 d3) ht d2 d1 hK
      · intro k hk4
        unfold haS
        dsimp only
        split
        · exact hk k hk4
        · unfold vf_upd
          rw [if_neg (by omega)]
          exact hk k hk4
      · intro q
        unfold haS
        dsimp only
        rcases hr_facts m vd vo vf with e | ⟨j, hj, e⟩
        · rw [if_pos e]
          unfold hv at q ⊢
          rw [if_pos e] at q ⊢
          exact hh2 q
        · have h4s := hs.1
          have e5 : ¬ hrS m vd vo vf = -5 := by
            rw [e]
            exact nI_n5 (by omega)
          rw [if_neg e5]
          unfold hv mh
          rw [if_neg e5]
          show m100 (vd (hrS m vd vo vf).toNatClampNeg) = if hrS m vd vo vf = -5 then mf 4 else m100 (vd (hrS m vd vo vf).toNatClampNeg)
          rw [if_neg e5]
  · rw [k0] at h0
    rw [if_pos (by omega)] at hK
    rw [ar_cg hk] at hR2
    refine hK _ _ ⟨hR2, fun k hk4 => ?_, h4, fun q => ?_⟩
    · unfold zfF vf_upd
      dsimp only
      rw [hk k hk4]
    · unfold arN at q
      dsimp only at q
      have q : (if geB vs vf = true then (4 : Int32) else 5) = 2 := q
      split at q
      · exact absurd q (by decide)
      · exact absurd q (by decide)
theorem s7_second {n m : Nat} {vs vp vq vd vo vn mn : Nat → Int32} {vf mf : Nat → UInt32} (hW : rW vn vf vs vp vq vd vo mn mf) (h : sI n m vn vf vs vp vq vd vo) {K : ((Nat → Int32) × (Nat → UInt32)) → Prop} (hK : ∀ mn' mf', rW (secS n m vs vp vq vd vo vn vf).1 (secS n m vs vp vq vd vo vn vf).2 vs vp vq vd vo mn' mf' → K (mn', mf')) : vX7_passesSecond mn mf K := by
  obtain ⟨hp, hs, ht, hf, ho⟩ := h
  have hfm := hW.fOk hf
  obtain ⟨hR, hk, h4, hh⟩ := hW
  have hp1 : pOk (v1N vn) vp vq n := pOk_cg hp rfl
  have hs1 : sOk (v1N vn) vd vo m := sOk_cg hs rfl
  have ho1 : okN m (v1N vn) := okN_cg ho rfl ho.1 rfl
  have hR1 : rN (v1N vn) vs vp vq vd vo (upd mn 1 (mn 1 + 1)) := by
    rw [hR.1 1 (by decide)]
    exact rN_un hR (by decide) _
  have k0 := hk 0 (by decide)
  have k1 := hk 1 (by decide)
  have k2 := hk 2 (by decide)
  have k3 := hk 3 (by decide)
  unfold vX7_passesSecond
  rw [hR.1 0 (by decide)]
  unfold secS at hK
  have hr := ho.2.1
  have c4 : (4 : Int32).toInt = 4 := by decide
  have c5 : (5 : Int32).toInt = 5 := by decide
  refine ⟨fun hl => ?_, fun hl => ?_⟩
  · rw [i_lt, c4] at hl
    have hn : ¬ (vn 0 = 4 ∨ vn 0 = 5) := by
      rintro (q | q) <;> rw [q] at hl
      · omega
      · rw [c5] at hl
        omega
    rw [if_neg hn] at hK
    have hax := ax_ml (n := n) (m := m) (vs := vs) (vp := vp) (vq := vq) (vd := vd) (vo := vo) (vn := v1N vn) (vf := vf) ht
    have hay := ay_ml (vs := vs) (vn := v1N vn) (vf := vf) ht
    have fin : vX7_passesSecond_43 (upd mn 1 (mn 1 + 1)) (mvS mf (axS n m vs vp vq vd vo (v1N vn) vf) (ayS vs (v1N vn) vf)) K := by
      refine s7_43 ⟨hR1, mv_cg hk _ _, h4, hh⟩ hp1 hs1 ht (mv_ok hf hax hay) ho1 hK
    refine ⟨fun h0 => s7_guides hR1 hp1 hs1 ht ho1.1 ho1.2.2.1 hfm ?_, fun h0 => s7_moves hfm z_126 z_126 ?_⟩
    · unfold axS ayS at fin
      have h0' : ¬ v1N vn 0 = 0 := h0
      rw [if_neg h0', if_neg h0'] at fin
      rw [k0, k1, k2, k3]
      by_cases h2 : vn 0 = 2
      · have := hh h2
        have e : mh (v1N vn) vd (mf 4) = vf 4 := this.symm
        rw [e]
        exact fin
      · rw [w_hold (vn := v1N vn) (h := mh (v1N vn) vd (mf 4)) (h' := vf 4) h2]
        exact fin
    · unfold axS ayS at fin
      have h0' : v1N vn 0 = 0 := h0
      rw [if_pos h0', if_pos h0'] at fin
      exact fin
  · rw [i_lt, c4] at hl
    have hn : vn 0 = 4 ∨ vn 0 = 5 := by
      rw [i_eq, i_eq, c4, c5]
      omega
    rw [if_pos hn] at hK
    exact hK _ _ ⟨hR1, hk, h4, hh⟩
