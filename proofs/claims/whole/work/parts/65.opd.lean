/-! sensors, text, undo, slots -/
theorem rN_cgs {vn vs vp vq vd vo mn mn' : Nat → Int32} (hR : rN vn vs vp vq vd vo mn) (h : ∀ j, j < 40 → mn' j = mn j) : rN vn vs vp vq vd vo mn' := by
  obtain ⟨r1, r2, r3, r4⟩ := hR
  exact ⟨fun i hi => (h _ (by omega)).trans (r1 i hi), fun i hi => (h _ (by omega)).trans (r2 i hi), fun i hi => ⟨(h _ (by omega)).trans (r3 i hi).1, (h _ (by omega)).trans (r3 i hi).2⟩, fun i hi => ⟨(h _ (by omega)).trans (r4 i hi).1, (h _ (by omega)).trans (r4 i hi).2⟩⟩
theorem h_op_4 : op_4 LIx := by
  intro vn vf vs vp vq vd vo un uf us up uq ud uo tm tx hc hh ss sv mn mf mk mG mv mt mm s1 s2 hL
  have hL' := hL
  obtain ⟨hP, hQ, hS, hT⟩ := hL'
  have hP' := hP
  obtain ⟨n, m, ⟨hp, hs, ht, hf, ho⟩, hW⟩ := hP'
  have hR := hW.1
  have e4 : mn 4 = vn 4 := hR.1 4 (by decide)
  unfold vX6_setBias vX7_setBias
  have hbz : bz (if s1 = 0 then (0 : Int32) else 1) := by
    split
    · exact .inl rfl
    · exact .inr rfl
  generalize (if s1 = 0 then (0 : Int32) else 1) = p at *
  have fin : ∀ (j : Nat) (q r : Int32) (mk' : Nat → Int32) (mG' : Nat → UInt32) (mm' : Nat → Int32), j < 12 → (∀ v, okN m v → okN m (upd v j s2)) → (¬ j = 10 ∧ ¬ j = 11 ∧ ¬ j = 0 ∧ ¬ j = 5) → q = r → KR (hck hc) (hhk hc hh (vn, vf, vs, vp, vq, vd, vo)) mk' mG' mm' → SR ss sv mk' mG' mv → mm' 1 = mm 1 → q = r ∧ LIx (upd vn j s2) vf vs vp vq vd vo un uf us up uq ud uo tm tx (hck hc) (hhk hc hh (vn, vf, vs, vp, vq, vd, vo)) ss sv (upd mn j s2) mf mk' mG' mv mt mm' := by
    intro j q r mk' mG' mm' hj hok hne hqr hQ' hS' hm'
    refine ⟨hqr, LIx_mk ⟨n, m, ⟨pOk_cg hp ?_, sOk_cg hs ?_, ht, hf, hok _ ho⟩, rN_un hR hj s2, hW.2.1, hW.2.2.1, fun w => ?_⟩ hQ' hS' (TR_cg hT hm')⟩
    · unfold upd
      rw [if_neg (by omega)]
    · unfold upd
      rw [if_neg (by omega)]
    · unfold upd at w
      rw [if_neg (by omega)] at w
      have := hW.2.2.2 w
      have e5 : (upd vn j s2) 5 = vn 5 := by
        unfold upd
        rw [if_neg (by omega)]
      rw [this]
      unfold mh
      rw [e5]
  refine s6_isBeyond c_500 (by decide) (fun h => ⟨fun q => absurd q (by decide), fun _ => ?_⟩) (fun a b => ⟨fun _ => ⟨hQ.kpre hP, fun h1 => ?_, fun h1 => ?_⟩, fun q => absurd rfl q⟩)
  · exact s7_isIn c_n500 c_500 (fun a b => absurd ⟨a, b⟩ h) (fun _ => ⟨fun q => absurd rfl q, fun _ => ⟨rfl, hL⟩⟩)
  · subst h1
    have ok6 : ∀ v, okN m v → okN m (upd v 6 s2) := fun v hv => okN_cg hv rfl hv.1 rfl
    have hx : ∀ (K : Int32 → ((Nat → Int32) × (Nat → Int32) × (Nat → UInt32) × (Nat → Int32)) → Prop), (∀ mk' mG' mm', KR (hck hc) (hhk hc hh (vn, vf, vs, vp, vq, vd, vo)) mk' mG' mm' → SR ss sv mk' mG' mv → mm' 1 = mm 1 → K (if vn 4 = 0 then 1 else 0) (upd mn 6 s2, mk', mG', mm')) → vX7_setBias mn mf mk mG mm 0 s2 K := by
      intro K hK
      unfold vX7_setBias vX7_setBias_35 vX7_setBias_54
      refine s7_isIn c_n500 c_500 (fun _ _ => ⟨fun _ => s7_rec hP hQ hS (fun mk' mG' mm' hQ' hS' hm' => ⟨fun _ => ?_, fun q => absurd rfl q⟩), fun q => absurd q (by decide)⟩) (fun q => absurd ⟨a, b⟩ q)
      have hk := hK mk' mG' mm' hQ' hS' hm'
      rw [show (6 : Int32) + 0 = 6 by rfl, tc_6]
      have e4' : (upd mn 6 s2) 4 = vn 4 := e4
      rw [e4']
      refine ⟨vi_6 (by decide), fun h => ⟨fun q => absurd rfl q, fun _ => ?_⟩, fun h => ⟨fun _ => ?_, fun q => ?_⟩⟩
      · rw [if_pos (ho.1.resolve_right h)] at hk
        exact hk
      · rw [if_neg (by rw [h]; decide)] at hk
        exact hk
      · exact absurd q (by decide)
    unfold vX6_setBias_49
    refine ⟨fun h => hx _ (fun mk' mG' mm' hQ' hS' hm' => fin 6 _ _ _ _ _ (by decide) ok6 (by decide) ?_ hQ' hS' hm'), fun h => hx _ (fun mk' mG' mm' hQ' hS' hm' => fin 6 _ _ _ _ _ (by decide) ok6 (by decide) ?_ hQ' hS' hm')⟩
    · have h : ¬ vn 4 = 0 := h
      rw [if_neg h]
    · have h : vn 4 = 0 := h
      rw [if_pos h]
  · have ep : p = 1 := hbz.resolve_left h1
    subst ep
    have ok7 : ∀ v, okN m v → okN m (upd v 7 s2) := fun v hv => okN_cg hv rfl hv.1 rfl
    have hx : ∀ (K : Int32 → ((Nat → Int32) × (Nat → Int32) × (Nat → UInt32) × (Nat → Int32)) → Prop), (∀ mk' mG' mm', KR (hck hc) (hhk hc hh (vn, vf, vs, vp, vq, vd, vo)) mk' mG' mm' → SR ss sv mk' mG' mv → mm' 1 = mm 1 → K (if vn 4 = 1 then 1 else 0) (upd mn 7 s2, mk', mG', mm')) → vX7_setBias mn mf mk mG mm 1 s2 K := by
      intro K hK
      unfold vX7_setBias vX7_setBias_35 vX7_setBias_54
      refine s7_isIn c_n500 c_500 (fun _ _ => ⟨fun _ => s7_rec hP hQ hS (fun mk' mG' mm' hQ' hS' hm' => ⟨fun q => absurd q (by decide), fun _ => ?_⟩), fun q => absurd q (by decide)⟩) (fun q => absurd ⟨a, b⟩ q)
      have hk := hK mk' mG' mm' hQ' hS' hm'
      rw [show (6 : Int32) + 1 = 7 by rfl, tc_7]
      have e4' : (upd mn 7 s2) 4 = vn 4 := e4
      rw [e4']
      refine ⟨vi_7 (by decide), fun h => ⟨fun _ => ?_, fun q => ?_⟩, fun h => ⟨fun q => absurd rfl q, fun _ => ?_⟩⟩
      · rw [if_neg h] at hk
        exact hk
      · exact absurd q (by decide)
      · rw [if_pos h] at hk
        exact hk
    unfold vX6_setBias_49
    refine ⟨fun h => hx _ (fun mk' mG' mm' hQ' hS' hm' => fin 7 _ _ _ _ _ (by decide) ok7 (by decide) ?_ hQ' hS' hm'), fun h => hx _ (fun mk' mG' mm' hQ' hS' hm' => fin 7 _ _ _ _ _ (by decide) ok7 (by decide) ?_ hQ' hS' hm')⟩
    · have h : ¬ vn 4 = 1 := h
      rw [if_neg h]
    · have h : vn 4 = 1 := h
      rw [if_pos h]
theorem c_32 : (32 : Int32).toInt = 32 := by decide
theorem c_126 : (126 : Int32).toInt = 126 := by decide
theorem nar_by : ∀ k : Nat, k < 127 → vp_nar .byte (Int8.toInt32 (Int32.toInt8 (nI k))) = nI k := by decide +kernel
theorem h_op_10 : op_10 LIx := by
  intro vn vf vs vp vq vd vo un uf us up uq ud uo tm tx hc hh ss sv mn mf mk mG mv mt mm s1 hL
  have hL' := hL
  obtain ⟨hP, hQ, hS, ⟨l, hl, t1, t2, t3⟩⟩ := hL'
  unfold vX6_append vX7_append
  rw [i_lt, i_le, c_32, c_126, t1, t2, show (80 : Int32) = nI 80 by rfl, nI_ltI (by omega) (by omega), nI_eq (by omega) (by omega), nI_cl (by omega)]
  refine ⟨fun h => ?_, fun h => ⟨fun g => ⟨fun g2 => ⟨nI_in2 g2 (by omega), ?_⟩, fun g2 => ?_⟩, fun g => ?_⟩⟩
  · exact s7_isIn c_32 c_126 (fun a b => by omega) (fun _ => ⟨fun q => absurd rfl q, fun _ => ⟨rfl, hL⟩⟩)
  · refine s7_isIn c_32 c_126 (fun a b => ⟨fun _ => ⟨fun _ => ⟨nI_in2 g2 (by omega), ?_⟩, fun q => by omega⟩, fun q => absurd q (by decide)⟩) (fun q => by omega)
    obtain ⟨k, hk, e⟩ : ∃ k : Nat, k < 127 ∧ s1 = nI k := ⟨s1.toInt.toNat, by omega, i_of (by omega)⟩
    subst e
    rw [nar_by k hk]
    refine ⟨rfl, LIx_mk hP ?_ hS ⟨l + 1, by omega, nI_1 l, nI_1 l, fun j hj => ?_⟩⟩
    · exact hQ
    · show (if j = l then nI k else tx j) = (if j = l then nI k else mt j) ∧ 0 ≤ (if j = l then nI k else tx j).toInt ∧ (if j = l then nI k else tx j).toInt ≤ 126
      split
      · rw [i_nI (by omega)]
        exact ⟨rfl, by omega, by omega⟩
      · exact t3 j hj
  · exact s7_isIn c_32 c_126 (fun a b => ⟨fun _ => ⟨fun q => absurd (by omega) q, fun _ => ⟨rfl, hL⟩⟩, fun q => absurd q (by decide)⟩) (fun q => by omega)
  · exact s7_isIn c_32 c_126 (fun a b => by omega) (fun _ => ⟨fun q => absurd rfl q, fun _ => ⟨rfl, hL⟩⟩)
theorem h_op_11 : op_11 LIx := by
  intro vn vf vs vp vq vd vo un uf us up uq ud uo tm tx hc hh ss sv mn mf mk mG mv mt mm hL
  obtain ⟨hP, hQ, hS, ⟨l, hl, t1, t2, t3⟩⟩ := hL
  exact ⟨t1.trans t2.symm, LIx_mk hP hQ hS ⟨0, by omega, rfl, rfl, t3⟩⟩
theorem PR_id {vn : Nat → Int32} {vf : Nat → UInt32} {vs vp vq vd vo mn mn' : Nat → Int32} {mf mf' : Nat → UInt32} (h : PR vn vf vs vp vq vd vo mn mf) (e6 : ∀ j, j < 40 → mn' j = mn j) (e7 : ∀ j, j < 5 → mf' j = mf j) : PR vn vf vs vp vq vd vo mn' mf' := PR_cg h (fun _ _ => rfl) (fun _ _ => rfl) (fun _ _ => rfl) (fun _ _ => ⟨rfl, rfl⟩) (fun _ _ => ⟨rfl, rfl⟩) e6 e7
theorem h_op_14 : op_14 LIx := by
  intro vn vf vs vp vq vd vo un uf us up uq ud uo tm tx hc hh ss sv mn mf mk mG mv mt mm hL
  have hL' := hL
  obtain ⟨hP, ⟨c, h5, e1, e2, hr⟩, hS, hT⟩ := hL'
  unfold vX6_undo vX7_undo
  rw [e1, e2, show (1 : Int32) = nI 1 by rfl, nI_leI (by omega) (by omega)]
  have e0 : nI c = (0 : Int32) ↔ c = 0 := nI_eq (a := c) (b := 0) (by omega) (by omega)
  rw [e0]
  refine ⟨fun h => ?_, fun h => ?_⟩
  · obtain ⟨d, rfl⟩ : ∃ d, c = d + 1 := ⟨c - 1, by omega⟩
    have ed : nI (d + 1) - nI 1 = nI d := nI_m1 (j := d + 1) (by omega)
    unfold tpre
    rw [e1, show (1 : Int32) = nI 1 by rfl, ed, nI_cl (by omega)]
    have hrow := hr d (by omega)
    refine ⟨⟨nI_in2 (by omega) (by omega), hrow.pre⟩, ⟨fun _ => s7_brings (by omega) (fun mn' mf' q1 q2 => ⟨rfl, LIx_mk (PR_id hrow q1 q2) ⟨d, by omega, rfl, rfl, fun i hi => hr i (by omega)⟩ hS (TR_cg hT rfl)⟩), fun q => by omega⟩⟩
  · exact ⟨fun q => absurd (by omega) q, fun _ => ⟨rfl, hL⟩⟩
theorem h_op_15 : op_15 LIx := by
  intro vn vf vs vp vq vd vo un uf us up uq ud uo tm tx hc hh ss sv mn mf mk mG mv mt mm s1 hL
  have hL' := hL
  obtain ⟨hP, hQ, hS, hT⟩ := hL'
  unfold vX6_save vX7_save
  have c_2 : (2 : Int32).toInt = 2 := by decide
  rw [i_lt, i_lt, c_0, c_2]
  refine ⟨fun h => ?_, fun h => ⟨fun g => ?_, fun g => ?_⟩⟩
  · exact s7_isIn c_0 c_1 (fun a b => by omega) (fun _ => ⟨fun q => absurd rfl q, fun _ => ⟨rfl, hL⟩⟩)
  · obtain ⟨j, hj, e⟩ : ∃ j : Nat, j < 2 ∧ s1 = nI j := ⟨s1.toInt.toNat, by omega, i_of (by omega)⟩
    subst e
    rw [nI_cl (by omega), nar_1]
    refine ⟨nI_in2 hj (by omega), hP.pre, nI_in2 hj (by omega), s7_isIn c_0 c_1 (fun a b => ⟨fun _ => ?_, fun q => absurd q (by decide)⟩) (fun q => by
      rw [i_nI (by omega)] at q
      omega)⟩
    rw [show (5 : Int32) + nI j = nI (5 + j) from nI_add 5 j]
    have hP' := hP
    obtain ⟨n, m, -, hW⟩ := hP'
    obtain ⟨c, h5, e1, e2, hr⟩ := hQ
    refine s7_keeps (by omega) (fun mk' mG' q1 q2 => ⟨nI_in2 hj (by omega), (hW.1.1 0 (by decide)).symm, LIx_mk hP ⟨c, h5, e1, e2, fun i hi => PRc_cg (hr i hi) (fun k hk => ?_) (fun k hk => ?_)⟩ (fun k hk => ?_) hT⟩)
    · dsimp only
      rw [q1, if_neg (by omega)]
    · dsimp only
      rw [q2, if_neg (by omega)]
    · by_cases e : k = j
      · subst e
        refine ⟨?_, ?_, fun _ => ?_⟩
        · show (if k = k then (1 : Int32) else sv k) = (if k = k then (1 : Int32) else mv k)
          rw [if_pos rfl, if_pos rfl]
        · show bz (if k = k then (1 : Int32) else sv k)
          rw [if_pos rfl]
          exact .inr rfl
        · dsimp only
          rw [hset_eq]
          refine PR_id hP (fun i hi => ?_) (fun i hi => ?_)
          · rw [q1, if_pos (by omega), Nat.add_sub_cancel_left]
          · rw [q2, if_pos (by omega), Nat.add_sub_cancel_left]
      · obtain ⟨a1, a2, a3⟩ := hS k hk
        refine ⟨?_, ?_, fun q => ?_⟩
        · show (if k = j then (1 : Int32) else sv k) = (if k = j then (1 : Int32) else mv k)
          rw [if_neg e, if_neg e]
          exact a1
        · show bz (if k = j then (1 : Int32) else sv k)
          rw [if_neg e]
          exact a2
        · have q : ¬ (if k = j then (1 : Int32) else sv k) = 0 := q
          rw [if_neg e] at q
          dsimp only
          rw [hset_ne e]
          refine PRc_cg (a3 q) (fun i hi => ?_) (fun i hi => ?_)
          · rw [q1, if_neg (by omega)]
          · rw [q2, if_neg (by omega)]
  · exact s7_isIn c_0 c_1 (fun a b => by omega) (fun _ => ⟨fun q => absurd rfl q, fun _ => ⟨rfl, hL⟩⟩)
theorem h_op_16 : op_16 LIx := by
  intro vn vf vs vp vq vd vo un uf us up uq ud uo tm tx hc hh ss sv mn mf mk mG mv mt mm s1 hL
  have hL' := hL
  obtain ⟨hP, hQ, hS, hT⟩ := hL'
  unfold vX6_restore vX7_restore
  have c_2 : (2 : Int32).toInt = 2 := by decide
  rw [i_lt, i_lt, c_0, c_2]
  refine ⟨fun h => ?_, fun h => ⟨fun g => ?_, fun g => ?_⟩⟩
  · exact s7_isIn c_0 c_1 (fun a b => by omega) (fun _ => ⟨fun q => absurd rfl q, fun _ => ⟨rfl, hL⟩⟩)
  · obtain ⟨j, hj, e⟩ : ∃ j : Nat, j < 2 ∧ s1 = nI j := ⟨s1.toInt.toNat, by omega, i_of (by omega)⟩
    subst e
    rw [nI_cl (by omega)]
    obtain ⟨a1, a2, a3⟩ := hS j hj
    have hin : ∀ {Q : Int32 → Unit → Prop}, Q 1 () → vX7_isIn (nI j) 0 1 Q := fun hQ => s7_isIn c_0 c_1 (fun _ _ => hQ) (fun q => by
      rw [i_nI (by omega)] at q
      omega)
    refine ⟨nI_in2 hj (by omega), fun hne => ⟨hQ.kpre hP, nI_in2 hj (by omega), (a3 hne).pre, ?_⟩, fun h0 => ?_⟩
    · refine hin ⟨fun _ => ⟨nI_in2 hj (by omega), fun _ => s7_rec hP hQ hS (fun mk' mG' mm' hQ' hS' hm' => ?_), fun q => absurd (a1.trans q) hne⟩, fun q => absurd q (by decide)⟩
      rw [show (5 : Int32) + nI j = nI (5 + j) from nI_add 5 j]
      obtain ⟨b1, b2, b3⟩ := hS' j hj
      have hrow := b3 hne
      refine s7_brings (by omega) (fun mn' mf' q1 q2 => ?_)
      have hP2 := PR_id hrow q1 q2
      have hP3 := hP2
      obtain ⟨n, m, -, hW⟩ := hP3
      exact ⟨(hW.1.1 0 (by decide)).symm, LIx_mk hP2 hQ' hS' (TR_cg hT hm')⟩
    · exact hin ⟨fun _ => ⟨nI_in2 hj (by omega), fun q => absurd (a1.symm.trans h0) q, fun _ => ⟨rfl, hL⟩⟩, fun q => absurd q (by decide)⟩
  · exact s7_isIn c_0 c_1 (fun a b => by omega) (fun _ => ⟨fun q => absurd rfl q, fun _ => ⟨rfl, hL⟩⟩)
