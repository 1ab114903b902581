/-! the calls that record -/
theorem LIx_mk {vn : Nat → Int32} {vf : Nat → UInt32} {vs vp vq vd vo un : Nat → Int32} {uf : Nat → UInt32} {us up uq ud uo tm tx hc : Nat → Int32} {hh ss : Nat → Sx} {sv mn : Nat → Int32} {mf : Nat → UInt32} {mk : Nat → Int32} {mG : Nat → UInt32} {mv mt mm : Nat → Int32} (a : PR vn vf vs vp vq vd vo mn mf) (b : KR hc hh mk mG mm) (c : SR ss sv mk mG mv) (d : TR tm tx mt mm) : LIx vn vf vs vp vq vd vo un uf us up uq ud uo tm tx hc hh ss sv mn mf mk mG mv mt mm := ⟨a, b, c, d⟩
theorem TR_cg {tm tx mt mm mm' : Nat → Int32} (h : TR tm tx mt mm) (e : mm' 1 = mm 1) : TR tm tx mt mm' := by
  obtain ⟨l, h1, h2, h3, h4⟩ := h
  exact ⟨l, h1, h2, e.trans h3, h4⟩
/-- a new ship and new numbers -/
theorem plN_ok {m : Nat} {vn : Nat → Int32} : okN m (upd (upd (upd (upd (upd vn 0 0) 5 (-5)) 2 0) 4 0) 3 0) := ⟨.inl rfl, (by decide : 0 ≤ (0 : Int32).toInt ∧ (0 : Int32).toInt ≤ 5), .inl rfl, .inr rfl⟩
theorem h_op_0 : op_0 LIx := by
  intro vn vf vs vp vq vd vo un uf us up uq ud uo tm tx hc hh ss sv mn mf mk mG mv mt mm s1 s2 s3 s4 hL
  have hL' := hL
  obtain ⟨hP, hQ, hS, hT⟩ := hL'
  have hP' := hP
  obtain ⟨n, m, ⟨hp, hs, ht, hf, ho⟩, hW⟩ := hP'
  have hR := hW.1
  have no : ¬ ((1 ≤ s1.toInt ∧ s1.toInt ≤ 100000) ∧ (-100000 ≤ s2.toInt ∧ s2.toInt ≤ 100000) ∧ (-5000 ≤ s3.toInt ∧ s3.toInt ≤ 5000) ∧ (-5000 ≤ s4.toInt ∧ s4.toInt ≤ 5000)) → vX7_place mn mf mk mG mm s1 s2 s3 s4 (fun q z => -2 = q ∧ LIx vn vf vs vp vq vd vo un uf us up uq ud uo tm tx hc hh ss sv z.1 z.2.1 z.2.2.1 z.2.2.2.1 mv mt z.2.2.2.2) := by
    intro hno
    unfold vX7_place vX7_place_25 vX7_place_26
    have bad : ∀ {A : Prop}, ((0 : Int32) = 0 → -2 = (-2 : Int32) ∧ LIx vn vf vs vp vq vd vo un uf us up uq ud uo tm tx hc hh ss sv mn mf mk mG mv mt mm) ∧ (¬ (0 : Int32) = 0 → A) := fun {A} => ⟨fun _ => ⟨rfl, hL⟩, fun q => absurd rfl q⟩
    refine s7_isIn c_1 c_100000 (fun a1 b1 => ⟨fun q => absurd q (by decide), fun _ => s7_isIn c_n100000 c_100000 (fun a2 b2 => ⟨fun q => absurd q (by decide), fun _ => ⟨fun q => absurd q (by decide), fun _ => s7_isIn c_n5000 c_5000 (fun a3 b3 => ⟨fun q => absurd q (by decide), fun _ => s7_isIn c_n5000 c_5000 (fun a4 b4 => absurd ⟨⟨a1, b1⟩, ⟨a2, b2⟩, ⟨a3, b3⟩, ⟨a4, b4⟩⟩ hno) (fun _ => ⟨fun q => absurd rfl q, fun _ => ⟨rfl, hL⟩⟩)⟩) (fun _ => bad)⟩⟩) (fun _ => ⟨fun _ => bad, fun q => absurd rfl q⟩)⟩) (fun _ => ⟨fun _ => bad, fun q => absurd rfl q⟩)
  unfold vX6_place
  rw [i_lt, i_lt, c_1, c_100000]
  refine ⟨fun h => no (by omega), fun h1 => ⟨fun h => no (by omega), fun h2 => s6_isBeyond c_100000 (by decide) (fun h => ⟨fun _ => no (by omega), fun q => absurd q (by decide)⟩) (fun a2 b2 => ⟨fun q => absurd rfl q, fun _ => s6_isBeyond c_5000 (by decide) (fun h => ⟨fun _ => no (by omega), fun q => absurd q (by decide)⟩) (fun a3 b3 => ⟨fun q => absurd rfl q, fun _ => s6_isBeyond c_5000 (by decide) (fun h => ⟨fun q => absurd q (by decide), fun _ => no (by omega)⟩) (fun a4 b4 => ⟨fun _ => ⟨hQ.kpre hP, (mg_m _).n32 (by decide), (mg_m _).n32 (by decide), (mg_t _).n32 (by decide), (mg_t _).n32 (by decide), ?_⟩, fun q => absurd rfl q⟩)⟩)⟩)⟩⟩
  unfold vX4_putShip vX4_enter vX3_startFar
  have hf' : ∀ g : Nat → UInt32, ml 178 (g 4) → fOk (vf_upd (vf_upd (vf_upd (vf_upd g 0 (m100 s1)) 1 (m100 s2)) 2 (t1000 s3)) 3 (t1000 s4)) := fun g h4 => ⟨⟨((mg_m s1).mono (by decide)).ml, ((mg_m s2).mono (by decide)).ml, (mg_t s3).ml, (mg_t s4).ml, h4⟩, nz_m (by omega), nz_m (by omega), nz_t (by omega), nz_t (by omega)⟩
  have hp' : pOk (upd (upd (upd (upd (upd vn 0 0) 5 (-5)) 2 0) 4 0) 3 0) vp vq n := pOk_cg hp rfl
  have hs' : sOk (upd (upd (upd (upd (upd vn 0 0) 5 (-5)) 2 0) 4 0) 3 0) vd vo m := sOk_cg hs rfl
  refine s4_judge hp' ht (hf' vf hf.1.2.2.2.2) ?_
  have hR' : rN (upd (upd (upd (upd (upd vn 0 0) 5 (-5)) 2 0) 4 0) 3 0) vs vp vq vd vo (upd (upd (upd (upd (upd mn 0 0) 2 0) 3 0) 4 0) 5 (-5)) := by
    refine rN_cg (rN_un (rN_un (rN_un (rN_un (rN_un hR (show 0 < 12 by decide) 0) (show 2 < 12 by decide) 0) (show 3 < 12 by decide) 0) (show 4 < 12 by decide) 0) (show 5 < 12 by decide) (-5)) (fun j hj => ?_)
    rcases (show j = 0 ∨ j = 1 ∨ j = 2 ∨ j = 3 ∨ j = 4 ∨ j = 5 ∨ 6 ≤ j by omega) with rfl | rfl | rfl | rfl | rfl | rfl | h6
    · rfl
    · rfl
    · rfl
    · rfl
    · rfl
    · rfl
    · unfold upd
      rw [if_neg (by omega), if_neg (by omega), if_neg (by omega), if_neg (by omega), if_neg (by omega)]
      repeat rw [if_neg (by omega)]
  have hk' : ∀ k, k < 4 → (vf_upd (vf_upd (vf_upd (vf_upd mf 0 (m100 s1)) 1 (m100 s2)) 2 (t1000 s3)) 3 (t1000 s4)) k = (vf_upd (vf_upd (vf_upd (vf_upd vf 0 (m100 s1)) 1 (m100 s2)) 2 (t1000 s3)) 3 (t1000 s4)) k := by
    intro k hk
    rcases (show k = 0 ∨ k = 1 ∨ k = 2 ∨ k = 3 by omega) with rfl | rfl | rfl | rfl <;> rfl
  unfold vX7_place vX7_place_25 vX7_place_26
  refine s7_isIn c_1 c_100000 (fun _ _ => ⟨fun q => absurd q (by decide), fun _ => s7_isIn c_n100000 c_100000 (fun _ _ => ⟨fun q => absurd q (by decide), fun _ => ⟨fun q => absurd q (by decide), fun _ => s7_isIn c_n5000 c_5000 (fun _ _ => ⟨fun q => absurd q (by decide), fun _ => s7_isIn c_n5000 c_5000 (fun _ _ => ⟨fun _ => s7_rec hP hQ hS (fun mk' mg' mm' hQ' hS' hm' => ?_), fun q => absurd q (by decide)⟩) (fun q => by omega)⟩) (fun q => by omega)⟩⟩) (fun q => by omega)⟩) (fun q => by omega)
  refine s7_metres (s7_metres (s7_thousandth (s7_thousandth (s7_judged hR' hp' ht (hf' mf hW.2.2.1) ⟨?_, LIx_mk ⟨n, m, ⟨hp', hs', ht, hf' vf hf.1.2.2.2.2, plN_ok⟩, hR', hk', hW.2.2.1, fun q => absurd q (show ¬ (0 : Int32) = 2 by decide)⟩ hQ' hS' (TR_cg hT hm')⟩))))
  exact (jd_cg hk').symm
theorem s7_leastOf {j : Nat} (hj : j < 8) {K : Int32 → Unit → Prop} (hK : K (sLE j) ()) : vX7_leastOf (nI j) K := by
  unfold vX7_leastOf
  rcases (show j = 0 ∨ j = 1 ∨ j = 2 ∨ j = 3 ∨ j = 4 ∨ j = 5 ∨ j = 6 ∨ j = 7 by omega) with rfl | rfl | rfl | rfl | rfl | rfl | rfl | rfl
  all_goals
    repeat (first | refine ⟨fun _ => ?_, fun q => absurd rfl q⟩ | refine ⟨fun q => absurd q (by decide), fun _ => ?_⟩)
    exact hK
theorem s7_mostOf {j : Nat} (hj : j < 8) {K : Int32 → Unit → Prop} (hK : K (sGR j) ()) : vX7_mostOf (nI j) K := by
  unfold vX7_mostOf vX7_mostOf_59
  rcases (show j = 0 ∨ j = 1 ∨ j = 2 ∨ j = 3 ∨ j = 4 ∨ j = 5 ∨ j = 6 ∨ j = 7 by omega) with rfl | rfl | rfl | rfl | rfl | rfl | rfl | rfl
  all_goals
    repeat (first | refine ⟨fun _ => ?_, fun q => absurd rfl q⟩ | refine ⟨fun q => absurd q (by decide), fun _ => ?_⟩)
    exact hK
theorem sl_facts : ∀ j : Nat, j < 8 → 0 ≤ (sLE j).toInt ∧ (sGR j).toInt ≤ 10000 ∧ (j = 4 → (sGR j).toInt ≤ 500) ∧ (j = 5 → (sGR j).toInt ≤ 500) := by decide +kernel
theorem c_7 : (7 : Int32).toInt = 7 := by decide
theorem h_op_1 : op_1 LIx := by
  intro vn vf vs vp vq vd vo un uf us up uq ud uo tm tx hc hh ss sv mn mf mk mG mv mt mm s1 s2 hL
  have hL' := hL
  obtain ⟨hP, hQ, hS, hT⟩ := hL'
  have hP' := hP
  obtain ⟨n, m, ⟨hp, hs, ht, hf, ho⟩, hW⟩ := hP'
  have hR := hW.1
  unfold vX6_set vX7_set
  rw [i_lt, i_lt, c_0, c_8]
  refine ⟨fun h => ?_, fun h => ⟨fun g => ?_, fun g => ?_⟩⟩
  · exact s7_isIn c_0 c_7 (fun a b => by omega) (fun _ => ⟨fun q => absurd rfl q, fun _ => ⟨rfl, hL⟩⟩)
  · obtain ⟨j, hj, e⟩ : ∃ j : Nat, j < 8 ∧ s1 = nI j := ⟨s1.toInt.toNat, by omega, i_of (by omega)⟩
    subst e
    rw [nI_cl (by omega)]
    obtain ⟨f1, f2, f3, f4⟩ := sl_facts j hj
    have hin : ∀ {Q : Int32 → Unit → Prop}, Q 1 () → vX7_isIn (nI j) 0 7 Q := fun hQ => s7_isIn c_0 c_7 (fun _ _ => hQ) (fun q => by
      rw [i_nI (by omega)] at q
      omega)
    have no : ¬ ((sLE j).toInt ≤ s2.toInt ∧ s2.toInt ≤ (sGR j).toInt) → vX7_isIn s2 (sLE j) (sGR j) (fun r_21 u_21 => (¬ r_21 = (0 : Int32) → vX7_records mn mf mk mG mm (fun u_31 => vp_in ((12 : Int32) + nI j) 40 ∧ vp_in ((12 : Int32) + nI j) 40 ∧ -2 = (mn (Int32.toNatClampNeg ((12 : Int32) + nI j))) ∧ LIx vn vf vs vp vq vd vo un uf us up uq ud uo tm tx hc hh ss sv (upd mn (Int32.toNatClampNeg ((12 : Int32) + nI j)) s2) mf u_31.1 u_31.2.1 mv mt u_31.2.2)) ∧ (r_21 = (0 : Int32) → -2 = (-2 : Int32) ∧ LIx vn vf vs vp vq vd vo un uf us up uq ud uo tm tx hc hh ss sv mn mf mk mG mv mt mm)) := fun hb => s7_isIn rfl rfl (fun a b => absurd ⟨a, b⟩ hb) (fun _ => ⟨fun q => absurd rfl q, fun _ => ⟨rfl, hL⟩⟩)
    refine ⟨nI_in2 hj (by omega), fun h1 => ?_, fun h1 => ⟨nI_in2 hj (by omega), fun h2 => ⟨hQ.kpre hP, nI_in2 hj (by omega), nI_in2 hj (by omega), ?_⟩, fun h2 => ?_⟩⟩
    · rw [i_lt] at h1
      exact hin ⟨fun _ => s7_leastOf hj (s7_mostOf hj (no (by omega))), fun q => absurd q (by decide)⟩
    · rw [i_lt] at h1
      rw [i_le] at h2
      refine hin ⟨fun _ => s7_leastOf hj (s7_mostOf hj (s7_isIn rfl rfl (fun a b => ⟨fun _ => s7_rec hP hQ hS (fun mk' mg' mm' hQ' hS' hm' => ?_), fun q => absurd q (by decide)⟩) (fun q => by omega))), fun q => absurd q (by decide)⟩
      rw [show (12 : Int32) = nI 12 by rfl, nI_add, nI_cl (by omega), hR.2.1 j hj]
      refine ⟨nI_in2 (by omega) (by omega), nI_in2 (by omega) (by omega), rfl, LIx_mk ⟨n, m, ⟨hp, hs, ?_, hf, ho⟩, ?_, hW.2⟩ hQ' hS' (TR_cg hT hm')⟩
      · obtain ⟨t1, t2, t3⟩ := ht
        refine ⟨fun i hi => ?_, ?_, ?_⟩
        · unfold upd
          dsimp only
          split
          · omega
          · exact t1 i hi
        · unfold upd
          dsimp only
          split
          · rename_i e
            have := f3 e.symm
            omega
          · exact t2
        · unfold upd
          dsimp only
          split
          · rename_i e
            have := f4 e.symm
            omega
          · exact t3
      · obtain ⟨r1, r2, r3, r4⟩ := hR
        refine ⟨fun i hi => ?_, fun i hi => ?_, fun i hi => ?_, fun i hi => ?_⟩
        · show (if i = 12 + j then s2 else mn i) = vn i
          rw [if_neg (by omega)]
          exact r1 i hi
        · show (if 12 + i = 12 + j then s2 else mn (12 + i)) = (if i = j then s2 else vs i)
          by_cases e : i = j
          · rw [if_pos e, if_pos (by omega)]
          · rw [if_neg e, if_neg (by omega)]
            exact r2 i hi
        · show (if 20 + 2 * i = 12 + j then s2 else mn (20 + 2 * i)) = vp i ∧ (if 21 + 2 * i = 12 + j then s2 else mn (21 + 2 * i)) = vq i
          rw [if_neg (by omega), if_neg (by omega)]
          exact r3 i hi
        · show (if 32 + 2 * i = 12 + j then s2 else mn (32 + 2 * i)) = vd i ∧ (if 33 + 2 * i = 12 + j then s2 else mn (33 + 2 * i)) = vo i
          rw [if_neg (by omega), if_neg (by omega)]
          exact r4 i hi
    · rw [i_le] at h2
      exact hin ⟨fun _ => s7_leastOf hj (s7_mostOf hj (no (by omega))), fun q => absurd q (by decide)⟩
  · exact s7_isIn c_0 c_7 (fun a b => by omega) (fun _ => ⟨fun q => absurd rfl q, fun _ => ⟨rfl, hL⟩⟩)
theorem rN_stop {vn vs vp vq vd vo mn : Nat → Int32} (hR : rN vn vs vp vq vd vo mn) {j : Nat} (hj : j < 4) (v : Int32) : rN vn vs vp vq vd (upd vo j v) (upd mn (33 + 2 * j) v) := by
  obtain ⟨r1, r2, r3, r4⟩ := hR
  refine ⟨fun i hi => ?_, fun i hi => ?_, fun i hi => ?_, fun i hi => ?_⟩
  · show (if i = 33 + 2 * j then v else mn i) = vn i
    rw [if_neg (by omega)]
    exact r1 i hi
  · show (if 12 + i = 33 + 2 * j then v else mn (12 + i)) = vs i
    rw [if_neg (by omega)]
    exact r2 i hi
  · show (if 20 + 2 * i = 33 + 2 * j then v else mn (20 + 2 * i)) = vp i ∧ (if 21 + 2 * i = 33 + 2 * j then v else mn (21 + 2 * i)) = vq i
    rw [if_neg (by omega), if_neg (by omega)]
    exact r3 i hi
  · show (if 32 + 2 * i = 33 + 2 * j then v else mn (32 + 2 * i)) = vd i ∧ (if 33 + 2 * i = 33 + 2 * j then v else mn (33 + 2 * i)) = (if i = j then v else vo i)
    rw [if_neg (by omega)]
    by_cases e : i = j
    · rw [if_pos e, if_pos (by omega)]
      exact ⟨(r4 i hi).1, rfl⟩
    · rw [if_neg e, if_neg (by omega)]
      exact r4 i hi
theorem rN_dist {vn vs vp vq vd vo mn : Nat → Int32} (hR : rN vn vs vp vq vd vo mn) {j : Nat} (hj : j < 4) (v : Int32) : rN vn vs vp vq (upd vd j v) vo (upd mn (32 + 2 * j) v) := by
  obtain ⟨r1, r2, r3, r4⟩ := hR
  refine ⟨fun i hi => ?_, fun i hi => ?_, fun i hi => ?_, fun i hi => ?_⟩
  · show (if i = 32 + 2 * j then v else mn i) = vn i
    rw [if_neg (by omega)]
    exact r1 i hi
  · show (if 12 + i = 32 + 2 * j then v else mn (12 + i)) = vs i
    rw [if_neg (by omega)]
    exact r2 i hi
  · show (if 20 + 2 * i = 32 + 2 * j then v else mn (20 + 2 * i)) = vp i ∧ (if 21 + 2 * i = 32 + 2 * j then v else mn (21 + 2 * i)) = vq i
    rw [if_neg (by omega), if_neg (by omega)]
    exact r3 i hi
  · show (if 32 + 2 * i = 32 + 2 * j then v else mn (32 + 2 * i)) = (if i = j then v else vd i) ∧ (if 33 + 2 * i = 32 + 2 * j then v else mn (33 + 2 * i)) = vo i
    rw [if_neg (show ¬ 33 + 2 * i = 32 + 2 * j by omega)]
    by_cases e : i = j
    · rw [if_pos e, if_pos (by omega)]
      exact ⟨rfl, (r4 i hi).2⟩
    · rw [if_neg e, if_neg (by omega)]
      exact r4 i hi
theorem nar_0 : vp_nar .boolean (0 : Int32) = 0 := by decide +kernel
theorem nar_1 : vp_nar .boolean (1 : Int32) = 1 := by decide +kernel
theorem h_op_3 : op_3 LIx := by
  intro vn vf vs vp vq vd vo un uf us up uq ud uo tm tx hc hh ss sv mn mf mk mG mv mt mm s1 hL
  have hL' := hL
  obtain ⟨hP, hQ, hS, hT⟩ := hL'
  have hP' := hP
  obtain ⟨n, m, ⟨hp, hs, ht, hf, ho⟩, hW⟩ := hP'
  have hR := hW.1
  obtain ⟨h4, hn, hb, hd⟩ := hs
  unfold vX6_addStop vX7_addStop
  rw [i_lt, i_le, c_1, c_100000, hn, hR.1 11 (by decide), hn, show (4 : Int32) = nI 4 by rfl, nI_ltI (by omega) (by omega), nI_eq (by omega) (by omega)]
  refine ⟨fun h => ?_, fun h => ⟨fun g => ⟨fun g4 => ⟨hQ.kpre hP, ?_⟩, fun g4 => ?_⟩, fun g => ?_⟩⟩
  · exact s7_isIn c_1 c_100000 (fun a b => by omega) (fun _ => ⟨fun q => absurd rfl q, fun _ => ⟨rfl, hL⟩⟩)
  · unfold vX5_addClosed
    rw [hn, nI_cl (by omega), nar_0]
    refine ⟨nI_in2 g4 (by omega), nI_in2 g4 (by omega), ?_⟩
    refine s7_isIn c_1 c_100000 (fun a b => ⟨fun _ => ⟨fun _ => s7_rec hP hQ hS (fun mk' mg' mm' hQ' hS' hm' => ?_), fun q => by omega⟩, fun q => absurd q (by decide)⟩) (fun q => by omega)
    have i32 : (32 : Int32) + 2 * nI m = nI (32 + 2 * m) := ix_2 32 m
    rw [i32, nI_cl (by omega)]
    have e11 : (upd mn (32 + 2 * m) s1) 11 = nI m := by
      unfold upd
      rw [if_neg (by omega), hR.1 11 (by decide), hn]
    rw [e11, i32, nI_1, nI_cl (by omega)]
    have e11b : (upd (upd mn (32 + 2 * m) s1) (32 + 2 * m + 1) 0) 11 = nI m := by
      unfold upd
      rw [if_neg (by omega)]
      exact e11
    rw [e11b]
    have hR2 := rN_un (rN_stop (rN_dist hR g4 s1) g4 0) (show 11 < 12 by decide) (nI m + 1)
    rw [show 33 + 2 * m = 32 + 2 * m + 1 by omega] at hR2
    refine ⟨nI_in2 (by omega) (by omega), nI_in2 (by omega) (by omega), ?_, LIx_mk ⟨n, m + 1, ⟨pOk_cg hp rfl, ⟨by omega, ?_, ?_, ?_⟩, ht, hf, ?_⟩, hR2, hW.2.1, hW.2.2.1, ?_⟩ hQ' hS' (TR_cg hT hm')⟩
    · exact (Int32.add_sub_cancel _ _).symm
    · exact nI_1 m
    · intro i hi
      show bz (if i = m then 0 else vo i)
      split
      · exact .inl rfl
      · exact hb i hi
    · intro i hi
      show 1 ≤ (if i = m then s1 else vd i).toInt ∧ (if i = m then s1 else vd i).toInt ≤ 100000
      split
      · omega
      · exact hd i (by omega)
    · refine ⟨ho.1, ho.2.1, ?_, ho.2.2.2⟩
      rcases ho.2.2.1 with q | ⟨j, hj, q⟩
      · exact .inl q
      · exact .inr ⟨j, by omega, q⟩
    · intro q
      have := hW.2.2.2 q
      rw [this]
      show mh vn vd (mf 4) = (if vn 5 = -5 then mf 4 else m100 (if (vn 5).toNatClampNeg = m then s1 else vd (vn 5).toNatClampNeg))
      unfold mh
      rcases ho.2.2.1 with q | ⟨j, hj, q⟩
      · rw [if_pos q, if_pos q]
      · rw [q, nI_cl (by omega), if_neg (show ¬ j = m by omega)]
  · exact s7_isIn c_1 c_100000 (fun a b => ⟨fun _ => ⟨fun q => by omega, fun _ => ⟨rfl, hL⟩⟩, fun q => absurd q (by decide)⟩) (fun q => by omega)
  · exact s7_isIn c_1 c_100000 (fun a b => by omega) (fun _ => ⟨fun q => absurd rfl q, fun _ => ⟨rfl, hL⟩⟩)
