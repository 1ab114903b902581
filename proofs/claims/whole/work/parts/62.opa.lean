/-! the calls that look -/
def TR (tm tx mt mm : Nat → Int32) : Prop := ∃ l, l ≤ 80 ∧ tm 0 = nI l ∧ mm 1 = nI l ∧ ∀ j, j < 80 → tx j = mt j ∧ 0 ≤ (tx j).toInt ∧ (tx j).toInt ≤ 126
def LIx : LIT := fun vn vf vs vp vq vd vo _un _uf _us _up _uq _ud _uo tm tx hc hh ss sv mn mf mk mG mv mt mm => PR vn vf vs vp vq vd vo mn mf ∧ KR hc hh mk mG mm ∧ SR ss sv mk mG mv ∧ TR tm tx mt mm
theorem s7_isIn {p a b : Int32} {A B : Int} (ea : a.toInt = A) (eb : b.toInt = B) {K : Int32 → Unit → Prop} (h1 : A ≤ p.toInt → p.toInt ≤ B → K 1 ()) (h0 : ¬ (A ≤ p.toInt ∧ p.toInt ≤ B) → K 0 ()) : vX7_isIn p a b K := by
  unfold vX7_isIn
  rw [i_lt, i_lt, ea, eb]
  exact ⟨fun h => h0 (by omega), fun h => ⟨fun h2 => h0 (by omega), fun h2 => h1 (by omega) (by omega)⟩⟩
theorem s6_isBeyond {p g : Int32} {G : Int} (eg : g.toInt = G) (hg : 0 ≤ G) {K : Int32 → Unit → Prop} (h1 : ¬ (-G ≤ p.toInt ∧ p.toInt ≤ G) → K 1 ()) (h0 : -G ≤ p.toInt → p.toInt ≤ G → K 0 ()) : vX6_isBeyond p g K := by
  unfold vX6_isBeyond vX6_isBeyond_11
  rw [i_lt, i_le, i_neg (by omega), eg]
  exact ⟨fun h => h1 (by omega), fun h => ⟨fun h2 => h0 (by omega) (by omega), fun h2 => h1 (by omega)⟩⟩
def nsS (n : Nat) (vn vp vq : Nat → Int32) (vf : Nat → UInt32) (p : Int32) : UInt32 := if p = 1 then vf 1 else if p = 2 then vf 2 else if p = 3 then vf 3 else if p = 4 then msF vn (vf 0) else if p = 5 then lim n vp vq (msF vn (vf 0)) else if p = 6 then FP.fadd (vf 0) (m100 (vn 6)) else if p = 7 then FP.fadd (vf 0) (m100 (vn 7)) else vf 0
theorem ns_mg {n : Nat} {vn vp vq : Nat → Int32} {vf : Nat → UInt32} (hp : pOk vn vp vq n) (hf : fOk vf) (p : Int32) : mg 222 (nsS n vn vp vq vf p) ∧ nz (nsS n vn vp vq vf p) := by
  obtain ⟨⟨a0, a1, a2, a3, a4⟩, n0, n1, n2, n3⟩ := hf
  have hm : mg 222 (msF vn (vf 0)) ∧ nz (msF vn (vf 0)) := ⟨(ms_mg2 a0).mono (by decide), ms_nz a0 n0 _⟩
  unfold nsS
  split
  · exact ⟨a1.mg.mono (by decide), n1⟩
  split
  · exact ⟨a2.mg.mono (by decide), n2⟩
  split
  · exact ⟨a3.mg.mono (by decide), n3⟩
  split
  · exact hm
  split
  · exact lim_mg hp (ms_mg2 a0)
  split
  · exact ⟨(ms_mg (vn := vn) a0 _).mono (by decide), ms_nz a0 n0 _⟩
  split
  · exact ⟨(ms_mg (vn := vn) a0 _).mono (by decide), ms_nz a0 n0 _⟩
  · exact ⟨a0.mg.mono (by decide), n0⟩
theorem s6_ns {n : Nat} {vn vp vq : Nat → Int32} {vf : Nat → UInt32} (hp : pOk vn vp vq n) (hf : fOk vf) {p : Int32} {K : UInt32 → Unit → Prop} (hK : K (nsS n vn vp vq vf p) ()) : vX6_numberOfShip vn vf vp vq p K := by
  have a0 := hf.1.1
  unfold vX6_numberOfShip
  unfold nsS at hK
  refine ⟨fun h => ?_, fun h1 => ⟨fun h => ?_, fun h2 => ⟨fun h => ?_, fun h3 => ⟨fun h => ?_, fun h4 => ⟨fun h => ?_, fun h5 => ⟨fun h => ?_, fun h6 => ⟨fun h => ?_, fun h7 => ?_⟩⟩⟩⟩⟩⟩⟩
  · rw [if_pos h] at hK
    exact hK
  · rw [if_neg h1, if_pos h] at hK
    exact hK
  · rw [if_neg h1, if_neg h2, if_pos h] at hK
    exact hK
  · rw [if_neg h1, if_neg h2, if_neg h3, if_pos h] at hK
    exact s3_measured a0 hK
  · rw [if_neg h1, if_neg h2, if_neg h3, if_neg h4, if_pos h] at hK
    exact s3_measured a0 (s2_limitAt hp (ms_mg2 a0) hK)
  · rw [if_neg h1, if_neg h2, if_neg h3, if_neg h4, if_neg h5, if_pos h] at hK
    exact s3_far a0 hK
  · rw [if_neg h1, if_neg h2, if_neg h3, if_neg h4, if_neg h5, if_neg h6, if_pos h] at hK
    exact s3_near a0 hK
  · rw [if_neg h1, if_neg h2, if_neg h3, if_neg h4, if_neg h5, if_neg h6, if_neg h7] at hK
    exact hK
theorem s7_meas {vn vs vp vq vd vo mn : Nat → Int32} (hR : rN vn vs vp vq vd vo mn) (hb : bz (vn 4)) {mf : Nat → UInt32} (hx : ml 178 (mf 0)) {K : UInt32 → Unit → Prop} (hK : K (msF vn (mf 0)) ()) : vX7_measured mn mf (mn 4) K := by
  rw [hR.1 4 (by decide)]
  rcases hb with h | h
  · rw [h]
    refine s7_measured (j := 0) hR hx (by decide) ?_
    unfold msF at hK
    rw [if_pos h] at hK
    exact hK
  · rw [h]
    refine s7_measured (j := 1) hR hx (by decide) ?_
    unfold msF at hK
    rw [if_neg (by rw [h]; decide)] at hK
    exact hK
theorem s7_told {n : Nat} {vn vs vp vq vd vo mn : Nat → Int32} {vf mf : Nat → UInt32} (hR : rN vn vs vp vq vd vo mn) (hk : ∀ k, k < 4 → mf k = vf k) (hb : bz (vn 4)) (hp : pOk vn vp vq n) (hf : fOk vf) {p : Int32} {K : UInt32 → Unit → Prop} (hK : K (nsS n vn vp vq vf p) ()) : vX7_told mn mf p K := by
  have a0 := hf.1.1
  have k0 := hk 0 (by decide)
  rw [← k0] at a0
  unfold vX7_told
  unfold nsS at hK
  rw [← hk 0 (by decide), ← hk 1 (by decide), ← hk 2 (by decide), ← hk 3 (by decide)] at hK
  refine ⟨fun h => ?_, fun h1 => ⟨fun h => ?_, fun h2 => ⟨fun h => ?_, fun h3 => ⟨fun h => ?_, fun h4 => ⟨fun h => ?_, fun h5 => ⟨fun h => ?_, fun h6 => ⟨fun h => ?_, fun h7 => ?_⟩⟩⟩⟩⟩⟩⟩
  · rw [if_pos h] at hK
    exact hK
  · rw [if_neg h1, if_pos h] at hK
    exact hK
  · rw [if_neg h1, if_neg h2, if_pos h] at hK
    exact hK
  · rw [if_neg h1, if_neg h2, if_neg h3, if_pos h] at hK
    exact s7_meas hR hb a0 hK
  · rw [if_neg h1, if_neg h2, if_neg h3, if_neg h4, if_pos h] at hK
    exact s7_meas hR hb a0 (s7_limitAt hR hp (ms_mg2 a0) hK)
  · rw [if_neg h1, if_neg h2, if_neg h3, if_neg h4, if_neg h5, if_pos h] at hK
    exact s7_measured (j := 0) hR a0 (by decide) hK
  · rw [if_neg h1, if_neg h2, if_neg h3, if_neg h4, if_neg h5, if_neg h6, if_pos h] at hK
    exact s7_measured (j := 1) hR a0 (by decide) hK
  · rw [if_neg h1, if_neg h2, if_neg h3, if_neg h4, if_neg h5, if_neg h6, if_neg h7] at hK
    exact hK
theorem h_op_17 : op_17 LIx := by
  intro vn vf vs vp vq vd vo un uf us up uq ud uo tm tx hc hh ss sv mn mf mk mG mv mt mm s1 hL
  have hL' := hL
  obtain ⟨⟨n, m, ⟨hp, hs, ht, hf, ho⟩, hW⟩, -, -, -⟩ := hL'
  obtain ⟨q1, q2⟩ := ns_mg (vn := vn) hp hf s1
  exact s6_ns hp hf (s6_bits (q1.mono (by decide)) q2 (s7_told hW.1 hW.2.1 ho.1 hp hf (s7_bits (q1.mono (by decide)) q2 ⟨rfl, hL⟩)))
theorem h_op_18 : op_18 LIx := by
  intro vn vf vs vp vq vd vo un uf us up uq ud uo tm tx hc hh ss sv mn mf mk mG mv mt mm s1 hL
  have hL' := hL
  obtain ⟨⟨n, m, ⟨hp, hs, ht, hf, ho⟩, hW⟩, -, -, -⟩ := hL'
  obtain ⟨q1, q2⟩ := ns_mg (vn := vn) hp hf s1
  have q3 := (mg_mul q1 (show mg 137 (1148846080 : UInt32) by unfold mg; decide) (by decide) (by decide)).mono (show _ ≤ 255 by decide)
  exact s6_ns hp hf ⟨q3.n32 (by decide), s7_told hW.1 hW.2.1 ho.1 hp hf ⟨q3.n32 (by decide), rfl, hL⟩⟩
theorem c_0 : (0 : Int32).toInt = 0 := by decide
theorem c_1 : (1 : Int32).toInt = 1 := by decide
theorem c_100000 : (100000 : Int32).toInt = 100000 := by decide
theorem c_n100000 : (-100000 : Int32).toInt = -100000 := by decide
theorem c_5000 : (5000 : Int32).toInt = 5000 := by decide
theorem c_n5000 : (-5000 : Int32).toInt = -5000 := by decide
theorem c_500 : (500 : Int32).toInt = 500 := by decide
theorem c_n500 : (-500 : Int32).toInt = -500 := by decide
theorem c_200 : (200 : Int32).toInt = 200 := by decide
theorem h_op_19 : op_19 LIx := by
  intro vn vf vs vp vq vd vo un uf us up uq ud uo tm tx hc hh ss sv mn mf mk mG mv mt mm s1 hL
  have hL' := hL
  obtain ⟨⟨n, m, ⟨hp, hs, ht, hf, ho⟩, hW⟩, -, -, -⟩ := hL'
  unfold vX6_limit vX7_limit
  have hd : mg 182 (m100 s1) := (mg_m s1).mono (by decide)
  obtain ⟨q1, q2⟩ := lim_mg hp hd
  refine ⟨fun h => ?_, fun h => ⟨fun h2 => ⟨(mg_m _).n32 (by decide), s2_limitAt hp hd (s6_bits (q1.mono (by decide)) q2 ?_)⟩, fun h2 => ?_⟩⟩
  · rw [i_lt, c_0] at h
    exact s7_isIn c_0 c_100000 (fun a b => by omega) (fun _ => ⟨fun _ => ⟨rfl, hL⟩, fun q => absurd rfl q⟩)
  · exact s7_isIn c_0 c_100000 (fun a b => ⟨fun q => absurd q (by decide), fun _ => s7_metres (s7_limitAt hW.1 hp hd (s7_bits (q1.mono (by decide)) q2 ⟨rfl, hL⟩))⟩) (fun q => by
      rw [i_lt, c_0] at h
      rw [i_le, c_100000] at h2
      omega)
  · rw [i_le, c_100000] at h2
    exact s7_isIn c_0 c_100000 (fun a b => by omega) (fun _ => ⟨fun _ => ⟨rfl, hL⟩, fun q => absurd rfl q⟩)
theorem h_op_20 : op_20 LIx := by
  intro vn vf vs vp vq vd vo un uf us up uq ud uo tm tx hc hh ss sv mn mf mk mG mv mt mm hL
  have hL' := hL
  obtain ⟨⟨n, m, ⟨hp, hs, ht, hf, ho⟩, hW⟩, -, -, -⟩ := hL'
  exact s4_judge hp ht hf (s7_judged hW.1 hp ht (hW.fOk hf) ⟨(jd_cg hW.2.1).symm, hL⟩)
theorem ix_3 (a j : Nat) (p : Nat) : nI a + (2 : Int32) * nI j + nI p = nI (a + 2 * j + p) := by
  rw [ix_2, nI_add]
theorem h_op_21 : op_21 LIx := by
  intro vn vf vs vp vq vd vo un uf us up uq ud uo tm tx hc hh ss sv mn mf mk mG mv mt mm s1 s2 hL
  have hL' := hL
  obtain ⟨⟨n, m, ⟨hp, hs, ht, hf, ho⟩, hW⟩, -, -, -⟩ := hL'
  obtain ⟨h4, hn, hb, hd⟩ := hs
  have hR := hW.1
  unfold vX6_stop vX7_stop
  have e11 : (mn 11 - 1).toInt = (m : Int) - 1 := by
    rw [hR.1 11 (by decide), hn, i_sub, i_nI (by omega), c_1] <;> rw [i_nI (by omega), c_1] <;> omega
  refine s5_has hn h4 (fun j hj e => ?_) (fun hno => ?_)
  · subst e
    rw [nI_cl (by omega), hR.1 5 (by decide)]
    have hin : ∀ {Q : Int32 → Unit → Prop}, Q 1 () → vX7_isIn (nI j) 0 (mn 11 - 1) Q := fun hQ => s7_isIn c_0 e11 (fun _ _ => hQ) (fun q => by
      rw [i_nI (by omega)] at q
      omega)
    have h48 : ∀ (p : Nat) (Q : Int32 → Unit → Prop), p < 2 → Q (if p = 0 then vd j else vo j) () → vX7_stop_48 mn (nI j) (nI p) Q := by
      intro p Q hp hQ
      unfold vX7_stop_48
      rw [show (32 : Int32) = nI 32 by rfl, ix_3, nI_cl (by omega)]
      refine ⟨nI_in2 (by omega) (by omega), ?_⟩
      rcases (show p = 0 ∨ p = 1 by omega) with rfl | rfl
      · rw [if_pos rfl] at hQ
        rw [show 32 + 2 * j + 0 = 32 + 2 * j by omega, (hR.2.2.2 j (by omega)).1]
        exact hQ
      · rw [if_neg (by decide)] at hQ
        rw [show 32 + 2 * j + 1 = 33 + 2 * j by omega, (hR.2.2.2 j (by omega)).2]
        exact hQ
    refine ⟨fun _ => ⟨fun h => ⟨nI_in2 (by omega) (by omega), ?_⟩, fun h0 => ⟨fun h => ⟨nI_in2 (by omega) (by omega), fun h2 => ?_, fun h2 => ?_⟩, fun h1 => ⟨fun h => ⟨fun h3 => ?_, fun h3 => ?_⟩, fun h2 => ?_⟩⟩⟩, fun q => absurd q (by decide)⟩
    · subst h
      exact hin ⟨fun _ => ⟨fun _ => h48 0 _ (by decide) ⟨rfl, hL⟩, fun q => absurd rfl q⟩, fun q => absurd q (by decide)⟩
    · subst h
      exact hin ⟨fun _ => ⟨fun q => absurd q (by decide), fun _ => ⟨fun _ => h48 1 _ (by decide) ⟨h2.symm, hL⟩, fun q => absurd rfl q⟩⟩, fun q => absurd q (by decide)⟩
    · subst h
      exact hin ⟨fun _ => ⟨fun q => absurd q (by decide), fun _ => ⟨fun _ => h48 1 _ (by decide) ⟨((hb j (by omega)).resolve_left h2).symm, hL⟩, fun q => absurd rfl q⟩⟩, fun q => absurd q (by decide)⟩
    · subst h
      exact hin ⟨fun _ => ⟨fun q => absurd q (by decide), fun _ => ⟨fun q => absurd q (by decide), fun _ => ⟨fun _ => ⟨fun _ => ⟨rfl, hL⟩, fun q => absurd q h3⟩, fun q => absurd rfl q⟩⟩⟩, fun q => absurd q (by decide)⟩
    · subst h
      exact hin ⟨fun _ => ⟨fun q => absurd q (by decide), fun _ => ⟨fun q => absurd q (by decide), fun _ => ⟨fun _ => ⟨fun q => absurd h3 q, fun _ => ⟨rfl, hL⟩⟩, fun q => absurd rfl q⟩⟩⟩, fun q => absurd q (by decide)⟩
    · exact hin ⟨fun _ => ⟨fun q => absurd q h0, fun _ => ⟨fun q => absurd q h1, fun _ => ⟨fun q => absurd q h2, fun _ => ⟨rfl, hL⟩⟩⟩⟩, fun q => absurd q (by decide)⟩
  · refine ⟨fun q => absurd rfl q, fun _ => s7_isIn c_0 e11 (fun a b => ?_) (fun _ => ⟨fun q => absurd rfl q, fun _ => ⟨rfl, hL⟩⟩)⟩
    exact absurd ⟨s1.toInt.toNat, by omega, i_of a⟩ hno
theorem h_op_22 : op_22 LIx := by
  intro vn vf vs vp vq vd vo un uf us up uq ud uo tm tx hc hh ss sv mn mf mk mG mv mt mm s1 s2 hL
  have hL' := hL
  obtain ⟨⟨n, m, ⟨hp, hs, ht, hf, ho⟩, hW⟩, -, -, -⟩ := hL'
  obtain ⟨h6, hn, hr, hso⟩ := hp
  have hR := hW.1
  unfold vX6_point vX7_point
  have e10 : (mn 10 - 1).toInt = (n : Int) - 1 := by
    rw [hR.1 10 (by decide), hn, i_sub, i_nI (by omega), c_1] <;> rw [i_nI (by omega), c_1] <;> omega
  rw [i_lt, i_lt, c_0, hn, i_nI (by omega)]
  have no : ¬ (0 ≤ s1.toInt ∧ s1.toInt ≤ (n : Int) - 1) → vX7_isIn s1 0 (mn 10 - 1) (fun r_11 u_11 => (¬ r_11 = (0 : Int32) → vX7_isIn s2 (0 : Int32) (1 : Int32) (fun r_22 u_22 => (r_22 = (0 : Int32) → -1 = (-2 : Int32) ∧ LIx vn vf vs vp vq vd vo un uf us up uq ud uo tm tx hc hh ss sv mn mf mk mG mv mt mm) ∧ (¬ r_22 = (0 : Int32) → vp_in (((20 : Int32) + ((2 : Int32) * s1)) + s2) 40 ∧ -1 = (mn (Int32.toNatClampNeg (((20 : Int32) + ((2 : Int32) * s1)) + s2))) ∧ LIx vn vf vs vp vq vd vo un uf us up uq ud uo tm tx hc hh ss sv mn mf mk mG mv mt mm))) ∧ (r_11 = (0 : Int32) → -1 = (-1 : Int32) ∧ LIx vn vf vs vp vq vd vo un uf us up uq ud uo tm tx hc hh ss sv mn mf mk mG mv mt mm)) := fun q => s7_isIn c_0 e10 (fun a b => absurd ⟨a, b⟩ q) (fun _ => ⟨fun q => absurd rfl q, fun _ => ⟨rfl, hL⟩⟩)
  refine ⟨fun h => no (by omega), fun h => ⟨fun h2 => ?_, fun h2 => no (by omega)⟩⟩
  obtain ⟨j, hj, e⟩ : ∃ j : Nat, j < n ∧ s1 = nI j := ⟨s1.toInt.toNat, by omega, i_of (by omega)⟩
  subst e
  rw [nI_cl (by omega)]
  have hin : ∀ {Q : Int32 → Unit → Prop}, Q 1 () → vX7_isIn (nI j) 0 (mn 10 - 1) Q := fun hQ => s7_isIn c_0 e10 (fun _ _ => hQ) (fun q => by
    rw [i_nI (by omega)] at q
    omega)
  refine ⟨fun h => ⟨nI_in2 (by omega) (by omega), ?_⟩, fun h0 => ⟨fun h => ⟨nI_in2 (by omega) (by omega), ?_⟩, fun h1 => ?_⟩⟩
  · subst h
    refine hin ⟨fun _ => s7_isIn c_0 c_1 (fun _ _ => ⟨fun q => absurd q (by decide), fun _ => ?_⟩) (fun q => absurd (by decide) q), fun q => absurd q (by decide)⟩
    rw [show (20 : Int32) = nI 20 by rfl, show (0 : Int32) = nI 0 by rfl, ix_3, nI_cl (by omega), show 20 + 2 * j + 0 = 20 + 2 * j by omega, (hR.2.2.1 j (by omega)).1]
    exact ⟨nI_in2 (by omega) (by omega), rfl, hL⟩
  · subst h
    refine hin ⟨fun _ => s7_isIn c_0 c_1 (fun _ _ => ⟨fun q => absurd q (by decide), fun _ => ?_⟩) (fun q => absurd (by decide) q), fun q => absurd q (by decide)⟩
    rw [show (20 : Int32) = nI 20 by rfl, show (1 : Int32) = nI 1 by rfl, ix_3, nI_cl (by omega), show 20 + 2 * j + 1 = 21 + 2 * j by omega, (hR.2.2.1 j (by omega)).2]
    exact ⟨nI_in2 (by omega) (by omega), rfl, hL⟩
  · refine hin ⟨fun _ => s7_isIn c_0 c_1 (fun a b => ?_) (fun _ => ⟨fun _ => ⟨rfl, hL⟩, fun q => absurd rfl q⟩), fun q => absurd q (by decide)⟩
    rw [i_eq, c_0] at h0
    rw [i_eq, c_1] at h1
    omega
