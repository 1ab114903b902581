/-! what is right in every state -/
theorem cmp_self (x : Int64) : lg_cmp x x = 0 := by
  unfold lg_cmp
  rw [if_neg (show ¬ x > x from Int64.lt_irrefl), if_pos rfl]
theorem bits_0 : bitsA FP.fconst0 = 0 := by decide +kernel
theorem bits_pos {a : UInt32} (h : 0 < fk a) : ¬ bitsA a ≤ 0 := by
  have e := fk_abs a
  unfold bitsA
  rw [if_neg (by omega), i_le, c_0, i_nI (by omega)]
  omega
theorem jd_lt8 (n : Nat) (vs vp vq : Nat → Int32) (vf : Nat → UInt32) : ¬ (8 : Int32) ≤ jd n vs vp vq vf := by
  unfold jd b2
  split <;> split <;> split <;> decide
theorem nx_cl (vd vo : Nat → Int32) (x : UInt32) : ∀ i, (nx vd vo x i).1 = -5 ∨ ∃ j, j < i ∧ (nx vd vo x i).1 = nI j ∧ vo j = 0 := by
  intro i
  induction i with
  | zero => exact .inl rfl
  | succ i ih =>
    rw [nx_s]
    split
    · rename_i h
      exact .inr ⟨i, by omega, rfl, h.1⟩
    · rcases ih with h | ⟨j, h1, h2, h3⟩
      · exact .inl h
      · exact .inr ⟨j, by omega, h2, h3⟩
section RT
variable {vn : Nat → Int32} {vf : Nat → UInt32} {vs vp vq vd vo : Nat → Int32} {n m : Nat} {tm hc : Nat → Int32}
theorem r_291 (hI : sI n m vn vf vs vp vq vd vo) {y : Int32} (he : nsS n vn vp vq vf y = nsS n vn vp vq vf 4) {K : Int32 → Unit → Prop} (hK : K 1 ()) : vL_isRight_291 vn vf vs vp vq vd vo tm hc y K := by
  obtain ⟨hp, hs, ht, hf, ho⟩ := hI
  unfold vL_isRight_291 vX6_judgement
  refine s6_bitsW hp hf (s6_bitsW hp hf ⟨fun q => absurd (by rw [he]) q, fun _ => s4_judge hp ht hf ⟨fun q => absurd q (jd_nn _ _ _ _ _), fun _ => s4_judge hp ht hf ⟨fun q => absurd q (jd_lt8 _ _ _ _ _), fun _ => hK⟩⟩⟩)
theorem r_252 (hI : sI n m vn vf vs vp vq vd vo) {x4 : Int32} (h4 : x4 = 0 ∨ x4 = 1) {K : Int32 → Unit → Prop} (hK : K 1 ()) : vL_isRight_252 vn vf vs vp vq vd vo tm hc x4 (nI (cc vo m)) 1 K := by
  have hs := hI.2.1
  have hx := hI.2.2.2.1.1.1.mg.mono (L := 180) (by decide)
  unfold vL_isRight_252
  refine ⟨fun q => absurd q (by decide), fun _ => ⟨fun q => ?_, fun _ => s6_total hs hx ?_⟩⟩
  · rcases h4 with rfl | rfl <;> exact absurd q (by decide)
  · rw [toA_8]
    refine ⟨fun q => absurd rfl q, fun _ => s6_total hs hx ?_⟩
    rw [toA_4]
    by_cases z : vn 4 = 0
    · rw [if_pos z]
      refine ⟨fun _ => r_291 hI ?_ hK, fun q => absurd q (by decide)⟩
      show FP.fadd (vf 0) (m100 (vn 6)) = FP.fadd (vf 0) (m100 (if vn 4 = 0 then vn 6 else vn 7))
      rw [if_pos z]
    · rw [if_neg z]
      refine ⟨fun q => absurd rfl q, fun _ => r_291 hI ?_ hK⟩
      show FP.fadd (vf 0) (m100 (vn 7)) = FP.fadd (vf 0) (m100 (if vn 4 = 0 then vn 6 else vn 7))
      rw [if_neg z]
theorem r_141 (hj : jI n m vn vf vs vp vq vd vo) {K : Int32 → Unit → Prop} (hK : K 1 ()) : ∃ k, lp (vL_isRight_141F vn vf vs vp vq vd vo tm hc (vn 0) K) k ((1 : Int32), (0 : Int32), (0 : Int32), (0 : Int32)) := by
  obtain ⟨hI, hx0, hx1⟩ := hj
  have hs := hI.2.1
  have h4 := hs.1
  have hb := hs.2.2.1
  have hx := hI.2.2.2.1.1.1.mg.mono (L := 180) (by decide)
  have uniq : ∀ i j : Nat, i < m → j < m → nI i = nI j → i = j := fun i j hi hj e => (nI_eq (by omega) (by omega)).mp e
  refine lp_ex (fun z : Int32 × Int32 × Int32 × Int32 => ∃ i : Nat, i ≤ m ∧ z.2.2.2 = nI i ∧ z.1 = 1 ∧ z.2.2.1 = nI (cc vo i) ∧ ((z.2.1 = 0 ∧ ∀ j, j < i → ¬ vn 5 = nI j) ∨ (z.2.1 = 1 ∧ ∃ j, j < i ∧ vn 5 = nI j))) (fun z => m - z.2.2.2.toNatClampNeg) _ ⟨0, by omega, rfl, rfl, rfl, .inl ⟨rfl, fun j hj => by omega⟩⟩ ?_
  rintro B ⟨x3, x4, x5, x6⟩ ⟨i, hi, e6, e3, e5, e4⟩ hB
  dsimp only at e6 e3 e5 e4 hB
  subst e6 e3 e5
  unfold vL_isRight_141F vL_isRight_141b
  dsimp only
  refine s6_total hs hx ?_
  rw [toA_7, hs.2.1, nI_leI (by omega) (by omega)]
  refine ⟨fun h => s6_total hs hx ?_, fun h => s6_stop hs (by omega) (s6_stop hs (by omega) ⟨fun q => absurd q (by decide), fun _ => s6_stop hs (by omega) ?_⟩)⟩
  · have ei : i = m := by omega
    subst ei
    rw [toA_5]
    have h4' : x4 = 0 ∨ x4 = 1 := e4.imp (fun q => q.1) (fun q => q.1)
    unfold vL_isRight_247 vL_isRight_251
    refine ⟨fun q => absurd q (by decide), fun _ => ⟨fun _ => r_252 hI h4' hK, fun q => ?_⟩⟩
    obtain ⟨j, hj, ej, hc⟩ := (nx_cl vd vo (vf 0) i).resolve_left q
    rw [ej]
    refine s6_stop hs hj ?_
    show (¬ (if vo j = 0 then (0 : Int32) else 1) = 0 → _) ∧ ((if vo j = 0 then (0 : Int32) else 1) = 0 → _)
    rw [if_pos hc]
    exact ⟨fun q => absurd rfl q, fun _ => r_252 hI h4' hK⟩
  · have e2 : spA vn vd vo i 2 = if vn 5 = nI i then 1 else 0 := rfl
    have e1 : spA vn vd vo i 1 = if vo i = 0 then 0 else 1 := rfl
    rw [e2, e1]
    have hcc : nI (cc vo i) + ((1 : Int32) - (if vo i = 0 then 0 else 1)) = nI (cc vo (i + 1)) := by
      rw [cc_s]
      split
      · rw [show (1 : Int32) - 0 = 1 by decide, nI_1]
      · rw [show (1 : Int32) - 1 = 0 by decide, Int32.add_zero]
    rw [hcc]
    have hn : ∀ w : Int32, ((w = 0 ∧ ∀ j, j < i + 1 → ¬ vn 5 = nI j) ∨ (w = 1 ∧ ∃ j, j < i + 1 ∧ vn 5 = nI j)) → B ((1 : Int32), w, nI (cc vo (i + 1)), nI i + 1) := fun w hw => hB _ ⟨i + 1, by omega, nI_1 i, rfl, rfl, hw⟩ (by
      dsimp only
      rw [nI_1, nI_cl (by omega), nI_cl (by omega)]
      omega)
    unfold vL_isRight_207 vL_isRight_211 vL_isRight_212
    by_cases z : vn 5 = nI i
    · rw [if_pos z]
      have hz : vo i = 0 ∧ vn 0 = 2 := by
        rcases hx0.2.2.2 with q | ⟨q0, j, hj, q1, q2⟩
        · rw [q] at z
          exact absurd z.symm (nI_n5 (by omega))
        · have := uniq i j (by omega) hj (z.symm.trans q1)
          subst this
          exact ⟨q2, q0⟩
      have hx4 : x4 + 1 = 1 := by
        rcases e4 with ⟨q, -⟩ | ⟨-, j, hj, q⟩
        · rw [q]; decide
        · have := uniq i j (by omega) (by omega) (z.symm.trans q)
          omega
      refine ⟨fun q => absurd q (by decide), fun _ => s6_stop hs (by omega) ?_⟩
      rw [e1, if_pos hz.1, hx4]
      exact ⟨fun q => absurd rfl q, fun _ => ⟨fun q => absurd hz.2 q, fun _ => hn 1 (.inr ⟨rfl, i, by omega, z⟩)⟩⟩
    · rw [if_neg z, Int32.add_zero]
      refine ⟨fun _ => hn x4 ?_, fun q => absurd rfl q⟩
      rcases e4 with ⟨q, h0⟩ | ⟨q, j, hj, h1⟩
      · refine .inl ⟨q, fun j hj => ?_⟩
        rcases Nat.lt_or_ge j i with w | w
        · exact h0 j w
        · rw [show j = i by omega]
          exact z
      · exact .inr ⟨q, j, by omega, h1⟩
theorem s_isRight (hj : jI n m vn vf vs vp vq vd vo) {K : Int32 → Unit → Prop} (hK : K 1 ()) : vL_isRight vn vf vs vp vq vd vo tm hc K := by
  have hj' := hj
  obtain ⟨hI, hx0, hx1⟩ := hj'
  obtain ⟨hp, hs, ht, hf, ho⟩ := id hI
  have hx : mg 180 (vf 0) := hf.1.1.mg.mono (by decide)
  obtain ⟨r1, r2⟩ := ho.2.1
  have h71 : vL_isRight_71 vn vf vs vp vq vd vo tm hc (vn 0) 1 K := by
    unfold vL_isRight_71 vL_isRight_126 vL_isRight_130 vL_isRight_131
    have a2 : ¬ vn 2 < 0 ∧ ¬ (2 : Int32) ≤ vn 2 := by
      rcases hx0.1 with q | q <;> rw [q] <;> decide
    have a3 : ¬ vn 3 < 0 ∧ ¬ (3 : Int32) ≤ vn 3 := by
      rcases hx0.2.1 with q | q | q <;> rw [q] <;> decide
    refine ⟨fun q => absurd q (by decide), fun _ => s6_total hs hx ?_⟩
    rw [toA_2]
    refine ⟨fun q => absurd q a2.1, fun _ => s6_total hs hx ?_⟩
    rw [toA_2]
    refine ⟨fun q => absurd q a2.2, fun _ => s6_total hs hx ?_⟩
    rw [toA_3]
    refine ⟨fun q => absurd q a3.1, fun _ => s6_total hs hx ?_⟩
    rw [toA_3]
    refine ⟨fun q => absurd q a3.2, fun _ => s6_total hs hx ?_⟩
    rw [toA_4]
    by_cases z : vn 4 = 0
    · rw [if_pos z]
      exact ⟨fun _ => r_141 hj hK, fun q => absurd rfl q⟩
    · rw [if_neg z]
      refine ⟨fun q => absurd q (by decide), fun _ => s6_total hs hx ?_⟩
      rw [toA_3, hx0.2.2.1.resolve_left z]
      exact ⟨fun q => absurd rfl q, fun _ => r_141 hj hK⟩
  unfold vL_isRight
  refine s6_total hs hx ?_
  rw [toA_0]
  have c_3 : (3 : Int32).toInt = 3 := by decide
  have c_6 : (6 : Int32).toInt = 6 := by decide
  have lo : ¬ vn 0 < 0 := by rw [i_lt, c_0]; omega
  have hi : ¬ (6 : Int32) ≤ vn 0 := by rw [i_le, c_6]; omega
  unfold vL_isRight_16 vL_isRight_66 vL_isRight_70
  refine ⟨fun h3 => ⟨fun q => absurd q lo, fun _ => ⟨fun q => absurd q hi, fun _ => ⟨fun _ => s6_bitsW hp hf ⟨fun q => absurd q (bits_pos (hx1.2 ?_)), fun _ => h71⟩, fun q => absurd rfl q⟩⟩⟩, fun h3 => ⟨fun q => absurd q lo, fun _ => ⟨fun q => absurd q hi, fun _ => ⟨fun q => absurd q (by decide), fun _ => ?_⟩⟩⟩⟩
  · rw [i_le, c_3] at h3
    rintro (q | q)
    · rw [q] at h3
      exact absurd h3 (by decide)
    · rw [q] at h3
      exact absurd h3 (by decide)
  · rw [i_le, c_3] at h3
    have ov : ovr vn := by
      rcases (show (vn 0).toInt = 4 ∨ (vn 0).toInt = 5 by omega) with q | q
      · exact .inl ((i_eq _ _).mpr (by rw [q]; decide))
      · exact .inr ((i_eq _ _).mpr (by rw [q]; decide))
    obtain ⟨z0, z2, z3⟩ := hx1.1 ov
    have b0 : bitsA (nsS n vn vp vq vf 0) = 0 := by
      show bitsA (vf 0) = 0
      rw [z0]; exact bits_0
    have b2 : bitsA (nsS n vn vp vq vf 2) = 0 := by
      show bitsA (vf 2) = 0
      rw [z2]; exact bits_0
    have b3 : bitsA (nsS n vn vp vq vf 3) = 0 := by
      show bitsA (vf 3) = 0
      rw [z3]; exact bits_0
    exact s6_bitsW hp hf ⟨fun q => absurd b0 q, fun _ => s6_bitsW hp hf ⟨fun q => absurd b2 q, fun _ => s6_bitsW hp hf ⟨fun q => absurd b3 q, fun _ => h71⟩⟩⟩
end RT
