/-! what can be asked for -/
section VW
variable {vn : Nat → Int32} {vf : Nat → UInt32} {vs vp vq vd vo : Nat → Int32}
def toA (m : Nat) (vn : Nat → Int32) (vf : Nat → UInt32) (vs vd vo tm hc : Nat → Int32) (p : Int32) : Int32 := if p = 0 then vn 0 else if p = 1 then vn 1 else if p = 2 then vn 2 else if p = 3 then vn 3 else if p = 4 then (if vn 4 = 0 then 0 else 1) else if p = 5 then (nx vd vo (vf 0) m).1 else if p = 6 then vn 10 else if p = 7 then vn 11 else if p = 8 then nI (cc vo m) else if p = 9 then hc 0 else if p = 10 then tm 0 else if p = 11 then vn 8 else if p = 12 then vn 9 else (if p - 13 < 0 then -2 else if p - 13 < 8 then vs (Int32.toNatClampNeg (p - 13)) else -2)
theorem s6_total {m : Nat} (hs : sOk vn vd vo m) (hx : mg 180 (vf 0)) {tm hc : Nat → Int32} {p : Int32} {K : Int32 → Unit → Prop} (hK : K (toA m vn vf vs vd vo tm hc p) ()) : vX6_total vn vf vs vd vo tm hc p K := by
  unfold vX6_total
  unfold toA at hK
  refine ⟨fun h => ?_, fun n0 => ⟨fun h => ?_, fun n1 => ⟨fun h => ?_, fun n2 => ⟨fun h => ?_, fun n3 => ⟨fun h => ?_, fun n4 => ⟨fun h => ?_, fun n5 => ⟨fun h => ?_, fun n6 => ⟨fun h => ?_, fun n7 => ⟨fun h => ?_, fun n8 => ⟨fun h => ?_, fun n9 => ⟨fun h => ?_, fun n10 => ⟨fun h => ?_, fun n11 => ⟨fun h => ?_, fun n12 => ?_⟩⟩⟩⟩⟩⟩⟩⟩⟩⟩⟩⟩⟩
  · rw [if_pos h] at hK
    exact hK
  · rw [if_neg n0, if_pos h] at hK
    exact hK
  · rw [if_neg n0, if_neg n1, if_pos h] at hK
    exact hK
  · rw [if_neg n0, if_neg n1, if_neg n2, if_pos h] at hK
    exact hK
  · rw [if_neg n0, if_neg n1, if_neg n2, if_neg n3, if_pos h] at hK
    refine ⟨fun z => ?_, fun z => ?_⟩
    · rw [if_pos z] at hK
      exact hK
    · rw [if_neg z] at hK
      exact hK
  · rw [if_neg n0, if_neg n1, if_neg n2, if_neg n3, if_neg n4, if_pos h] at hK
    exact s5_nextBelow hs hx hK
  · rw [if_neg n0, if_neg n1, if_neg n2, if_neg n3, if_neg n4, if_neg n5, if_pos h] at hK
    exact hK
  · rw [if_neg n0, if_neg n1, if_neg n2, if_neg n3, if_neg n4, if_neg n5, if_neg n6, if_pos h] at hK
    exact hK
  · rw [if_neg n0, if_neg n1, if_neg n2, if_neg n3, if_neg n4, if_neg n5, if_neg n6, if_neg n7, if_pos h] at hK
    exact s5_countClosed hs hK
  · rw [if_neg n0, if_neg n1, if_neg n2, if_neg n3, if_neg n4, if_neg n5, if_neg n6, if_neg n7, if_neg n8, if_pos h] at hK
    exact hK
  · rw [if_neg n0, if_neg n1, if_neg n2, if_neg n3, if_neg n4, if_neg n5, if_neg n6, if_neg n7, if_neg n8, if_neg n9, if_pos h] at hK
    exact hK
  · rw [if_neg n0, if_neg n1, if_neg n2, if_neg n3, if_neg n4, if_neg n5, if_neg n6, if_neg n7, if_neg n8, if_neg n9, if_neg n10, if_pos h] at hK
    exact hK
  · rw [if_neg n0, if_neg n1, if_neg n2, if_neg n3, if_neg n4, if_neg n5, if_neg n6, if_neg n7, if_neg n8, if_neg n9, if_neg n10, if_neg n11, if_pos h] at hK
    exact hK
  · rw [if_neg n0, if_neg n1, if_neg n2, if_neg n3, if_neg n4, if_neg n5, if_neg n6, if_neg n7, if_neg n8, if_neg n9, if_neg n10, if_neg n11, if_neg n12] at hK
    unfold vX6_settingAt vX6_settingAt_10
    refine ⟨fun z => ?_, fun z => ⟨fun z2 => ⟨?_, ?_⟩, fun z2 => ?_⟩⟩
    · rw [if_pos z] at hK
      exact hK
    · rw [i_lt, c_0] at z
      rw [i_lt, c_8] at z2
      exact (i_in _ _).mpr ⟨by omega, by omega⟩
    · rw [if_neg z, if_pos z2] at hK
      exact hK
    · rw [if_neg z, if_neg z2] at hK
      exact hK
theorem toA_cg {m : Nat} {tm hc tm' hc' : Nat → Int32} {p : Int32} (h9 : ¬ p = 9) (h10 : ¬ p = 10) : toA m vn vf vs vd vo tm hc p = toA m vn vf vs vd vo tm' hc' p := by
  unfold toA
  rw [if_neg h9, if_neg h10, if_neg h9, if_neg h10]
theorem toA_0 {m : Nat} {tm hc : Nat → Int32} : toA m vn vf vs vd vo tm hc 0 = vn 0 := rfl
theorem toA_1 {m : Nat} {tm hc : Nat → Int32} : toA m vn vf vs vd vo tm hc 1 = vn 1 := rfl
theorem toA_2 {m : Nat} {tm hc : Nat → Int32} : toA m vn vf vs vd vo tm hc 2 = vn 2 := rfl
theorem toA_3 {m : Nat} {tm hc : Nat → Int32} : toA m vn vf vs vd vo tm hc 3 = vn 3 := rfl
theorem toA_4 {m : Nat} {tm hc : Nat → Int32} : toA m vn vf vs vd vo tm hc 4 = (if vn 4 = 0 then 0 else 1) := rfl
theorem toA_5 {m : Nat} {tm hc : Nat → Int32} : toA m vn vf vs vd vo tm hc 5 = (nx vd vo (vf 0) m).1 := rfl
theorem toA_6 {m : Nat} {tm hc : Nat → Int32} : toA m vn vf vs vd vo tm hc 6 = vn 10 := rfl
theorem toA_7 {m : Nat} {tm hc : Nat → Int32} : toA m vn vf vs vd vo tm hc 7 = vn 11 := rfl
theorem toA_8 {m : Nat} {tm hc : Nat → Int32} : toA m vn vf vs vd vo tm hc 8 = nI (cc vo m) := rfl
theorem toA_9 {m : Nat} {tm hc : Nat → Int32} : toA m vn vf vs vd vo tm hc 9 = hc 0 := rfl
theorem toA_10 {m : Nat} {tm hc : Nat → Int32} : toA m vn vf vs vd vo tm hc 10 = tm 0 := rfl
theorem toA_11 {m : Nat} {tm hc : Nat → Int32} : toA m vn vf vs vd vo tm hc 11 = vn 8 := rfl
theorem toA_12 {m : Nat} {tm hc : Nat → Int32} : toA m vn vf vs vd vo tm hc 12 = vn 9 := rfl
theorem s6_bitsW {n : Nat} (hp : pOk vn vp vq n) (hf : fOk vf) {p : Int32} {K : Int32 → Unit → Prop} (hK : K (bitsA (nsS n vn vp vq vf p)) ()) : vX6_bits vn vf vp vq p K := by
  obtain ⟨q1, q2⟩ := ns_mg (vn := vn) hp hf p
  unfold vX6_bits
  exact s6_ns hp hf (s6_bits (q1.mono (by decide)) q2 hK)
def spA (vn vd vo : Nat → Int32) (j : Nat) (p : Int32) : Int32 := if p = 0 then vd j else if p = 1 then (if vo j = 0 then 0 else 1) else if p = 2 then (if vn 5 = nI j then 1 else 0) else -2
theorem s6_stop {m : Nat} (hs : sOk vn vd vo m) {j : Nat} (hj : j < m) {p : Int32} {K : Int32 → Unit → Prop} (hK : K (spA vn vd vo j p) ()) : vX6_stop vn vd vo (nI j) p K := by
  obtain ⟨h4, hn, hb, hd⟩ := hs
  unfold vX6_stop
  unfold spA at hK
  refine s5_has hn h4 (fun i hi e => ?_) (fun hno => absurd ⟨j, hj, rfl⟩ hno)
  rw [nI_cl (by omega)]
  refine ⟨fun _ => ⟨fun h => ⟨nI_in2 (by omega) (by omega), ?_⟩, fun h0 => ⟨fun h => ⟨nI_in2 (by omega) (by omega), fun z => ?_, fun z => ?_⟩, fun h1 => ⟨fun h => ⟨fun z => ?_, fun z => ?_⟩, fun h2 => ?_⟩⟩⟩, fun q => absurd q (by decide)⟩
  · rw [if_pos h] at hK
    exact hK
  · rw [if_neg h0, if_pos h, if_pos z] at hK
    exact hK
  · rw [if_neg h0, if_pos h, if_neg z] at hK
    exact hK
  · rw [if_neg h0, if_neg h1, if_pos h, if_neg z] at hK
    exact hK
  · rw [if_neg h0, if_neg h1, if_pos h, if_pos z] at hK
    exact hK
  · rw [if_neg h0, if_neg h1, if_neg h2] at hK
    exact hK
def ptA (vp vq : Nat → Int32) (j : Nat) (p : Int32) : Int32 := if p = 0 then vp j else if p = 1 then vq j else -2
theorem s6_point {n : Nat} (hp : pOk vn vp vq n) {j : Nat} (hj : j < n) {p : Int32} {K : Int32 → Unit → Prop} (hK : K (ptA vp vq j p) ()) : vX6_point vn vp vq (nI j) p K := by
  obtain ⟨h6, hn, hr, hso⟩ := hp
  unfold vX6_point
  unfold ptA at hK
  rw [i_lt, i_lt, c_0, hn, i_nI (by omega), i_nI (by omega), nI_cl (by omega)]
  refine ⟨fun q => by omega, fun _ => ⟨fun _ => ⟨fun h => ⟨nI_in2 (by omega) (by omega), ?_⟩, fun h0 => ⟨fun h => ⟨nI_in2 (by omega) (by omega), ?_⟩, fun h1 => ?_⟩⟩, fun q => by omega⟩⟩
  · rw [if_pos h] at hK
    exact hK
  · rw [if_neg h0, if_pos h] at hK
    exact hK
  · rw [if_neg h0, if_neg h1] at hK
    exact hK
/-- so many steps of a sum -/
def itF (f : Nat → Int64 → Int64) : Nat → Int64 → Int64
  | 0, v => v
  | k + 1, v => f k (itF f k v)
def vw1 (m : Nat) (vn : Nat → Int32) (vf : Nat → UInt32) (vs vd vo : Nat → Int32) : Nat → Int64 → Int64 := fun k v => if nI k = 9 then v else if nI k = 10 then v else (31 : Int64) * v + Int32.toInt64 (toA m vn vf vs vd vo zi zi (nI k))
def vw2 (n : Nat) (vn : Nat → Int32) (vf : Nat → UInt32) (vp vq : Nat → Int32) : Nat → Int64 → Int64 := fun k v => (31 : Int64) * v + Int32.toInt64 (bitsA (nsS n vn vp vq vf (nI k)))
def vw3 (vn vd vo : Nat → Int32) (j : Nat) : Nat → Int64 → Int64 := fun k v => (31 : Int64) * v + Int32.toInt64 (spA vn vd vo j (nI k))
def vw4 (vp vq : Nat → Int32) : Nat → Int64 → Int64 := fun k v => (31 : Int64) * ((31 : Int64) * v + Int32.toInt64 (ptA vp vq k 0)) + Int32.toInt64 (ptA vp vq k 1)
def vwA (n m : Nat) (vn : Nat → Int32) (vf : Nat → UInt32) (vs vp vq vd vo : Nat → Int32) : Int64 := (31 : Int64) * itF (vw4 vp vq) n (itF (fun j => itF (vw3 vn vd vo j) 3) m (itF (vw2 n vn vf vp vq) 8 (itF (vw1 m vn vf vs vd vo) 21 7))) + Int32.toInt64 (jd n vs vp vq vf)
def vwC (c : Cx) : Int64 := vwA (Int32.toNatClampNeg (c.1 10)) (Int32.toNatClampNeg (c.1 11)) c.1 c.2.1 c.2.2.1 c.2.2.2.1 c.2.2.2.2.1 c.2.2.2.2.2.1 c.2.2.2.2.2.2
theorem vw_124 {n m : Nat} (hI : sI n m vn vf vs vp vq vd vo) {tm hc : Nat → Int32} (v0 : Int64) {K : Int64 → Unit → Prop} (hK : K ((31 : Int64) * itF (vw4 vp vq) n v0 + Int32.toInt64 (jd n vs vp vq vf)) ()) : ∃ k, lp (vL_view_124F vn vf vs vp vq vd vo tm hc K) k (v0, (0 : Int32)) := by
  obtain ⟨hp, hs, ht, hf, ho⟩ := hI
  have h6 := hp.1
  refine lp_ex (fun z : Int64 × Int32 => ∃ j : Nat, j ≤ n ∧ z.2 = nI j ∧ z.1 = itF (vw4 vp vq) j v0) (fun z => n - z.2.toNatClampNeg) _ ⟨0, by omega, rfl, rfl⟩ ?_
  rintro B ⟨v, x⟩ ⟨j, hj, hx, hv⟩ hB
  dsimp only at hx hv hB
  subst hx hv
  unfold vL_view_124F vL_view_124b
  dsimp only
  refine s6_total hs (hf.1.1.mg.mono (by decide)) ?_
  rw [toA_6, hp.2.1, nI_leI (by omega) (by omega)]
  refine ⟨fun h => ?_, fun h => s6_point hp (by omega) (s6_point hp (by omega) (hB _ ⟨j + 1, by omega, nI_1 j, rfl⟩ ?_))⟩
  · unfold vX6_judgement
    refine s4_judge hp ht hf ?_
    rw [show j = n by omega]
    exact hK
  · dsimp only
    rw [nI_1, nI_cl (by omega), nI_cl (by omega)]
    omega
theorem vw_89 {m : Nat} (hs : sOk vn vd vo m) {tm hc : Nat → Int32} {i : Nat} (hi : i < m) (v0 : Int64) {K : Int64 → Unit → Prop} {B76 : Int64 → Int32 → Prop} (hK : B76 (itF (vw3 vn vd vo i) 3 v0) (nI i + 1)) : ∃ k, lp (vL_view_89F vn vf vs vp vq vd vo tm hc (nI i) K B76) k (v0, (0 : Int32)) := by
  refine lp_ex (fun z : Int64 × Int32 => ∃ j : Nat, j ≤ 3 ∧ z.2 = nI j ∧ z.1 = itF (vw3 vn vd vo i) j v0) (fun z => 3 - z.2.toNatClampNeg) _ ⟨0, by omega, rfl, rfl⟩ ?_
  rintro B ⟨v, x⟩ ⟨j, hj, hx, hv⟩ hB
  dsimp only at hx hv hB
  subst hx hv
  unfold vL_view_89F vL_view_89b
  dsimp only
  rw [show (3 : Int32) = nI 3 by rfl, nI_leI (by omega) (by omega)]
  refine ⟨fun h => ?_, fun h => s6_stop hs hi (hB _ ⟨j + 1, by omega, nI_1 j, rfl⟩ ?_)⟩
  · rw [show j = 3 by omega]
    exact hK
  · dsimp only
    rw [nI_1, nI_cl (by omega), nI_cl (by omega)]
    omega
theorem vw_76 {n m : Nat} (hI : sI n m vn vf vs vp vq vd vo) {tm hc : Nat → Int32} (v0 : Int64) {K : Int64 → Unit → Prop} (hK : K ((31 : Int64) * itF (vw4 vp vq) n (itF (fun j => itF (vw3 vn vd vo j) 3) m v0) + Int32.toInt64 (jd n vs vp vq vf)) ()) : ∃ k, lp (vL_view_76F vn vf vs vp vq vd vo tm hc K) k (v0, (0 : Int32)) := by
  have hs := hI.2.1
  have h4 := hs.1
  refine lp_ex (fun z : Int64 × Int32 => ∃ j : Nat, j ≤ m ∧ z.2 = nI j ∧ z.1 = itF (fun j => itF (vw3 vn vd vo j) 3) j v0) (fun z => m - z.2.toNatClampNeg) _ ⟨0, by omega, rfl, rfl⟩ ?_
  rintro B ⟨v, x⟩ ⟨j, hj, hx, hv⟩ hB
  dsimp only at hx hv hB
  subst hx hv
  unfold vL_view_76F vL_view_76b
  dsimp only
  refine s6_total hs (hI.2.2.2.1.1.1.mg.mono (by decide)) ?_
  rw [toA_7, hs.2.1, nI_leI (by omega) (by omega)]
  refine ⟨fun h => ?_, fun h => vw_89 hs (by omega) _ (hB _ ⟨j + 1, by omega, nI_1 j, rfl⟩ ?_)⟩
  · refine vw_124 hI _ ?_
    rw [show j = m by omega]
    exact hK
  · dsimp only
    rw [nI_1, nI_cl (by omega), nI_cl (by omega)]
    omega
theorem vw_49 {n m : Nat} (hI : sI n m vn vf vs vp vq vd vo) {tm hc : Nat → Int32} (v0 : Int64) {K : Int64 → Unit → Prop} (hK : K ((31 : Int64) * itF (vw4 vp vq) n (itF (fun j => itF (vw3 vn vd vo j) 3) m (itF (vw2 n vn vf vp vq) 8 v0)) + Int32.toInt64 (jd n vs vp vq vf)) ()) : ∃ k, lp (vL_view_49F vn vf vs vp vq vd vo tm hc K) k (v0, (0 : Int32)) := by
  refine lp_ex (fun z : Int64 × Int32 => ∃ j : Nat, j ≤ 8 ∧ z.2 = nI j ∧ z.1 = itF (vw2 n vn vf vp vq) j v0) (fun z => 8 - z.2.toNatClampNeg) _ ⟨0, by omega, rfl, rfl⟩ ?_
  rintro B ⟨v, x⟩ ⟨j, hj, hx, hv⟩ hB
  dsimp only at hx hv hB
  subst hx hv
  unfold vL_view_49F vL_view_49b
  dsimp only
  rw [show (8 : Int32) = nI 8 by rfl, nI_leI (by omega) (by omega)]
  refine ⟨fun h => ?_, fun h => s6_bitsW hI.1 hI.2.2.2.1 (hB _ ⟨j + 1, by omega, nI_1 j, rfl⟩ ?_)⟩
  · refine vw_76 hI _ ?_
    rw [show j = 8 by omega]
    exact hK
  · dsimp only
    rw [nI_1, nI_cl (by omega), nI_cl (by omega)]
    omega
theorem s_view {n m : Nat} (hI : sI n m vn vf vs vp vq vd vo) {tm hc : Nat → Int32} {K : Int64 → Unit → Prop} (hK : K (vwC (vn, vf, vs, vp, vq, vd, vo)) ()) : vL_view vn vf vs vp vq vd vo tm hc K := by
  have hn : Int32.toNatClampNeg (vn 10) = n := by
    rw [hI.1.2.1]
    exact nI_cl (by have := hI.1.1; omega)
  have hm : Int32.toNatClampNeg (vn 11) = m := by
    rw [hI.2.1.2.1]
    exact nI_cl (by have := hI.2.1.1; omega)
  have hK : K (vwA (Int32.toNatClampNeg (vn 10)) (Int32.toNatClampNeg (vn 11)) vn vf vs vp vq vd vo) () := hK
  rw [hn, hm] at hK
  unfold vL_view
  refine lp_ex (fun z : Int64 × Int32 => ∃ j : Nat, j ≤ 21 ∧ z.2 = nI j ∧ z.1 = itF (vw1 m vn vf vs vd vo) j 7) (fun z => 21 - z.2.toNatClampNeg) _ ⟨0, by omega, rfl, rfl⟩ ?_
  rintro B ⟨v, x⟩ ⟨j, hj, hx, hv⟩ hB
  dsimp only at hx hv hB
  subst hx hv
  unfold vL_view_6F vL_view_6b vL_view_24 vL_view_40
  dsimp only
  have e21 : (21 : Int32) ≤ nI j ↔ 21 ≤ j := nI_leI (a := 21) (by omega) (by omega)
  rw [e21]
  have hs : ∀ w : Int64, j < 21 → w = itF (vw1 m vn vf vs vd vo) (j + 1) 7 → B (w, nI j + 1) := fun w h e => hB _ ⟨j + 1, by omega, nI_1 j, e⟩ (by
    dsimp only
    rw [nI_1, nI_cl (by omega), nI_cl (by omega)]
    omega)
  refine ⟨fun h => ?_, fun h => ⟨fun h9 => hs _ (by omega) ?_, fun h9 => ⟨fun h10 => s6_total hI.2.1 (hI.2.2.2.1.1.1.mg.mono (by decide)) (hs _ (by omega) ?_), fun h10 => hs _ (by omega) ?_⟩⟩⟩
  · refine vw_49 hI _ ?_
    rw [show j = 21 by omega]
    exact hK
  · show _ = vw1 m vn vf vs vd vo j _
    unfold vw1
    rw [if_pos h9]
  · show _ = vw1 m vn vf vs vd vo j _
    unfold vw1
    rw [if_neg h9, if_neg h10, toA_cg h9 h10]
  · show _ = vw1 m vn vf vs vd vo j _
    unfold vw1
    rw [if_neg h9, if_pos h10]
end VW
