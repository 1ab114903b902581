/-! the calls that look -/
theorem s6_isBeyond {p g : Int32} {G : Int} (eg : g.toInt = G) (hg : 0 ≤ G) {K : Int32 → Unit → Prop} (h1 : ¬ (-G ≤ p.toInt ∧ p.toInt ≤ G) → K 1 ()) (h0 : -G ≤ p.toInt → p.toInt ≤ G → K 0 ()) : vX6_isBeyond p g K := by
  unfold vX6_isBeyond vX6_isBeyond_11
  rw [i_lt, i_le, i_neg (by omega), eg]
  exact ⟨fun h => h1 (by omega), fun h => ⟨fun h2 => h0 (by omega) (by omega), fun h2 => h1 (by omega)⟩⟩
def nsS (n : Nat) (vn vp vq : Nat → Int32) (vf : Nat → UInt32) (p : Int32) : UInt32 := if p = 1 then vf 1 else if p = 2 then vf 2 else if p = 3 then vf 3 else if p = 4 then msF vn (vf 0) else if p = 5 then lim n vp vq (msF vn (vf 0)) else if p = 6 then FP.fadd (vf 0) (m100 (vn 6)) else if p = 7 then FP.fadd (vf 0) (m100 (vn 7)) else vf 0
theorem ns_mg {n : Nat} {vn vp vq : Nat → Int32} {vf : Nat → UInt32} (hp : pOk vn vp vq n) (hf : fOk vf) (p : Int32) : mg 222 (nsS n vn vp vq vf p) ∧ nz (nsS n vn vp vq vf p) := by
  obtain ⟨⟨a0, a1, a2, a3, a4⟩, n0, n1, n2, n3⟩ := hf
  have hm : mg 222 (msF vn (vf 0)) ∧ nz (msF vn (vf 0)) := ⟨(ms_mg2 a0).mono (by decide), ms_nz a0 n0 _⟩
  unfold nsS
  split
  · exact ⟨a1.mg.mono (by decide), n1⟩
  split
  · exact ⟨a2.mg.mono (by decide), n2⟩
  split
  · exact ⟨a3.mg.mono (by decide), n3⟩
  split
  · exact hm
  split
  · exact lim_mg hp (ms_mg2 a0)
  split
  · exact ⟨(ms_mg (vn := vn) a0 _).mono (by decide), ms_nz a0 n0 _⟩
  split
  · exact ⟨(ms_mg (vn := vn) a0 _).mono (by decide), ms_nz a0 n0 _⟩
  · exact ⟨a0.mg.mono (by decide), n0⟩
theorem s6_ns {n : Nat} {vn vp vq : Nat → Int32} {vf : Nat → UInt32} (hp : pOk vn vp vq n) (hf : fOk vf) {p : Int32} {K : UInt32 → Unit → Prop} (hK : K (nsS n vn vp vq vf p) ()) : vX6_numberOfShip vn vf vp vq p K := by
  have a0 := hf.1.1
  unfold vX6_numberOfShip
  unfold nsS at hK
  refine ⟨fun h => ?_, fun h1 => ⟨fun h => ?_, fun h2 => ⟨fun h => ?_, fun h3 => ⟨fun h => ?_, fun h4 => ⟨fun h => ?_, fun h5 => ⟨fun h => ?_, fun h6 => ⟨fun h => ?_, fun h7 => ?_⟩⟩⟩⟩⟩⟩⟩
  · rw [if_pos h] at hK
    exact hK
  · rw [if_neg h1, if_pos h] at hK
    exact hK
  · rw [if_neg h1, if_neg h2, if_pos h] at hK
    exact hK
  · rw [if_neg h1, if_neg h2, if_neg h3, if_pos h] at hK
    exact s3_measured a0 hK
  · rw [if_neg h1, if_neg h2, if_neg h3, if_neg h4, if_pos h] at hK
    exact s3_measured a0 (s2_limitAt hp (ms_mg2 a0) hK)
  · rw [if_neg h1, if_neg h2, if_neg h3, if_neg h4, if_neg h5, if_pos h] at hK
    exact s3_far a0 hK
  · rw [if_neg h1, if_neg h2, if_neg h3, if_neg h4, if_neg h5, if_neg h6, if_pos h] at hK
    exact s3_near a0 hK
  · rw [if_neg h1, if_neg h2, if_neg h3, if_neg h4, if_neg h5, if_neg h6, if_neg h7] at hK
    exact hK
theorem c_0 : (0 : Int32).toInt = 0 := by decide
theorem c_1 : (1 : Int32).toInt = 1 := by decide
theorem c_100000 : (100000 : Int32).toInt = 100000 := by decide
theorem c_n100000 : (-100000 : Int32).toInt = -100000 := by decide
theorem c_5000 : (5000 : Int32).toInt = 5000 := by decide
theorem c_n5000 : (-5000 : Int32).toInt = -5000 := by decide
theorem c_500 : (500 : Int32).toInt = 500 := by decide
theorem c_n500 : (-500 : Int32).toInt = -500 := by decide
theorem c_200 : (200 : Int32).toInt = 200 := by decide
theorem ix_3 (a j : Nat) (p : Nat) : nI a + (2 : Int32) * nI j + nI p = nI (a + 2 * j + p) := by
  rw [ix_2, nI_add]
