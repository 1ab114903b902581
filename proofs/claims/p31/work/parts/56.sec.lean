/-! a second: what is wanted, and the accelerations -/
def msF (vn : Nat → Int32) (x : UInt32) : UInt32 := FP.fadd x (m100 (if vn 4 = 0 then vn 6 else vn 7))
theorem ms_mg {vn : Nat → Int32} {x : UInt32} (hx : ml 178 x) (b : Int32) : mg 181 (FP.fadd x (m100 b)) := mg_add hx.mg ((mg_m b).mono (by decide)) (by decide)
theorem ms_mg2 {vn : Nat → Int32} {x : UInt32} (hx : ml 178 x) : mg 182 (msF vn x) := (ms_mg (vn := vn) hx _).mono (by decide)
theorem ms_nz {x : UInt32} (hx : ml 178 x) (hz : nz x) (b : Int32) : nz (FP.fadd x (m100 b)) := nz_fadd (hx.mg.ffin (by decide)) ((mg_m b).ffin (by decide)) (.inl hz)
theorem s3_far {vn : Nat → Int32} {x : UInt32} (hx : ml 178 x) {K : UInt32 → Unit → Prop} (hK : K (FP.fadd x (m100 (vn 6))) ()) : vX3_farMeasured vn x K := ⟨(mg_m _).n32 (by decide), (ms_mg (vn := vn) hx _).n32 (by decide), hK⟩
theorem s3_near {vn : Nat → Int32} {x : UInt32} (hx : ml 178 x) {K : UInt32 → Unit → Prop} (hK : K (FP.fadd x (m100 (vn 7))) ()) : vX3_nearMeasured vn x K := ⟨(mg_m _).n32 (by decide), (ms_mg (vn := vn) hx _).n32 (by decide), hK⟩
theorem s3_measured {vn : Nat → Int32} {x : UInt32} (hx : ml 178 x) {K : UInt32 → Unit → Prop} (hK : K (msF vn x) ()) : vX3_measured vn x K := by
  unfold vX3_measured
  unfold msF at hK
  refine ⟨fun h => ?_, fun h => ?_⟩
  · rw [if_pos h] at hK
    exact s3_far hx hK
  · rw [if_neg h] at hK
    exact s3_near hx hK
def slF (vd : Nat → Int32) (x : UInt32) (r : Int32) : UInt32 := FP.fsub FP.fconst0 (FP.fmul (FP.fsub x (m100 (vd r.toNatClampNeg))) (1036831949 : UInt32))
def wS (n m : Nat) (vn vp vq vd vo : Nat → Int32) (x hold : UInt32) : UInt32 := if vn 0 = 2 then FP.fmul (FP.fsub hold x) (1036831949 : UInt32) else if vn 0 = 3 then lim n vp vq (msF vn x) else if (nx vd vo x m).1 = -5 then FP.fneg (lim n vp vq (msF vn x)) else if fk (slF vd x (nx vd vo x m).1) ≤ fk (FP.fneg (lim n vp vq (msF vn x))) then FP.fneg (lim n vp vq (msF vn x)) else slF vd x (nx vd vo x m).1
theorem mg_c1 {K : Nat} (h : 124 ≤ K) : mg K (1036831949 : UInt32) := by
  have : mg 124 (1036831949 : UInt32) := by unfold mg; decide
  exact this.mono h
theorem mg_c05 {K : Nat} (h : 123 ≤ K) : mg K (1028443341 : UInt32) := by
  have : mg 123 (1028443341 : UInt32) := by unfold mg; decide
  exact this.mono h
theorem hold_mg {x h : UInt32} (hx : ml 178 x) (hh : ml 178 h) : mg 181 (FP.fsub h x) ∧ mg 179 (FP.fmul (FP.fsub h x) (1036831949 : UInt32)) := by
  have a := mg_sub hh.mg hx.mg (by decide)
  exact ⟨a, (mg_mul a (mg_c1 (K := 124) (by decide)) (by decide) (by decide)).mono (by decide)⟩
theorem sl_mg {x : UInt32} (hx : ml 178 x) (b : Int32) : mg 181 (FP.fsub x (m100 b)) ∧ mg 179 (FP.fmul (FP.fsub x (m100 b)) (1036831949 : UInt32)) ∧ mg 181 (FP.fsub FP.fconst0 (FP.fmul (FP.fsub x (m100 b)) (1036831949 : UInt32))) := by
  have a := mg_sub hx.mg ((mg_m b).mono (show 155 ≤ 179 by decide)) (by decide)
  have c := (mg_mul a (mg_c1 (K := 124) (by decide)) (by decide) (by decide)).mono (show _ ≤ 179 by decide)
  exact ⟨a, c, mg_sub (mg_0 (by decide)) c (by decide)⟩
theorem w_mg {n m : Nat} {vn vp vq vd vo : Nat → Int32} (hp : pOk vn vp vq n) {x hold : UInt32} (hx : ml 178 x) (hh : ml 178 hold) : mg 222 (wS n m vn vp vq vd vo x hold) := by
  have hl := (lim_mg hp (ms_mg2 (vn := vn) hx)).1
  unfold wS
  split
  · exact (hold_mg hx hh).2.mono (by decide)
  · split
    · exact hl
    · split
      · exact mg_neg hl
      · split
        · exact mg_neg hl
        · exact (sl_mg hx _).2.2.mono (by decide)
theorem s4_wanted {n m : Nat} {vn vp vq vd vo : Nat → Int32} (hp : pOk vn vp vq n) (hs : sOk vn vd vo m) {vf : Nat → UInt32} (hx : ml 178 (vf 0)) (hh : ml 178 (vf 4)) {K : UInt32 → Unit → Prop} (hK : K (wS n m vn vp vq vd vo (vf 0) (vf 4)) ()) : vX4_wantedSpeed vn vf vp vq vd vo K := by
  have hl := (lim_mg hp (ms_mg2 (vn := vn) hx)).1
  unfold vX4_wantedSpeed
  unfold wS at hK
  refine ⟨fun h => ?_, fun h => ?_⟩
  · rw [if_neg h] at hK
    refine s3_measured hx (s2_limitAt hp (ms_mg2 hx) ⟨fun h3 => ?_, fun h3 => ?_⟩)
    · rw [if_neg h3] at hK
      refine s5_nextBelow hs (hx.mg.mono (by decide)) (s5_has hs.2.1 hs.1 (fun j hj hr => ⟨fun _ => ?_, fun q => absurd q (by decide)⟩) (fun hr => ⟨fun q => absurd rfl q, fun _ => ?_⟩))
      · rw [hr] at hK ⊢
        rw [if_neg (nI_n5 (by have := hs.1; omega))] at hK
        unfold slF at hK
        rw [nI_cl (by have := hs.1; omega)] at hK
        have q := sl_mg hx (vd j)
        refine s5_metres (by have := hs.1; omega) ⟨q.1.n32 (by decide), q.2.1.n32 (by decide), q.2.2.n32 (by decide), fun h4 => ?_, fun h4 => ?_⟩
        · rw [cl_le (q.2.2.nn (by decide)) ((mg_neg hl).nn (by decide))] at h4
          rw [if_pos h4] at hK
          exact hK
        · rw [cl_le (q.2.2.nn (by decide)) ((mg_neg hl).nn (by decide))] at h4
          rw [if_neg h4] at hK
          exact hK
      · have e5 : (nx vd vo (vf 0) m).1 = -5 := by
          rcases nx_facts vd vo (vf 0) m hs.1 with q | ⟨j, hj, q⟩
          · rw [q]
          · exact absurd ⟨j, hj, by rw [q]⟩ hr
        rw [if_pos e5] at hK
        exact hK
    · rw [if_pos h3] at hK
      exact hK
  · rw [if_pos h] at hK
    have q := hold_mg hx hh
    exact ⟨q.1.n32 (by decide), q.2.n32 (by decide), hK⟩
/-- what the model holds to -/
def mh (vn vd : Nat → Int32) (h : UInt32) : UInt32 := if vn 5 = -5 then h else m100 (vd (vn 5).toNatClampNeg)
def hOk (vn : Nat → Int32) (m : Nat) : Prop := vn 5 = -5 ∨ ∃ j, j < m ∧ vn 5 = nI j
/-! held to the greatest -/
def hdS (g v : UInt32) : UInt32 := if fk v < fk (FP.fneg g) then FP.fneg g else if fk g < fk v then g else v
theorem hd_ml {K : Nat} {g v : UInt32} (hg : ml K g) : ml K (hdS g v) := by
  unfold hdS
  split
  · exact ml_neg hg
  · split
    · exact hg
    · exact ml_held hg (by omega) (by omega)
theorem s4_held {vs : Nat → Int32} {v : UInt32} (hv : mg 230 v) {K : UInt32 → Unit → Prop} (hK : K (hdS (t1000 (vs 4)) v) ()) : vX4_heldToGreatest vs v K := by
  have hg := mg_t (vs 4)
  unfold vX4_heldToGreatest
  unfold hdS at hK
  rw [cg_le (hv.nn (by decide)) ((mg_neg hg).nn (by decide)), cl_le (hv.nn (by decide)) (hg.nn (by decide))]
  refine ⟨hg.n32 (by decide), fun h => ⟨fun h2 => ?_, fun h2 => ?_⟩, fun h => ?_⟩
  · rw [if_neg (by omega), if_neg (by omega)] at hK
    exact hK
  · rw [if_neg (by omega), if_pos (by omega)] at hK
    exact hK
  · rw [if_pos (by omega)] at hK
    exact hK
def alS (vs : Nat → Int32) (x w vx : UInt32) : UInt32 := if fk (t1000 (vs 5)) < fk (hdS (t1000 (vs 4)) (FP.fsub w vx)) ∧ fk x < fk (m100 (vs 3)) then t1000 (vs 5) else hdS (t1000 (vs 4)) (FP.fsub w vx)
abbrev acA (y : UInt32) : UInt32 := FP.fmul y (1028443341 : UInt32)
def acS (vs : Nat → Int32) (y vy : UInt32) : UInt32 := hdS (t1000 (vs 4)) (FP.fsub (FP.fsub FP.fconst0 (acA y)) vy)
theorem al_ml {vs : Nat → Int32} (ht : tOk vs) (x w vx : UInt32) : ml 126 (alS vs x w vx) := by
  unfold alS
  split
  · exact t_half (ht.1 5 (by decide)).1 ht.2.2
  · exact hd_ml (t_half (ht.1 4 (by decide)).1 ht.2.1)
theorem ac_ml {vs : Nat → Int32} (ht : tOk vs) (y vy : UInt32) : ml 126 (acS vs y vy) := hd_ml (t_half (ht.1 4 (by decide)).1 ht.2.1)
theorem ac_mg {y vy : UInt32} (hy : ml 178 y) (hv : ml 152 vy) : mg 177 (acA y) ∧ mg 179 (FP.fsub FP.fconst0 (acA y)) ∧ mg 181 (FP.fsub (FP.fsub FP.fconst0 (acA y)) vy) := by
  have a := (mg_mul hy.mg (mg_c05 (K := 123) (by decide)) (by decide) (by decide)).mono (show _ ≤ 177 by decide)
  have b := mg_sub (mg_0 (by decide)) a (by decide)
  exact ⟨a, b, mg_sub b (hv.mg.mono (by decide)) (by decide)⟩
theorem s4_along {vs : Nat → Int32} {vf : Nat → UInt32} (hx : ml 178 (vf 0)) (hv : ml 152 (vf 2)) {w : UInt32} (hw : mg 222 w) {K : UInt32 → Unit → Prop} (hK : K (alS vs (vf 0) w (vf 2)) ()) : vX4_accelerationAlong vf vs w K := by
  have hsb := mg_sub hw (hv.mg.mono (show 153 ≤ 222 by decide)) (by decide)
  have hd : mg 230 (hdS (t1000 (vs 4)) (FP.fsub w (vf 2))) := ((hd_ml (v := FP.fsub w (vf 2)) (mg_t (vs 4)).ml).mg).mono (by decide)
  unfold vX4_accelerationAlong
  unfold alS at hK
  refine ⟨hsb.n32 (by decide), s4_held (hsb.mono (by decide)) ⟨(mg_t _).n32 (by decide), fun h => ?_, fun h => ⟨(mg_m _).n32 (by decide), fun h2 => ?_, fun h2 => ?_⟩⟩⟩
  · rw [cl_le (hd.nn (by decide)) ((mg_t _).nn (by decide))] at h
    rw [if_neg (fun q => by omega)] at hK
    exact hK
  · rw [cg_le (hx.mg.nn (by decide)) ((mg_m _).nn (by decide))] at h2
    rw [if_neg (fun q => by omega)] at hK
    exact hK
  · rw [cl_le (hd.nn (by decide)) ((mg_t _).nn (by decide))] at h
    rw [cg_le (hx.mg.nn (by decide)) ((mg_m _).nn (by decide))] at h2
    rw [if_pos ⟨by omega, by omega⟩] at hK
    exact hK
theorem s4_across {vs : Nat → Int32} {vf : Nat → UInt32} (hy : ml 178 (vf 1)) (hv : ml 152 (vf 3)) {K : UInt32 → Unit → Prop} (hK : K (acS vs (vf 1) (vf 3)) ()) : vX4_accelerationAcross vf vs K := by
  have q := ac_mg hy hv
  exact ⟨q.1.n32 (by decide), q.2.1.n32 (by decide), q.2.2.n32 (by decide), s4_held (q.2.2.mono (by decide)) hK⟩
/-! the move -/
def mvS (vf : Nat → UInt32) (ax ay : UInt32) : Nat → UInt32 := vf_upd (vf_upd (vf_upd (vf_upd vf 2 (FP.fadd (vf 2) ax)) 3 (FP.fadd (vf 3) ay)) 0 (FP.fadd (vf 0) (FP.fadd (vf 2) ax))) 1 (FP.fadd (vf 1) (FP.fadd (vf 3) ay))
theorem mv_ok {vf : Nat → UInt32} (hf : fOk vf) {ax ay : UInt32} (hx : ml 126 ax) (hy : ml 126 ay) : fOk (mvS vf ax ay) := by
  obtain ⟨⟨a0, a1, a2, a3, a4⟩, n0, n1, n2, n3⟩ := hf
  have b2 := ml_sat (K := 152) (by decide) (by decide) a2 hx
  have b3 := ml_sat (K := 152) (by decide) (by decide) a3 hy
  have c2 := nz_fadd (a2.mg.ffin (by decide)) (hx.mg.ffin (by decide)) (.inl n2)
  have c3 := nz_fadd (a3.mg.ffin (by decide)) (hy.mg.ffin (by decide)) (.inl n3)
  have b0 := ml_sat (K := 178) (by decide) (by decide) a0 b2
  have b1 := ml_sat (K := 178) (by decide) (by decide) a1 b3
  exact ⟨⟨b0, b1, b2, b3, a4⟩, nz_fadd (a0.mg.ffin (by decide)) (b2.mg.ffin (by decide)) (.inl n0), nz_fadd (a1.mg.ffin (by decide)) (b3.mg.ffin (by decide)) (.inl n1), c2, c3⟩
