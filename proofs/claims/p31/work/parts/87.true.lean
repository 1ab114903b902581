/-! what is told of seconds to come -/
abbrev UV7 : Type := (Nat → Int32) × (Nat → UInt32) × (Nat → Int32) × (Nat → Int32) × (Nat → Int32) × (Nat → Int32) × (Nat → Int32)
section CT
variable {vn : Nat → Int32} {vf : Nat → UInt32} {vs vp vq vd vo : Nat → Int32} {un : Nat → Int32} {uf : Nat → UInt32} {us up uq ud uo : Nat → Int32} {n m : Nat}
theorem s6_modeIn (hI : sI n m vn vf vs vp vq vd vo) {t : Nat} (ht : t ≤ 500) {K : Int32 → UV7 → Prop} (hK : ∀ u, K ((itS n m vs vp vq vd vo t (vn, vf)).1 0) u) : vX6_modeIn vn vf vs vp vq vd vo un uf us up uq ud uo (nI t) K := by
  have e : (nI t).toInt = t := i_nI (by omega)
  unfold vX6_modeIn
  rw [i_lt, i_le, c_0, c_500]
  exact ⟨fun q => by omega, fun _ => ⟨fun _ => ⟨⟨hI.2.2.2.2.1, hI.2.1.2.2.1⟩, s6_modeLoop hI (by omega) (fun wn wf => hK _)⟩, fun q => by omega⟩⟩
theorem s6_secondsTo (hI : sI n m vn vf vs vp vq vd vo) {p : Int32} (h0 : 0 ≤ p.toInt) (h5 : p.toInt ≤ 5) {K : Int32 → UV7 → Prop} (hK : ∀ u, K (toS n m vs vp vq vd vo p 500 0 (vn, vf)) u) : vX6_secondsTo vn vf vs vp vq vd vo un uf us up uq ud uo p K := by
  unfold vX6_secondsTo
  rw [i_lt, i_le, c_0, c_5]
  exact ⟨fun q => by omega, fun _ => ⟨fun _ => ⟨⟨hI.2.2.2.2.1, hI.2.1.2.2.1⟩, s6_toLoop hI (fun wn wf => hK _)⟩, fun q => by omega⟩⟩
end CT
abbrev u16 (c : Cx) (u : UV7) (hc : Nat → Int32) (hh : Nat → Sx) : (Nat → Int32) × (Nat → UInt32) × (Nat → Int32) × (Nat → Int32) × (Nat → Int32) × (Nat → Int32) × (Nat → Int32) × (Nat → Int32) × (Nat → UInt32) × (Nat → Int32) × (Nat → Int32) × (Nat → Int32) × (Nat → Int32) × (Nat → Int32) × (Nat → Int32) × (Nat → Sx) := (c.1, c.2.1, c.2.2.1, c.2.2.2.1, c.2.2.2.2.1, c.2.2.2.2.2.1, c.2.2.2.2.2.2, u.1, u.2.1, u.2.2.1, u.2.2.2.1, u.2.2.2.2.1, u.2.2.2.2.2.1, u.2.2.2.2.2.2, hc, hh)
section CU
variable {vn : Nat → Int32} {vf : Nat → UInt32} {vs vp vq vd vo : Nat → Int32} {un : Nat → Int32} {uf : Nat → UInt32} {us up uq ud uo : Nat → Int32} {n m : Nat} {tm hc : Nat → Int32} {hh : Nat → Sx}
theorem t_242 (hI : sI n m vn vf vs vp vq vd vo) {t : Nat} (ht : t ≤ 200) {p : Int32} {K : Int32 → ((Nat → Int32) × (Nat → UInt32) × (Nat → Int32) × (Nat → Int32) × (Nat → Int32) × (Nat → Int32) × (Nat → Int32) × (Nat → Int32) × (Nat → UInt32) × (Nat → Int32) × (Nat → Int32) × (Nat → Int32) × (Nat → Int32) × (Nat → Int32) × (Nat → Int32) × (Nat → Sx)) → Prop} (hK : ∀ u, K 1 (u16 (vn, vf, vs, vp, vq, vd, vo) u hc hh)) : vL_comesTrue_242 vn vf vs vp vq vd vo un uf us up uq ud uo tm hc hh (nI t) p (toS n m vs vp vq vd vo p 500 0 (vn, vf)) 1 K := by
  unfold vL_comesTrue_242 vL_comesTrue_263
  refine ⟨fun q => absurd q (by decide), fun _ => ⟨fun _ => hK (un, uf, us, up, uq, ud, uo), fun h5 => s6_modeIn hI (by omega) (fun u => ⟨fun q => ?_, fun _ => hK u⟩)⟩⟩
  rcases to_spec (n := n) (m := m) (vs := vs) (vp := vp) (vq := vq) (vd := vd) (vo := vo) p 500 0 (vn, vf) with ⟨-, h2⟩ | ⟨j, h1, h2, -⟩
  · exact absurd q (h2 t (by omega))
  · rw [h2, Nat.zero_add] at h5
    exact absurd h5 (nI_n5 (by omega))
theorem t_195 (hI : sI n m vn vf vs vp vq vd vo) {t : Nat} (ht : t ≤ 200) {p : Int32} {K : Int32 → ((Nat → Int32) × (Nat → UInt32) × (Nat → Int32) × (Nat → Int32) × (Nat → Int32) × (Nat → Int32) × (Nat → Int32) × (Nat → Int32) × (Nat → UInt32) × (Nat → Int32) × (Nat → Int32) × (Nat → Int32) × (Nat → Int32) × (Nat → Int32) × (Nat → Int32) × (Nat → Sx)) → Prop} (hK : ∀ u, K 1 (u16 (vn, vf, vs, vp, vq, vd, vo) u hc hh)) : vL_comesTrue_195 vn vf vs vp vq vd vo un uf us up uq ud uo tm hc hh (nI t) p (toS n m vs vp vq vd vo p 500 0 (vn, vf)) 1 K := by
  unfold vL_comesTrue_195
  refine ⟨fun _ => t_242 hI ht hK, fun h0 => ⟨fun _ => t_242 hI ht hK, fun h2 => ⟨fun q => absurd q (by decide), fun _ => ?_⟩⟩⟩
  rcases to_spec (n := n) (m := m) (vs := vs) (vp := vp) (vq := vq) (vd := vd) (vo := vo) p 500 0 (vn, vf) with ⟨h1, -⟩ | ⟨j, h1, h2, h3, h4⟩
  · rw [h1] at h0
    exact absurd (by decide) h0
  · have hs := fun (u : UV7) => t_242 (un := u.1) (uf := u.2.1) (us := u.2.2.1) (up := u.2.2.2.1) (uq := u.2.2.2.2.1) (ud := u.2.2.2.2.2.1) (uo := u.2.2.2.2.2.2) (tm := tm) (p := p) hI ht hK
    rw [h2, Nat.zero_add] at h0 hs ⊢
    have j1 : 1 ≤ j := by
      rcases Nat.eq_zero_or_pos j with q | q
      · subst q
        exact absurd (by decide) h0
      · exact q
    refine s6_modeIn hI (by omega) (fun u => ⟨fun q => absurd h3 q, fun _ => ?_⟩)
    rw [nI_m1 j1]
    refine s6_modeIn hI (by omega) (fun u => ⟨fun q => absurd q (h4 (j - 1) (by omega)), fun _ => ?_⟩)
    unfold vL_comesTrue_240
    exact hs u
end CU
/-- a state some seconds on -/
abbrev cS (n m : Nat) (c : Cx) (t : Nat) : Cx := ((itS n m c.2.2.1 c.2.2.2.1 c.2.2.2.2.1 c.2.2.2.2.2.1 c.2.2.2.2.2.2 t (c.1, c.2.1)).1, (itS n m c.2.2.1 c.2.2.2.1 c.2.2.2.2.1 c.2.2.2.2.2.1 c.2.2.2.2.2.2 t (c.1, c.2.1)).2, c.2.2)
abbrev jC (n m : Nat) (c : Cx) : Prop := jI n m c.1 c.2.1 c.2.2.1 c.2.2.2.1 c.2.2.2.2.1 c.2.2.2.2.2.1 c.2.2.2.2.2.2
theorem cS_jI {n m : Nat} {c : Cx} (h : jC n m c) (t : Nat) : jC n m (cS n m c t) := jI_it t (c.1, c.2.1) h
theorem cS_add {n m : Nat} {c : Cx} (i j : Nat) : cS n m (cS n m c i) j = cS n m c (i + j) := by
  show (_, _, _) = (_, _, _)
  rw [it_add]
theorem s6_passC {n m : Nat} {c : Cx} (h : jC n m c) {t : Nat} (h1 : 1 ≤ t) (h2 : t ≤ 200) {hc : Nat → Int32} {hh : Nat → Sx} (hH : Hx hc hh) {K : Int32 → ((Nat → Int32) × (Nat → UInt32) × (Nat → Int32) × (Nat → Int32) × (Nat → Sx)) → Prop} (hK : K ((cS n m c t).1 0) ((cS n m c t).1, (cS n m c t).2.1, c.2.2.2.2.2.2, hck hc, hhk hc hh c)) : vX6_pass c.1 c.2.1 c.2.2.1 c.2.2.2.1 c.2.2.2.2.1 c.2.2.2.2.2.1 c.2.2.2.2.2.2 hc hh (nI t) K := s6_passN (vn := c.1) (vf := c.2.1) (vs := c.2.2.1) (vp := c.2.2.2.1) (vq := c.2.2.2.2.1) (vd := c.2.2.2.2.2.1) (vo := c.2.2.2.2.2.2) ⟨n, m, h⟩ h.1 h1 h2 hH hK
theorem s_123 {n m : Nat} {c : Cx} (h : jC n m c) {u : UV7} {tm hc : Nat → Int32} {hh : Nat → Sx} (hH : Hx hc hh) {t : Nat} (h1 : 1 ≤ t) (ht : t ≤ 60) {p : Int32} {K : Int32 → ((Nat → Int32) × (Nat → UInt32) × (Nat → Int32) × (Nat → Int32) × (Nat → Int32) × (Nat → Int32) × (Nat → Int32) × (Nat → Int32) × (Nat → UInt32) × (Nat → Int32) × (Nat → Int32) × (Nat → Int32) × (Nat → Int32) × (Nat → Int32) × (Nat → Int32) × (Nat → Sx)) → Prop} (hK : ∀ u hc2 hh2, Hx hc2 hh2 → K 1 (u16 c u hc2 hh2)) : vL_comesTrue_123 c.1 c.2.1 c.2.2.1 c.2.2.2.1 c.2.2.2.2.1 c.2.2.2.2.2.1 c.2.2.2.2.2.2 u.1 u.2.1 u.2.2.1 u.2.2.2.1 u.2.2.2.2.1 u.2.2.2.2.2.1 u.2.2.2.2.2.2 tm hc hh (nI t) p (vwC c) ((cS n m c t).1 0) (toS n m c.2.2.1 c.2.2.2.1 c.2.2.2.2.1 c.2.2.2.2.2.1 c.2.2.2.2.2.2 p 500 0 (c.1, c.2.1)) (vwC (cS n m c t)) 1 K := by
  have hJ : Jc c := ⟨n, m, h⟩
  have hend := fun (hc2 : Nat → Int32) (hh2 : Nat → Sx) (hH2 : Hx hc2 hh2) => t_195 (un := u.1) (uf := u.2.1) (us := u.2.2.1) (up := u.2.2.2.1) (uq := u.2.2.2.2.1) (ud := u.2.2.2.2.2.1) (uo := u.2.2.2.2.2.2) (tm := tm) (hc := hc2) (hh := hh2) (p := p) h.1 (show t ≤ 200 by omega) (fun u => hK u hc2 hh2 hH2)
  unfold vL_comesTrue_123 vL_comesTrue_193
  refine ⟨fun _ => hend _ _ hH, fun h9 => ⟨fun q => absurd q (by decide), fun _ => ?_⟩⟩
  have t2 : 2 ≤ t := by
    rcases Nat.lt_or_ge t 2 with q | q
    · rw [show t = 1 by omega] at h9
      exact absurd (by decide) h9
    · exact q
  have g1 := cS_jI h 1
  have J1 : Jc (cS n m c 1) := ⟨n, m, g1⟩
  have H1 := hH.keep hJ
  have H2 := H1.keep J1
  obtain ⟨k, hk, e, -⟩ := id hH
  have e1 := hck_0 e hk
  have e2 := hck_0 e1 (by omega)
  have ecS : cS n m (cS n m c 1) (t - 1) = cS n m c t := by
    rw [cS_add, show 1 + (t - 1) = t by omega]
  have gt : jC n m (cS n m (cS n m c 1) (t - 1)) := cS_jI g1 (t - 1)
  have Jt : Jc (cS n m (cS n m c 1) (t - 1)) := ⟨n, m, gt⟩
  refine s6_passC h (t := 1) (by decide) (by decide) hH ⟨fun q => absurd q (mode_nn g1.1), fun _ => ?_⟩
  rw [nI_m1 (by omega)]
  refine s6_passC g1 (t := t - 1) (by omega) (by omega) H1 ⟨fun q => absurd (by rw [ecS]) q, fun _ => Jt.view ⟨fun q => absurd (by rw [ecS]; exact cmp_self _) q, fun _ => ?_⟩⟩
  refine s6_undo (c := cS n m c 1) e2 (by omega) (hhk_at e1 (by omega)).1 J1 ⟨fun q => absurd q (nI_nn (by omega)), fun _ => ?_⟩
  have e3 : upd (hck (hck hc)) 0 (nI (min (min k 4 + 1) 4)) 0 = nI ((min (min k 4 + 1) 4 - 1) + 1) := by
    rw [show min (min k 4 + 1) 4 - 1 + 1 = min (min k 4 + 1) 4 by omega]
    rfl
  have hprev : (hhk (hck hc) (hhk hc hh c) (cS n m c 1) (min (min k 4 + 1) 4 - 1)).2 = c := by
    rw [hhk_prev e1 (by omega) (by omega), Nat.add_sub_cancel]
    exact (hhk_at e hk).1
  have H3 : Hx (upd (upd (hck (hck hc)) 0 (nI (min (min k 4 + 1) 4))) 0 (nI (min (min k 4 + 1) 4 - 1))) (hhk (hck hc) (hhk hc hh c) (cS n m c 1)) := by
    obtain ⟨k2, h2, e4, hr⟩ := H2
    rw [e2] at e4
    have : min (min k 4 + 1) 4 + 1 = k2 := (nI_eq (by omega) (by omega)).mp e4
    exact ⟨min (min k 4 + 1) 4 - 1, by omega, rfl, fun i hi => hr i (by omega)⟩
  exact s6_undo (c := c) e3 (by omega) hprev hJ ⟨fun q => absurd q (nI_nn (by omega)), fun _ => hJ.view ⟨fun q => absurd (cmp_self _) q, fun _ => hend _ _ H3⟩⟩
theorem s_comesTrue {c : Cx} (hJ : Jc c) {u : UV7} {tm hc : Nat → Int32} {hh : Nat → Sx} (hH : Hx hc hh) {t : Nat} (h1 : 1 ≤ t) (ht : t ≤ 60) {p : Int32} (p0 : 0 ≤ p.toInt) (p5 : p.toInt ≤ 5) {K : Int32 → ((Nat → Int32) × (Nat → UInt32) × (Nat → Int32) × (Nat → Int32) × (Nat → Int32) × (Nat → Int32) × (Nat → Int32) × (Nat → Int32) × (Nat → UInt32) × (Nat → Int32) × (Nat → Int32) × (Nat → Int32) × (Nat → Int32) × (Nat → Int32) × (Nat → Int32) × (Nat → Sx)) → Prop} (hK : ∀ u hc2 hh2, Hx hc2 hh2 → K 1 (u16 c u hc2 hh2)) : vL_comesTrue c.1 c.2.1 c.2.2.1 c.2.2.2.1 c.2.2.2.2.1 c.2.2.2.2.2.1 c.2.2.2.2.2.2 u.1 u.2.1 u.2.2.1 u.2.2.2.1 u.2.2.2.2.1 u.2.2.2.2.2.1 u.2.2.2.2.2.2 tm hc hh (nI t) p K := by
  obtain ⟨n, m, h⟩ := id hJ
  have h : jC n m c := h
  obtain ⟨k, hk, e, -⟩ := id hH
  have e1 := hck_0 e hk
  have H1 := hH.keep hJ
  have H2 := H1.popd e hk
  have gt := cS_jI h t
  have Jt : Jc (cS n m c t) := ⟨n, m, gt⟩
  have hx : mg 180 (c.2.1 0) := h.1.2.2.2.1.1.1.mg.mono (by decide)
  have r := h.1.2.2.2.2.2.1
  unfold vL_comesTrue
  refine hJ.view (s6_modeIn h.1 (by omega) (fun u1 => s6_secondsTo h.1 p0 p5 (fun u2 => s6_total h.1.2.1 hx ?_)))
  rw [toA_1]
  refine hJ.view ⟨fun q => absurd (cmp_self _) q, fun _ => s6_modeIn (t := 0) h.1 (by omega) (fun u3 => s6_total h.1.2.1 hx ?_)⟩
  rw [toA_0]
  refine ⟨fun q => absurd rfl q, fun _ => s6_total h.1.2.1 hx ?_⟩
  rw [toA_0]
  refine s6_secondsTo h.1 r.1 r.2 (fun u4 => ⟨fun _ => s6_passC h h1 (by omega) hH ⟨fun q => absurd rfl q, fun _ => s6_total gt.1.2.1 (gt.1.2.2.2.1.1.1.mg.mono (by decide)) ?_⟩, fun q => absurd ?_ q⟩)
  · rw [toA_1]
    refine ⟨fun q => absurd (it_1 t (c.1, c.2.1)) q, fun _ => ?_⟩
    unfold vL_comesTrue_89
    refine Jt.view ⟨fun q => absurd q (by decide), fun _ => s6_undo (c := c) e1 (by omega) (hhk_at e hk).1 hJ ⟨fun q => absurd q (nI_nn (by omega)), fun _ => hJ.view ⟨fun q => absurd (cmp_self _) q, fun _ => s_123 (u := u4) h H2 h1 ht hK⟩⟩⟩
  · rw [to_s, if_pos rfl]
    rfl
