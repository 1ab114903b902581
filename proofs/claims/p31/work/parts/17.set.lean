def vX6_set (vn : Nat → Int32) (vf : Nat → UInt32) (vs : Nat → Int32) (vp : Nat → Int32) (vq : Nat → Int32) (vd : Nat → Int32) (vo : Nat → Int32) (hc : Nat → Int32) (hh : Nat → Sx) (p1 : Int32) (p2 : Int32) (K : Int32 → ((Nat → Int32) × (Nat → Int32) × (Nat → Sx)) → Prop) : Prop :=
  (p1 < (0 : Int32) → K (-1 : Int32) (vs, hc, hh)) ∧ (¬ p1 < (0 : Int32) → (p1 < (8 : Int32) → vp_in p1 8 ∧ (p2 < (sLE (Int32.toNatClampNeg p1)) → K (-2 : Int32) (vs, hc, hh)) ∧ (¬ p2 < (sLE (Int32.toNatClampNeg p1)) → vp_in p1 8 ∧ (p2 ≤ (sGR (Int32.toNatClampNeg p1)) → kpre vn vo hc ∧ vp_in p1 8 ∧ vp_in p1 8 ∧ K (vs (Int32.toNatClampNeg p1)) ((upd vs (Int32.toNatClampNeg p1) p2), (hck hc), (hhk hc hh (vn, vf, vs, vp, vq, vd, vo)))) ∧ (¬ p2 ≤ (sGR (Int32.toNatClampNeg p1)) → K (-2 : Int32) (vs, hc, hh)))) ∧ (¬ p1 < (8 : Int32) → K (-1 : Int32) (vs, hc, hh)))
set_option maxRecDepth 100000 in
set_option maxHeartbeats 4000000 in
theorem ctX6_set (l : Launch) (G : va_G) (cy : Nat → ClassId) (g : Nat → Nat) (a : Nat → Nat) (b : Nat → Nat) (t : Nat → Nat) (vn : Nat → Int32) (vf : Nat → UInt32) (vs : Nat → Int32) (vp : Nat → Int32) (vq : Nat → Int32) (vd : Nat → Int32) (vo : Nat → Int32) (un : Nat → Int32) (uf : Nat → UInt32) (us : Nat → Int32) (up : Nat → Int32) (uq : Nat → Int32) (ud : Nat → Int32) (uo : Nat → Int32) (tm : Nat → Int32) (tx : Nat → Int32) (hc : Nat → Int32) (hh : Nat → Sx) (ss : Nat → Sx) (sv : Nat → Int32) (p1 : Int32) (p2 : Int32) (K : Int32 → ((Nat → Int32) × (Nat → Int32) × (Nat → Sx)) → Prop) (h : vX6_set vn vf vs vp vq vd vo hc hh p1 p2 K) : Met l yX6_set (ws_ yX6_set cX6_set 4 (some .int)) ({ frames := 5, cells := 0, slots := 0, locals := 124 } : Room) (CX G cy xST [.ref (g 0), .int p1, .int p2] (mo_W cy g a b t vn vf vs vp vq vd vo un uf us up uq ud uo tm tx hc hh ss sv)) (RI G K (fun u => mo_W cy g a b t vn vf u.1 vp vq vd vo un uf us up uq ud uo tm tx u.2.1 u.2.2 ss sv) (A1 (mo_W cy g a b t vn vf vs vp vq vd vo un uf us up uq ud uo tm tx hc hh ss sv))) 0 0 (A1 (mo_W cy g a b t vn vf vs vp vq vd vo un uf us up uq ud uo tm tx hc hh ss sv)) := by
  refine hd_goX (Qf := fun A => (RI G K (fun u => mo_W cy g a b t vn vf u.1 vp vq vd vo un uf us up uq ud uo tm tx u.2.1 u.2.2 ss sv) A)) (by decide +kernel) (Nat.le_of_ble_eq_true rfl) ?_
  intro p e s m below meth c ls A hx hb hr hlocks S hE hEx hP hD hS hl
  obtain ⟨T60, hZ60, hT60⟩ := hEx.1
  obtain ⟨T64, hZ64, hT64⟩ := hEx.2
  have hl : lv_has ls 4 [(0, .ref (g 0)), (1, .int p1), (2, .int p2)] := hl
  unfold vX6_set at h
  refine lv_iload_n hx hb dX6_set_0 rfl (lv_at hl 1 rfl) ?_
  refine lv_if_lt (tgt := 10) hx hb dX6_set_1 (by decide) (fun c_1 => ?_) (fun c_1 => ?_)
  · have h := h.1 c_1
    refine lv_iconst (v := (-1 : Int32)) hx hb dX6_set_10 (by decide) ?_
    exact W.iret (v := (-1 : Int32)) hx hb hr (fun t ht hW => ⟨⟨(-1 : Int32), (vs, hc, hh), rfl, h, ⟨hp_at ht hP, hD⟩⟩, hS.F ht⟩) hS.2.2 dX6_set_11
  · have h := h.2 c_1
    refine lv_iload_n hx hb dX6_set_4 rfl (lv_at hl 1 rfl) ?_
    refine lv_bipush (v := (8 : Int32)) hx hb dX6_set_5 (by decide) ?_
    refine lv_icmp_lt (tgt := 12) hx hb dX6_set_7 (by decide) (fun c_7 => ?_) (fun c_7 => ?_)
    · have h := h.1 c_7
      refine lv_iload_n hx hb dX6_set_12 rfl (lv_at hl 2 rfl) ?_
      refine va_gets hx hb hZ60 hS S.2.2.2.1 (S.2.2.2.2 _ q_12_12) (fun _ h => h) dX6_set_13 ?_
      refine lv_iload_n hx hb dX6_set_16 rfl (lv_at hl 1 rfl) ?_
      refine va_ti hx hb hT60 hS (i := p1) h.1 (v := .int (sLE (Int32.toNatClampNeg p1))) rfl dX6_set_17 ?_
      have h := h.2
      refine lv_icmp_lt (tgt := 30) hx hb dX6_set_18 (by decide) (fun c_18 => ?_) (fun c_18 => ?_)
      · have h := h.1 c_18
        refine lv_bipush (v := (-2 : Int32)) hx hb dX6_set_30 (by decide) ?_
        exact W.iret (v := (-2 : Int32)) hx hb hr (fun t ht hW => ⟨⟨(-2 : Int32), (vs, hc, hh), rfl, h, ⟨hp_at ht hP, hD⟩⟩, hS.F ht⟩) hS.2.2 dX6_set_32
      · have h := h.2 c_18
        refine lv_iload_n hx hb dX6_set_21 rfl (lv_at hl 2 rfl) ?_
        refine va_gets hx hb hZ64 hS S.2.2.2.1 (S.2.2.2.2 _ q_12_13) (fun _ h => h) dX6_set_22 ?_
        refine lv_iload_n hx hb dX6_set_25 rfl (lv_at hl 1 rfl) ?_
        refine va_ti hx hb hT64 hS (i := p1) h.1 (v := .int (sGR (Int32.toNatClampNeg p1))) rfl dX6_set_26 ?_
        have h := h.2
        refine lv_icmp_le (tgt := 33) hx hb dX6_set_27 (by decide) (fun c_27 => ?_) (fun c_27 => ?_)
        · have h := h.1 c_27
          refine lv_aload_n hx hb dX6_set_33 rfl (lv_at hl 0 rfl) ?_
          refine kg (v := .ref (g 1)) S hE hP 0 rfl rfl 2 (by decide) q_1_17 rfl rfl inlX6 dX6_set_34 ?_
          refine lv_aload_n hx hb dX6_set_37 rfl (lv_at hl 0 rfl) ?_
          refine kg (v := .ref (a 0)) S hE hP 0 rfl rfl 0 (by decide) q_1_12 rfl rfl inlX6 dX6_set_38 ?_
          refine kc_Vv0 (As := [.ref (a 0)]) (rest := []) S hE (ctX1_keep l G cy g a b t vn vf vs vp vq vd vo un uf us up uq ud uo tm tx hc hh ss sv h.1) q_10_11 q_10_12 q_10_13 q_1_16 q_10_14 rfl 21 rfl rfl ydX1_keep ⟨⟨rfl, rfl⟩, ⟨Nat.le_of_ble_eq_true rfl, Nat.le_of_ble_eq_true rfl⟩⟩ ⟨Nat.zero_le _, Nat.zero_le _⟩ hP hD hS rfl hl.1 rfl (Nat.le_of_ble_eq_true rfl) dX6_set_41 (fun u_41 H locs _ hP hD hS => ?_)
          have h := h.2
          have hP : va_P G vwCl (mo_W cy g a b t vn vf vs vp vq vd vo un uf us up uq ud uo tm tx (hck hc) (hhk hc hh (vn, vf, vs, vp, vq, vd, vo)) ss sv) H := hP
          have hD : va_D A (mo_W cy g a b t vn vf vs vp vq vd vo un uf us up uq ud uo tm tx (hck hc) (hhk hc hh (vn, vf, vs, vp, vq, vd, vo)) ss sv) := hD
          refine lv_aload_n hx hb dX6_set_44 rfl (lv_at hl 0 rfl) ?_
          refine kg (v := .ref (a 0)) S hE hP 0 rfl rfl 0 (by decide) q_1_12 rfl rfl inlX6 dX6_set_45 ?_
          refine kg (v := .ref (a 1)) S hE hP 10 rfl rfl 10 (by decide) q_6_5 rfl rfl inlX4 dX6_set_48 ?_
          refine lv_iload_n hx hb dX6_set_51 rfl (lv_at hl 1 rfl) ?_
          refine kail (v := (vs (Int32.toNatClampNeg p1))) S hE hP 11 rfl h.1 rfl rfl dX6_set_52 ?_
          have h := h.2
          refine lv_istore_n (lv' := [(3, .int (vs (Int32.toNatClampNeg p1))), (0, .ref (g 0)), (1, .int p1), (2, .int p2)]) hx hb dX6_set_53 rfl hl (by decide) rfl (fun ls hl => ?_)
          refine lv_aload_n hx hb dX6_set_54 rfl (lv_at hl 1 rfl) ?_
          refine kg (v := .ref (a 0)) S hE hP 0 rfl rfl 0 (by decide) q_1_12 rfl rfl inlX6 dX6_set_55 ?_
          refine kg (v := .ref (a 1)) S hE hP 10 rfl rfl 10 (by decide) q_6_5 rfl rfl inlX4 dX6_set_58 ?_
          refine lv_iload_n hx hb dX6_set_61 rfl (lv_at hl 2 rfl) ?_
          refine lv_iload_n hx hb dX6_set_62 rfl (lv_at hl 3 rfl) ?_
          refine kais S hE hP hD hS 11 rfl h.1 rfl dX6_set_63 (fun H locs hP hD hS => ?_)
          have h := h.2
          have hP : va_P G vwCl (mo_W cy g a b t vn vf (upd vs (Int32.toNatClampNeg p1) p2) vp vq vd vo un uf us up uq ud uo tm tx (hck hc) (hhk hc hh (vn, vf, vs, vp, vq, vd, vo)) ss sv) H := hP
          have hD : va_D A (mo_W cy g a b t vn vf (upd vs (Int32.toNatClampNeg p1) p2) vp vq vd vo un uf us up uq ud uo tm tx (hck hc) (hhk hc hh (vn, vf, vs, vp, vq, vd, vo)) ss sv) := hD
          refine lv_iload_n hx hb dX6_set_64 rfl (lv_at hl 0 rfl) ?_
          exact W.iret (v := (vs (Int32.toNatClampNeg p1))) hx hb hr (fun t ht hW => ⟨⟨(vs (Int32.toNatClampNeg p1)), ((upd vs (Int32.toNatClampNeg p1) p2), (hck hc), (hhk hc hh (vn, vf, vs, vp, vq, vd, vo))), rfl, h, ⟨hp_at ht hP, hD⟩⟩, hS.F ht⟩) hS.2.2 dX6_set_65
        · have h := h.2 c_27
          refine lv_bipush (v := (-2 : Int32)) hx hb dX6_set_30 (by decide) ?_
          exact W.iret (v := (-2 : Int32)) hx hb hr (fun t ht hW => ⟨⟨(-2 : Int32), (vs, hc, hh), rfl, h, ⟨hp_at ht hP, hD⟩⟩, hS.F ht⟩) hS.2.2 dX6_set_32
    · have h := h.2 c_7
      refine lv_iconst (v := (-1 : Int32)) hx hb dX6_set_10 (by decide) ?_
      exact W.iret (v := (-1 : Int32)) hx hb hr (fun t ht hW => ⟨⟨(-1 : Int32), (vs, hc, hh), rfl, h, ⟨hp_at ht hP, hD⟩⟩, hS.F ht⟩) hS.2.2 dX6_set_11
