def vX6_place (vn : Nat → Int32) (vf : Nat → UInt32) (vs : Nat → Int32) (vp : Nat → Int32) (vq : Nat → Int32) (vd : Nat → Int32) (vo : Nat → Int32) (hc : Nat → Int32) (hh : Nat → Sx) (p1 : Int32) (p2 : Int32) (p3 : Int32) (p4 : Int32) (K : Int32 → ((Nat → Int32) × (Nat → UInt32) × (Nat → Int32) × (Nat → Sx)) → Prop) : Prop :=
  (p1 < (1 : Int32) → K (-2 : Int32) (vn, vf, hc, hh)) ∧ (¬ p1 < (1 : Int32) → ((100000 : Int32) < p1 → K (-2 : Int32) (vn, vf, hc, hh)) ∧ (¬ (100000 : Int32) < p1 → vX6_isBeyond p2 (100000 : Int32) (fun r_14 u_14 => (¬ r_14 = (0 : Int32) → K (-2 : Int32) (vn, vf, hc, hh)) ∧ (r_14 = (0 : Int32) → vX6_isBeyond p3 (5000 : Int32) (fun r_24 u_24 => (¬ r_24 = (0 : Int32) → K (-2 : Int32) (vn, vf, hc, hh)) ∧ (r_24 = (0 : Int32) → vX6_isBeyond p4 (5000 : Int32) (fun r_35 u_35 => (r_35 = (0 : Int32) → kpre vn vo hc ∧ vf_n32 (FP.fdiv (FP.i2f p1) (1120403456 : UInt32)) ∧ vf_n32 (FP.fdiv (FP.i2f p2) (1120403456 : UInt32)) ∧ vf_n32 (FP.fdiv (FP.i2f p3) (1148846080 : UInt32)) ∧ vf_n32 (FP.fdiv (FP.i2f p4) (1148846080 : UInt32)) ∧ vX4_putShip vn vf (FP.fdiv (FP.i2f p1) (1120403456 : UInt32)) (FP.fdiv (FP.i2f p2) (1120403456 : UInt32)) (FP.fdiv (FP.i2f p3) (1148846080 : UInt32)) (FP.fdiv (FP.i2f p4) (1148846080 : UInt32)) (fun u_80 => vX4_judge u_80.1 u_80.2 vs vp vq (fun r_87 u_87 => K r_87 (u_80.1, u_80.2, (hck hc), (hhk hc hh (vn, vf, vs, vp, vq, vd, vo)))))) ∧ (¬ r_35 = (0 : Int32) → K (-2 : Int32) (vn, vf, hc, hh)))))))))
set_option maxRecDepth 100000 in
set_option maxHeartbeats 4000000 in
theorem ctX6_place (l : Launch) (G : va_G) (cy : Nat → ClassId) (g : Nat → Nat) (a : Nat → Nat) (b : Nat → Nat) (t : Nat → Nat) (vn : Nat → Int32) (vf : Nat → UInt32) (vs : Nat → Int32) (vp : Nat → Int32) (vq : Nat → Int32) (vd : Nat → Int32) (vo : Nat → Int32) (un : Nat → Int32) (uf : Nat → UInt32) (us : Nat → Int32) (up : Nat → Int32) (uq : Nat → Int32) (ud : Nat → Int32) (uo : Nat → Int32) (tm : Nat → Int32) (tx : Nat → Int32) (hc : Nat → Int32) (hh : Nat → Sx) (ss : Nat → Sx) (sv : Nat → Int32) (p1 : Int32) (p2 : Int32) (p3 : Int32) (p4 : Int32) (K : Int32 → ((Nat → Int32) × (Nat → UInt32) × (Nat → Int32) × (Nat → Sx)) → Prop) (h : vX6_place vn vf vs vp vq vd vo hc hh p1 p2 p3 p4 K) : Met l yX6_place (ws_ yX6_place cX6_place 5 (some .int)) ({ frames := 5, cells := 0, slots := 0, locals := 124 } : Room) (CP G cy [.ref (g 0), .int p1, .int p2, .int p3, .int p4] (mo_W cy g a b t vn vf vs vp vq vd vo un uf us up uq ud uo tm tx hc hh ss sv)) (RI G K (fun u => mo_W cy g a b t u.1 u.2.1 vs vp vq vd vo un uf us up uq ud uo tm tx u.2.2.1 u.2.2.2 ss sv) (A1 (mo_W cy g a b t vn vf vs vp vq vd vo un uf us up uq ud uo tm tx hc hh ss sv))) 0 0 (A1 (mo_W cy g a b t vn vf vs vp vq vd vo un uf us up uq ud uo tm tx hc hh ss sv)) := by
  refine hd_go (Qf := fun A => (RI G K (fun u => mo_W cy g a b t u.1 u.2.1 vs vp vq vd vo un uf us up uq ud uo tm tx u.2.2.1 u.2.2.2 ss sv) A)) (by decide +kernel) (Nat.le_of_ble_eq_true rfl) ?_
  intro p e s m below meth c ls A hx hb hr hlocks S hE hP hD hS hl
  have hl : lv_has ls 5 [(0, .ref (g 0)), (1, .int p1), (2, .int p2), (3, .int p3), (4, .int p4)] := hl
  unfold vX6_place at h
  refine lv_iload_n hx hb dX6_place_0 rfl (lv_at hl 1 rfl) ?_
  refine lv_iconst (v := (1 : Int32)) hx hb dX6_place_1 (by decide) ?_
  refine lv_icmp_lt (tgt := 41) hx hb dX6_place_2 (by decide) (fun c_2 => ?_) (fun c_2 => ?_)
  · have h := h.1 c_2
    refine lv_bipush (v := (-2 : Int32)) hx hb dX6_place_41 (by decide) ?_
    exact W.iret (v := (-2 : Int32)) hx hb hr (fun t ht hW => ⟨⟨(-2 : Int32), (vn, vf, hc, hh), rfl, h, ⟨hp_at ht hP, hD⟩⟩, hS.F ht⟩) hS.2.2 dX6_place_43
  · have h := h.2 c_2
    refine lv_iload_n hx hb dX6_place_5 rfl (lv_at hl 1 rfl) ?_
    refine lv_ldc hx hb S.2.2.2.1 (S.2.2.2.2 _ q_10_5) dX6_place_6 ?_
    refine lv_icmp_gt (tgt := 41) hx hb dX6_place_8 (by decide) (fun c_8 => ?_) (fun c_8 => ?_)
    · have h := h.1 c_8
      refine lv_bipush (v := (-2 : Int32)) hx hb dX6_place_41 (by decide) ?_
      exact W.iret (v := (-2 : Int32)) hx hb hr (fun t ht hW => ⟨⟨(-2 : Int32), (vn, vf, hc, hh), rfl, h, ⟨hp_at ht hP, hD⟩⟩, hS.F ht⟩) hS.2.2 dX6_place_43
    · have h := h.2 c_8
      refine lv_iload_n hx hb dX6_place_11 rfl (lv_at hl 2 rfl) ?_
      refine lv_ldc hx hb S.2.2.2.1 (S.2.2.2.2 _ q_10_5) dX6_place_12 ?_
      refine kc_SiE (As := [.int p2, .int (100000 : Int32)]) (rest := []) S hE (ctX6_isBeyond l G cy   p2 (100000 : Int32) _ h) q_10_8 q_10_9 q_1_2 q_10_10 ydX6_isBeyond ⟨⟨rfl, rfl⟩, ⟨Nat.le_of_ble_eq_true rfl, Nat.le_of_ble_eq_true rfl⟩⟩ ⟨Nat.zero_le _, Nat.zero_le _⟩ hP hD hS (fun _ => rfl) rfl hl.1 rfl (Nat.le_of_ble_eq_true rfl) dX6_place_14 (fun r_14 u_14 H locs h hP hD hS => ?_)
      refine lv_if_ne (tgt := 41) hx hb dX6_place_17 (by decide) (fun c_17 => ?_) (fun c_17 => ?_)
      · have h := h.1 c_17
        refine lv_bipush (v := (-2 : Int32)) hx hb dX6_place_41 (by decide) ?_
        exact W.iret (v := (-2 : Int32)) hx hb hr (fun t ht hW => ⟨⟨(-2 : Int32), (vn, vf, hc, hh), rfl, h, ⟨hp_at ht hP, hD⟩⟩, hS.F ht⟩) hS.2.2 dX6_place_43
      · have h := h.2 c_17
        refine lv_iload_n hx hb dX6_place_20 rfl (lv_at hl 3 rfl) ?_
        refine lv_sipush (v := (5000 : Int32)) hx hb dX6_place_21 (by decide) ?_
        refine kc_SiE (As := [.int p3, .int (5000 : Int32)]) (rest := []) S hE (ctX6_isBeyond l G cy   p3 (5000 : Int32) _ h) q_10_8 q_10_9 q_1_2 q_10_10 ydX6_isBeyond ⟨⟨rfl, rfl⟩, ⟨Nat.le_of_ble_eq_true rfl, Nat.le_of_ble_eq_true rfl⟩⟩ ⟨Nat.zero_le _, Nat.zero_le _⟩ hP hD hS (fun _ => rfl) rfl hl.1 rfl (Nat.le_of_ble_eq_true rfl) dX6_place_24 (fun r_24 u_24 H locs h hP hD hS => ?_)
        refine lv_if_ne (tgt := 41) hx hb dX6_place_27 (by decide) (fun c_27 => ?_) (fun c_27 => ?_)
        · have h := h.1 c_27
          refine lv_bipush (v := (-2 : Int32)) hx hb dX6_place_41 (by decide) ?_
          exact W.iret (v := (-2 : Int32)) hx hb hr (fun t ht hW => ⟨⟨(-2 : Int32), (vn, vf, hc, hh), rfl, h, ⟨hp_at ht hP, hD⟩⟩, hS.F ht⟩) hS.2.2 dX6_place_43
        · have h := h.2 c_27
          refine lv_iload hx hb dX6_place_30 (lv_at hl 4 rfl) ?_
          refine lv_sipush (v := (5000 : Int32)) hx hb dX6_place_32 (by decide) ?_
          refine kc_SiE (As := [.int p4, .int (5000 : Int32)]) (rest := []) S hE (ctX6_isBeyond l G cy   p4 (5000 : Int32) _ h) q_10_8 q_10_9 q_1_2 q_10_10 ydX6_isBeyond ⟨⟨rfl, rfl⟩, ⟨Nat.le_of_ble_eq_true rfl, Nat.le_of_ble_eq_true rfl⟩⟩ ⟨Nat.zero_le _, Nat.zero_le _⟩ hP hD hS (fun _ => rfl) rfl hl.1 rfl (Nat.le_of_ble_eq_true rfl) dX6_place_35 (fun r_35 u_35 H locs h hP hD hS => ?_)
          refine lv_if_eq (tgt := 44) hx hb dX6_place_38 (by decide) (fun c_38 => ?_) (fun c_38 => ?_)
          · have h := h.1 c_38
            refine lv_aload_n hx hb dX6_place_44 rfl (lv_at hl 0 rfl) ?_
            refine kg (v := .ref (g 1)) S hE hP 0 rfl rfl 2 (by decide) q_1_17 rfl rfl inlX6 dX6_place_45 ?_
            refine lv_aload_n hx hb dX6_place_48 rfl (lv_at hl 0 rfl) ?_
            refine kg (v := .ref (a 0)) S hE hP 0 rfl rfl 0 (by decide) q_1_12 rfl rfl inlX6 dX6_place_49 ?_
            refine kc_Vv0 (As := [.ref (a 0)]) (rest := []) S hE (ctX1_keep l G cy g a b t vn vf vs vp vq vd vo un uf us up uq ud uo tm tx hc hh ss sv h.1) q_10_11 q_10_12 q_10_13 q_1_16 q_10_14 rfl 21 rfl rfl ydX1_keep ⟨⟨rfl, rfl⟩, ⟨Nat.le_of_ble_eq_true rfl, Nat.le_of_ble_eq_true rfl⟩⟩ ⟨Nat.zero_le _, Nat.zero_le _⟩ hP hD hS rfl hl.1 rfl (Nat.le_of_ble_eq_true rfl) dX6_place_52 (fun u_52 H locs _ hP hD hS => ?_)
            have h := h.2
            have hP : va_P G vwCl (mo_W cy g a b t vn vf vs vp vq vd vo un uf us up uq ud uo tm tx (hck hc) (hhk hc hh (vn, vf, vs, vp, vq, vd, vo)) ss sv) H := hP
            have hD : va_D A (mo_W cy g a b t vn vf vs vp vq vd vo un uf us up uq ud uo tm tx (hck hc) (hhk hc hh (vn, vf, vs, vp, vq, vd, vo)) ss sv) := hD
            refine lv_aload_n hx hb dX6_place_55 rfl (lv_at hl 0 rfl) ?_
            refine kg (v := .ref (a 0)) S hE hP 0 rfl rfl 0 (by decide) q_1_12 rfl rfl inlX6 dX6_place_56 ?_
            refine lv_iload_n hx hb dX6_place_59 rfl (lv_at hl 1 rfl) ?_
            refine lv_i2f hx hb dX6_place_60 ?_
            refine lv_ldcf hx hb S.2.2.2.1 (S.2.2.2.2 _ q_10_6) dX6_place_61 ?_
            refine lv_fdiv hx hb dX6_place_63 h.1 ?_
            have h := h.2
            refine lv_iload_n hx hb dX6_place_64 rfl (lv_at hl 2 rfl) ?_
            refine lv_i2f hx hb dX6_place_65 ?_
            refine lv_ldcf hx hb S.2.2.2.1 (S.2.2.2.2 _ q_10_6) dX6_place_66 ?_
            refine lv_fdiv hx hb dX6_place_68 h.1 ?_
            have h := h.2
            refine lv_iload_n hx hb dX6_place_69 rfl (lv_at hl 3 rfl) ?_
            refine lv_i2f hx hb dX6_place_70 ?_
            refine lv_ldcf hx hb S.2.2.2.1 (S.2.2.2.2 _ q_10_7) dX6_place_71 ?_
            refine lv_fdiv hx hb dX6_place_73 h.1 ?_
            have h := h.2
            refine lv_iload hx hb dX6_place_74 (lv_at hl 4 rfl) ?_
            refine lv_i2f hx hb dX6_place_76 ?_
            refine lv_ldcf hx hb S.2.2.2.1 (S.2.2.2.2 _ q_10_7) dX6_place_77 ?_
            refine lv_fdiv hx hb dX6_place_79 h.1 ?_
            have h := h.2
            refine kc_Vv (L := (((g 0, .inr (6, [.ref (a 0), .ref (b 0), .ref (g 1), .ref (g 3), .ref (g 4), .ref (t 0)])) : Nat × va_E) :: st_W cy b un uf us up uq ud uo)) (w0 := st_W cy a vn vf vs vp vq vd vo) (R' := (tx_W cy t tm tx ++ (hr_W cy g (hck hc) (fun j => some (((hhk hc hh (vn, vf, vs, vp, vq, vd, vo)) j).1 0)) (hhk hc hh (vn, vf, vs, vp, vq, vd, vo)) ++ tl_W cy g ss sv))) (As := [.float (FP.fdiv (FP.i2f p1) (1120403456 : UInt32)), .float (FP.fdiv (FP.i2f p2) (1120403456 : UInt32)), .float (FP.fdiv (FP.i2f p3) (1148846080 : UInt32)), .float (FP.fdiv (FP.i2f p4) (1148846080 : UInt32))]) (rest := []) S hE (ctX4_putShip l G cy a vn vf vs vp vq vd vo (FP.fdiv (FP.i2f p1) (1120403456 : UInt32)) (FP.fdiv (FP.i2f p2) (1120403456 : UInt32)) (FP.fdiv (FP.i2f p3) (1148846080 : UInt32)) (FP.fdiv (FP.i2f p4) (1148846080 : UInt32)) _ h) q_11_20 q_11_21 q_11_22 q_1_11 q_11_23 rfl 0 rfl rfl ydX4_putShip ⟨⟨rfl, rfl⟩, ⟨Nat.le_of_ble_eq_true rfl, Nat.le_of_ble_eq_true rfl⟩⟩ ⟨Nat.zero_le _, Nat.zero_le _⟩ hP hD hS rfl hl.1 rfl (Nat.le_of_ble_eq_true rfl) dX6_place_80 (fun u_80 H locs h hP hD hS => ?_)
            have hP : va_P G vwCl (mo_W cy g a b t u_80.1 u_80.2 vs vp vq vd vo un uf us up uq ud uo tm tx (hck hc) (hhk hc hh (vn, vf, vs, vp, vq, vd, vo)) ss sv) H := hP
            have hD : va_D A (mo_W cy g a b t u_80.1 u_80.2 vs vp vq vd vo un uf us up uq ud uo tm tx (hck hc) (hhk hc hh (vn, vf, vs, vp, vq, vd, vo)) ss sv) := hD
            refine lv_aload_n hx hb dX6_place_83 rfl (lv_at hl 0 rfl) ?_
            refine kg (v := .ref (a 0)) S hE hP 0 rfl rfl 0 (by decide) q_1_12 rfl rfl inlX6 dX6_place_84 ?_
            refine kc_Vi (L := (((g 0, .inr (6, [.ref (a 0), .ref (b 0), .ref (g 1), .ref (g 3), .ref (g 4), .ref (t 0)])) : Nat × va_E) :: st_W cy b un uf us up uq ud uo)) (w0 := st_W cy a u_80.1 u_80.2 vs vp vq vd vo) (R' := (tx_W cy t tm tx ++ (hr_W cy g (hck hc) (fun j => some (((hhk hc hh (vn, vf, vs, vp, vq, vd, vo)) j).1 0)) (hhk hc hh (vn, vf, vs, vp, vq, vd, vo)) ++ tl_W cy g ss sv))) (As := []) (rest := []) S hE (ctX4_judge l G cy a u_80.1 u_80.2 vs vp vq vd vo  _ h) q_9_0 q_9_1 q_9_2 q_1_11 q_9_3 rfl 0 rfl rfl ydX4_judge ⟨⟨rfl, rfl⟩, ⟨Nat.le_of_ble_eq_true rfl, Nat.le_of_ble_eq_true rfl⟩⟩ ⟨Nat.zero_le _, Nat.zero_le _⟩ hP hD hS rfl hl.1 rfl (Nat.le_of_ble_eq_true rfl) dX6_place_87 (fun r_87 u_87 H locs h hP hD hS => ?_)
            have hP : va_P G vwCl (mo_W cy g a b t u_80.1 u_80.2 vs vp vq vd vo un uf us up uq ud uo tm tx (hck hc) (hhk hc hh (vn, vf, vs, vp, vq, vd, vo)) ss sv) H := hP
            have hD : va_D A (mo_W cy g a b t u_80.1 u_80.2 vs vp vq vd vo un uf us up uq ud uo tm tx (hck hc) (hhk hc hh (vn, vf, vs, vp, vq, vd, vo)) ss sv) := hD
            exact W.iret (v := r_87) hx hb hr (fun t ht hW => ⟨⟨r_87, (u_80.1, u_80.2, (hck hc), (hhk hc hh (vn, vf, vs, vp, vq, vd, vo))), rfl, h, ⟨hp_at ht hP, hD⟩⟩, hS.F ht⟩) hS.2.2 dX6_place_90
          · have h := h.2 c_38
            refine lv_bipush (v := (-2 : Int32)) hx hb dX6_place_41 (by decide) ?_
            exact W.iret (v := (-2 : Int32)) hx hb hr (fun t ht hW => ⟨⟨(-2 : Int32), (vn, vf, hc, hh), rfl, h, ⟨hp_at ht hP, hD⟩⟩, hS.F ht⟩) hS.2.2 dX6_place_43
def vX6_setPoint (vn : Nat → Int32) (vf : Nat → UInt32) (vs : Nat → Int32) (vp : Nat → Int32) (vq : Nat → Int32) (vd : Nat → Int32) (vo : Nat → Int32) (hc : Nat → Int32) (hh : Nat → Sx) (p1 : Int32) (p2 : Int32) (K : Int32 → ((Nat → Int32) × (Nat → Int32) × (Nat → Int32) × (Nat → Int32) × (Nat → Sx)) → Prop) : Prop :=
  (p1 < (0 : Int32) → K (-2 : Int32) (vn, vp, vq, hc, hh)) ∧ (¬ p1 < (0 : Int32) → ((100000 : Int32) < p1 → K (-2 : Int32) (vn, vp, vq, hc, hh)) ∧ (¬ (100000 : Int32) < p1 → (p2 < (1 : Int32) → K (-2 : Int32) (vn, vp, vq, hc, hh)) ∧ (¬ p2 < (1 : Int32) → (p2 ≤ (5000 : Int32) → vX2_hasRoomFor vn vp p1 (fun r_33 u_33 => (¬ r_33 = (0 : Int32) → kpre vn vo hc ∧ vX2_put vn vp vq p1 p2 (fun u_62 => K (u_62.1 10) (u_62.1, u_62.2.1, u_62.2.2, (hck hc), (hhk hc hh (vn, vf, vs, vp, vq, vd, vo))))) ∧ (r_33 = (0 : Int32) → K (-4 : Int32) (vn, vp, vq, hc, hh)))) ∧ (¬ p2 ≤ (5000 : Int32) → K (-2 : Int32) (vn, vp, vq, hc, hh)))))
set_option maxRecDepth 100000 in
set_option maxHeartbeats 4000000 in
theorem ctX6_setPoint (l : Launch) (G : va_G) (cy : Nat → ClassId) (g : Nat → Nat) (a : Nat → Nat) (b : Nat → Nat) (t : Nat → Nat) (vn : Nat → Int32) (vf : Nat → UInt32) (vs : Nat → Int32) (vp : Nat → Int32) (vq : Nat → Int32) (vd : Nat → Int32) (vo : Nat → Int32) (un : Nat → Int32) (uf : Nat → UInt32) (us : Nat → Int32) (up : Nat → Int32) (uq : Nat → Int32) (ud : Nat → Int32) (uo : Nat → Int32) (tm : Nat → Int32) (tx : Nat → Int32) (hc : Nat → Int32) (hh : Nat → Sx) (ss : Nat → Sx) (sv : Nat → Int32) (p1 : Int32) (p2 : Int32) (K : Int32 → ((Nat → Int32) × (Nat → Int32) × (Nat → Int32) × (Nat → Int32) × (Nat → Sx)) → Prop) (h : vX6_setPoint vn vf vs vp vq vd vo hc hh p1 p2 K) : Met l yX6_setPoint (ws_ yX6_setPoint cX6_setPoint 3 (some .int)) ({ frames := 5, cells := 0, slots := 0, locals := 124 } : Room) (CP G cy [.ref (g 0), .int p1, .int p2] (mo_W cy g a b t vn vf vs vp vq vd vo un uf us up uq ud uo tm tx hc hh ss sv)) (RI G K (fun u => mo_W cy g a b t u.1 vf vs u.2.1 u.2.2.1 vd vo un uf us up uq ud uo tm tx u.2.2.2.1 u.2.2.2.2 ss sv) (A1 (mo_W cy g a b t vn vf vs vp vq vd vo un uf us up uq ud uo tm tx hc hh ss sv))) 0 0 (A1 (mo_W cy g a b t vn vf vs vp vq vd vo un uf us up uq ud uo tm tx hc hh ss sv)) := by
  refine hd_go (Qf := fun A => (RI G K (fun u => mo_W cy g a b t u.1 vf vs u.2.1 u.2.2.1 vd vo un uf us up uq ud uo tm tx u.2.2.2.1 u.2.2.2.2 ss sv) A)) (by decide +kernel) (Nat.le_of_ble_eq_true rfl) ?_
  intro p e s m below meth c ls A hx hb hr hlocks S hE hP hD hS hl
  have hl : lv_has ls 3 [(0, .ref (g 0)), (1, .int p1), (2, .int p2)] := hl
  unfold vX6_setPoint at h
  refine lv_iload_n hx hb dX6_setPoint_0 rfl (lv_at hl 1 rfl) ?_
  refine lv_if_lt (tgt := 22) hx hb dX6_setPoint_1 (by decide) (fun c_1 => ?_) (fun c_1 => ?_)
  · have h := h.1 c_1
    refine lv_bipush (v := (-2 : Int32)) hx hb dX6_setPoint_22 (by decide) ?_
    exact W.iret (v := (-2 : Int32)) hx hb hr (fun t ht hW => ⟨⟨(-2 : Int32), (vn, vp, vq, hc, hh), rfl, h, ⟨hp_at ht hP, hD⟩⟩, hS.F ht⟩) hS.2.2 dX6_setPoint_24
  · have h := h.2 c_1
    refine lv_iload_n hx hb dX6_setPoint_4 rfl (lv_at hl 1 rfl) ?_
    refine lv_ldc hx hb S.2.2.2.1 (S.2.2.2.2 _ q_10_5) dX6_setPoint_5 ?_
    refine lv_icmp_gt (tgt := 22) hx hb dX6_setPoint_7 (by decide) (fun c_7 => ?_) (fun c_7 => ?_)
    · have h := h.1 c_7
      refine lv_bipush (v := (-2 : Int32)) hx hb dX6_setPoint_22 (by decide) ?_
      exact W.iret (v := (-2 : Int32)) hx hb hr (fun t ht hW => ⟨⟨(-2 : Int32), (vn, vp, vq, hc, hh), rfl, h, ⟨hp_at ht hP, hD⟩⟩, hS.F ht⟩) hS.2.2 dX6_setPoint_24
    · have h := h.2 c_7
      refine lv_iload_n hx hb dX6_setPoint_10 rfl (lv_at hl 2 rfl) ?_
      refine lv_iconst (v := (1 : Int32)) hx hb dX6_setPoint_11 (by decide) ?_
      refine lv_icmp_lt (tgt := 22) hx hb dX6_setPoint_12 (by decide) (fun c_12 => ?_) (fun c_12 => ?_)
      · have h := h.1 c_12
        refine lv_bipush (v := (-2 : Int32)) hx hb dX6_setPoint_22 (by decide) ?_
        exact W.iret (v := (-2 : Int32)) hx hb hr (fun t ht hW => ⟨⟨(-2 : Int32), (vn, vp, vq, hc, hh), rfl, h, ⟨hp_at ht hP, hD⟩⟩, hS.F ht⟩) hS.2.2 dX6_setPoint_24
      · have h := h.2 c_12
        refine lv_iload_n hx hb dX6_setPoint_15 rfl (lv_at hl 2 rfl) ?_
        refine lv_sipush (v := (5000 : Int32)) hx hb dX6_setPoint_16 (by decide) ?_
        refine lv_icmp_le (tgt := 25) hx hb dX6_setPoint_19 (by decide) (fun c_19 => ?_) (fun c_19 => ?_)
        · have h := h.1 c_19
          refine lv_aload_n hx hb dX6_setPoint_25 rfl (lv_at hl 0 rfl) ?_
          refine kg (v := .ref (a 0)) S hE hP 0 rfl rfl 0 (by decide) q_1_12 rfl rfl inlX6 dX6_setPoint_26 ?_
          refine kg (v := .ref (a 2)) S hE hP 10 rfl rfl 11 (by decide) q_5_4 rfl rfl inlX4 dX6_setPoint_29 ?_
          refine lv_iload_n hx hb dX6_setPoint_32 rfl (lv_at hl 1 rfl) ?_
          refine kc_Vi (L := (((g 0, .inr (6, [.ref (a 0), .ref (b 0), .ref (g 1), .ref (g 3), .ref (g 4), .ref (t 0)])) : Nat × va_E) :: st_W cy b un uf us up uq ud uo)) (w0 := st_W cy a vn vf vs vp vq vd vo) (R' := (tx_W cy t tm tx ++ (hr_W cy g hc (fun j => some ((hh j).1 0)) hh ++ tl_W cy g ss sv))) (As := [.int p1]) (rest := []) S hE (ctX2_hasRoomFor l G cy a vn vf vs vp vq vd vo p1 _ h) q_12_18 q_12_19 q_12_20 q_2_16 q_12_21 rfl 2 rfl rfl ydX2_hasRoomFor ⟨⟨rfl, rfl⟩, ⟨Nat.le_of_ble_eq_true rfl, Nat.le_of_ble_eq_true rfl⟩⟩ ⟨Nat.zero_le _, Nat.zero_le _⟩ hP hD hS rfl hl.1 rfl (Nat.le_of_ble_eq_true rfl) dX6_setPoint_33 (fun r_33 u_33 H locs h hP hD hS => ?_)
          have hP : va_P G vwCl (mo_W cy g a b t vn vf vs vp vq vd vo un uf us up uq ud uo tm tx hc hh ss sv) H := hP
          have hD : va_D A (mo_W cy g a b t vn vf vs vp vq vd vo un uf us up uq ud uo tm tx hc hh ss sv) := hD
          refine lv_if_ne (tgt := 42) hx hb dX6_setPoint_36 (by decide) (fun c_36 => ?_) (fun c_36 => ?_)
          · have h := h.1 c_36
            refine lv_aload_n hx hb dX6_setPoint_42 rfl (lv_at hl 0 rfl) ?_
            refine kg (v := .ref (g 1)) S hE hP 0 rfl rfl 2 (by decide) q_1_17 rfl rfl inlX6 dX6_setPoint_43 ?_
            refine lv_aload_n hx hb dX6_setPoint_46 rfl (lv_at hl 0 rfl) ?_
            refine kg (v := .ref (a 0)) S hE hP 0 rfl rfl 0 (by decide) q_1_12 rfl rfl inlX6 dX6_setPoint_47 ?_
            refine kc_Vv0 (As := [.ref (a 0)]) (rest := []) S hE (ctX1_keep l G cy g a b t vn vf vs vp vq vd vo un uf us up uq ud uo tm tx hc hh ss sv h.1) q_10_11 q_10_12 q_10_13 q_1_16 q_10_14 rfl 21 rfl rfl ydX1_keep ⟨⟨rfl, rfl⟩, ⟨Nat.le_of_ble_eq_true rfl, Nat.le_of_ble_eq_true rfl⟩⟩ ⟨Nat.zero_le _, Nat.zero_le _⟩ hP hD hS rfl hl.1 rfl (Nat.le_of_ble_eq_true rfl) dX6_setPoint_50 (fun u_50 H locs _ hP hD hS => ?_)
            have h := h.2
            have hP : va_P G vwCl (mo_W cy g a b t vn vf vs vp vq vd vo un uf us up uq ud uo tm tx (hck hc) (hhk hc hh (vn, vf, vs, vp, vq, vd, vo)) ss sv) H := hP
            have hD : va_D A (mo_W cy g a b t vn vf vs vp vq vd vo un uf us up uq ud uo tm tx (hck hc) (hhk hc hh (vn, vf, vs, vp, vq, vd, vo)) ss sv) := hD
            refine lv_aload_n hx hb dX6_setPoint_53 rfl (lv_at hl 0 rfl) ?_
            refine kg (v := .ref (a 0)) S hE hP 0 rfl rfl 0 (by decide) q_1_12 rfl rfl inlX6 dX6_setPoint_54 ?_
            refine kg (v := .ref (a 2)) S hE hP 10 rfl rfl 11 (by decide) q_5_4 rfl rfl inlX4 dX6_setPoint_57 ?_
            refine lv_iload_n hx hb dX6_setPoint_60 rfl (lv_at hl 1 rfl) ?_
            refine lv_iload_n hx hb dX6_setPoint_61 rfl (lv_at hl 2 rfl) ?_
            refine kc_Vv (L := (((g 0, .inr (6, [.ref (a 0), .ref (b 0), .ref (g 1), .ref (g 3), .ref (g 4), .ref (t 0)])) : Nat × va_E) :: st_W cy b un uf us up uq ud uo)) (w0 := st_W cy a vn vf vs vp vq vd vo) (R' := (tx_W cy t tm tx ++ (hr_W cy g (hck hc) (fun j => some (((hhk hc hh (vn, vf, vs, vp, vq, vd, vo)) j).1 0)) (hhk hc hh (vn, vf, vs, vp, vq, vd, vo)) ++ tl_W cy g ss sv))) (As := [.int p1, .int p2]) (rest := []) S hE (ctX2_put l G cy a vn vf vs vp vq vd vo p1 p2 _ h) q_13_2 q_13_3 q_13_4 q_2_16 q_13_5 rfl 2 rfl rfl ydX2_put ⟨⟨rfl, rfl⟩, ⟨Nat.le_of_ble_eq_true rfl, Nat.le_of_ble_eq_true rfl⟩⟩ ⟨Nat.zero_le _, Nat.zero_le _⟩ hP hD hS rfl hl.1 rfl (Nat.le_of_ble_eq_true rfl) dX6_setPoint_62 (fun u_62 H locs h hP hD hS => ?_)
            have hP : va_P G vwCl (mo_W cy g a b t u_62.1 vf vs u_62.2.1 u_62.2.2 vd vo un uf us up uq ud uo tm tx (hck hc) (hhk hc hh (vn, vf, vs, vp, vq, vd, vo)) ss sv) H := hP
            have hD : va_D A (mo_W cy g a b t u_62.1 vf vs u_62.2.1 u_62.2.2 vd vo un uf us up uq ud uo tm tx (hck hc) (hhk hc hh (vn, vf, vs, vp, vq, vd, vo)) ss sv) := hD
            refine lv_aload_n hx hb dX6_setPoint_65 rfl (lv_at hl 0 rfl) ?_
            refine kg (v := .ref (a 0)) S hE hP 0 rfl rfl 0 (by decide) q_1_12 rfl rfl inlX6 dX6_setPoint_66 ?_
            refine kg (v := .ref (a 2)) S hE hP 10 rfl rfl 11 (by decide) q_5_4 rfl rfl inlX4 dX6_setPoint_69 ?_
            refine kg (v := .int (u_62.1 10)) S hE hP 12 rfl rfl 0 (by decide) q_5_5 rfl rfl inlX2 dX6_setPoint_72 ?_
            exact W.iret (v := (u_62.1 10)) hx hb hr (fun t ht hW => ⟨⟨(u_62.1 10), (u_62.1, u_62.2.1, u_62.2.2, (hck hc), (hhk hc hh (vn, vf, vs, vp, vq, vd, vo))), rfl, h, ⟨hp_at ht hP, hD⟩⟩, hS.F ht⟩) hS.2.2 dX6_setPoint_75
          · have h := h.2 c_36
            refine lv_bipush (v := (-4 : Int32)) hx hb dX6_setPoint_39 (by decide) ?_
            exact W.iret (v := (-4 : Int32)) hx hb hr (fun t ht hW => ⟨⟨(-4 : Int32), (vn, vp, vq, hc, hh), rfl, h, ⟨hp_at ht hP, hD⟩⟩, hS.F ht⟩) hS.2.2 dX6_setPoint_41
        · have h := h.2 c_19
          refine lv_bipush (v := (-2 : Int32)) hx hb dX6_setPoint_22 (by decide) ?_
          exact W.iret (v := (-2 : Int32)) hx hb hr (fun t ht hW => ⟨⟨(-2 : Int32), (vn, vp, vq, hc, hh), rfl, h, ⟨hp_at ht hP, hD⟩⟩, hS.F ht⟩) hS.2.2 dX6_setPoint_24
def vX6_addStop (vn : Nat → Int32) (vf : Nat → UInt32) (vs : Nat → Int32) (vp : Nat → Int32) (vq : Nat → Int32) (vd : Nat → Int32) (vo : Nat → Int32) (hc : Nat → Int32) (hh : Nat → Sx) (p1 : Int32) (K : Int32 → ((Nat → Int32) × (Nat → Int32) × (Nat → Int32) × (Nat → Int32) × (Nat → Sx)) → Prop) : Prop :=
  (p1 < (1 : Int32) → K (-2 : Int32) (vn, vd, vo, hc, hh)) ∧ (¬ p1 < (1 : Int32) → (p1 ≤ (100000 : Int32) → ((vn 11) < (4 : Int32) → kpre vn vo hc ∧ vX5_addClosed vn vd vo p1 (fun r_50 u_50 => K r_50 (u_50.1, u_50.2.1, u_50.2.2, (hck hc), (hhk hc hh (vn, vf, vs, vp, vq, vd, vo))))) ∧ (¬ (vn 11) < (4 : Int32) → K (-4 : Int32) (vn, vd, vo, hc, hh))) ∧ (¬ p1 ≤ (100000 : Int32) → K (-2 : Int32) (vn, vd, vo, hc, hh)))
set_option maxRecDepth 100000 in
set_option maxHeartbeats 4000000 in
theorem ctX6_addStop (l : Launch) (G : va_G) (cy : Nat → ClassId) (g : Nat → Nat) (a : Nat → Nat) (b : Nat → Nat) (t : Nat → Nat) (vn : Nat → Int32) (vf : Nat → UInt32) (vs : Nat → Int32) (vp : Nat → Int32) (vq : Nat → Int32) (vd : Nat → Int32) (vo : Nat → Int32) (un : Nat → Int32) (uf : Nat → UInt32) (us : Nat → Int32) (up : Nat → Int32) (uq : Nat → Int32) (ud : Nat → Int32) (uo : Nat → Int32) (tm : Nat → Int32) (tx : Nat → Int32) (hc : Nat → Int32) (hh : Nat → Sx) (ss : Nat → Sx) (sv : Nat → Int32) (p1 : Int32) (K : Int32 → ((Nat → Int32) × (Nat → Int32) × (Nat → Int32) × (Nat → Int32) × (Nat → Sx)) → Prop) (h : vX6_addStop vn vf vs vp vq vd vo hc hh p1 K) : Met l yX6_addStop (ws_ yX6_addStop cX6_addStop 2 (some .int)) ({ frames := 5, cells := 0, slots := 0, locals := 124 } : Room) (CP G cy [.ref (g 0), .int p1] (mo_W cy g a b t vn vf vs vp vq vd vo un uf us up uq ud uo tm tx hc hh ss sv)) (RI G K (fun u => mo_W cy g a b t u.1 vf vs vp vq u.2.1 u.2.2.1 un uf us up uq ud uo tm tx u.2.2.2.1 u.2.2.2.2 ss sv) (A1 (mo_W cy g a b t vn vf vs vp vq vd vo un uf us up uq ud uo tm tx hc hh ss sv))) 0 0 (A1 (mo_W cy g a b t vn vf vs vp vq vd vo un uf us up uq ud uo tm tx hc hh ss sv)) := by
  refine hd_go (Qf := fun A => (RI G K (fun u => mo_W cy g a b t u.1 vf vs vp vq u.2.1 u.2.2.1 un uf us up uq ud uo tm tx u.2.2.2.1 u.2.2.2.2 ss sv) A)) (by decide +kernel) (Nat.le_of_ble_eq_true rfl) ?_
  intro p e s m below meth c ls A hx hb hr hlocks S hE hP hD hS hl
  have hl : lv_has ls 2 [(0, .ref (g 0)), (1, .int p1)] := hl
  unfold vX6_addStop at h
  refine lv_iload_n hx hb dX6_addStop_0 rfl (lv_at hl 1 rfl) ?_
  refine lv_iconst (v := (1 : Int32)) hx hb dX6_addStop_1 (by decide) ?_
  refine lv_icmp_lt (tgt := 11) hx hb dX6_addStop_2 (by decide) (fun c_2 => ?_) (fun c_2 => ?_)
  · have h := h.1 c_2
    refine lv_bipush (v := (-2 : Int32)) hx hb dX6_addStop_11 (by decide) ?_
    exact W.iret (v := (-2 : Int32)) hx hb hr (fun t ht hW => ⟨⟨(-2 : Int32), (vn, vd, vo, hc, hh), rfl, h, ⟨hp_at ht hP, hD⟩⟩, hS.F ht⟩) hS.2.2 dX6_addStop_13
  · have h := h.2 c_2
    refine lv_iload_n hx hb dX6_addStop_5 rfl (lv_at hl 1 rfl) ?_
    refine lv_ldc hx hb S.2.2.2.1 (S.2.2.2.2 _ q_10_5) dX6_addStop_6 ?_
    refine lv_icmp_le (tgt := 14) hx hb dX6_addStop_8 (by decide) (fun c_8 => ?_) (fun c_8 => ?_)
    · have h := h.1 c_8
      refine lv_aload_n hx hb dX6_addStop_14 rfl (lv_at hl 0 rfl) ?_
      refine kg (v := .ref (a 0)) S hE hP 0 rfl rfl 0 (by decide) q_1_12 rfl rfl inlX6 dX6_addStop_15 ?_
      refine kg (v := .ref (a 5)) S hE hP 10 rfl rfl 12 (by decide) q_5_2 rfl rfl inlX4 dX6_addStop_18 ?_
      refine kg (v := .int (vn 11)) S hE hP 15 rfl rfl 0 (by decide) q_5_6 rfl rfl inlX5 dX6_addStop_21 ?_
      refine lv_iconst (v := (4 : Int32)) hx hb dX6_addStop_24 (by decide) ?_
      refine lv_icmp_lt (tgt := 31) hx hb dX6_addStop_25 (by decide) (fun c_25 => ?_) (fun c_25 => ?_)
      · have h := h.1 c_25
        refine lv_aload_n hx hb dX6_addStop_31 rfl (lv_at hl 0 rfl) ?_
        refine kg (v := .ref (g 1)) S hE hP 0 rfl rfl 2 (by decide) q_1_17 rfl rfl inlX6 dX6_addStop_32 ?_
        refine lv_aload_n hx hb dX6_addStop_35 rfl (lv_at hl 0 rfl) ?_
        refine kg (v := .ref (a 0)) S hE hP 0 rfl rfl 0 (by decide) q_1_12 rfl rfl inlX6 dX6_addStop_36 ?_
        refine kc_Vv0 (As := [.ref (a 0)]) (rest := []) S hE (ctX1_keep l G cy g a b t vn vf vs vp vq vd vo un uf us up uq ud uo tm tx hc hh ss sv h.1) q_10_11 q_10_12 q_10_13 q_1_16 q_10_14 rfl 21 rfl rfl ydX1_keep ⟨⟨rfl, rfl⟩, ⟨Nat.le_of_ble_eq_true rfl, Nat.le_of_ble_eq_true rfl⟩⟩ ⟨Nat.zero_le _, Nat.zero_le _⟩ hP hD hS rfl hl.1 rfl (Nat.le_of_ble_eq_true rfl) dX6_addStop_39 (fun u_39 H locs _ hP hD hS => ?_)
        have h := h.2
        have hP : va_P G vwCl (mo_W cy g a b t vn vf vs vp vq vd vo un uf us up uq ud uo tm tx (hck hc) (hhk hc hh (vn, vf, vs, vp, vq, vd, vo)) ss sv) H := hP
        have hD : va_D A (mo_W cy g a b t vn vf vs vp vq vd vo un uf us up uq ud uo tm tx (hck hc) (hhk hc hh (vn, vf, vs, vp, vq, vd, vo)) ss sv) := hD
        refine lv_aload_n hx hb dX6_addStop_42 rfl (lv_at hl 0 rfl) ?_
        refine kg (v := .ref (a 0)) S hE hP 0 rfl rfl 0 (by decide) q_1_12 rfl rfl inlX6 dX6_addStop_43 ?_
        refine kg (v := .ref (a 5)) S hE hP 10 rfl rfl 12 (by decide) q_5_2 rfl rfl inlX4 dX6_addStop_46 ?_
        refine lv_iload_n hx hb dX6_addStop_49 rfl (lv_at hl 1 rfl) ?_
        refine kc_Vi (L := (((g 0, .inr (6, [.ref (a 0), .ref (b 0), .ref (g 1), .ref (g 3), .ref (g 4), .ref (t 0)])) : Nat × va_E) :: st_W cy b un uf us up uq ud uo)) (w0 := st_W cy a vn vf vs vp vq vd vo) (R' := (tx_W cy t tm tx ++ (hr_W cy g (hck hc) (fun j => some (((hhk hc hh (vn, vf, vs, vp, vq, vd, vo)) j).1 0)) (hhk hc hh (vn, vf, vs, vp, vq, vd, vo)) ++ tl_W cy g ss sv))) (As := [.int p1]) (rest := []) S hE (ctX5_addClosed l G cy a vn vf vs vp vq vd vo p1 _ h) q_13_10 q_13_11 q_13_12 q_2_20 q_13_13 rfl 5 rfl rfl ydX5_addClosed ⟨⟨rfl, rfl⟩, ⟨Nat.le_of_ble_eq_true rfl, Nat.le_of_ble_eq_true rfl⟩⟩ ⟨Nat.zero_le _, Nat.zero_le _⟩ hP hD hS rfl hl.1 rfl (Nat.le_of_ble_eq_true rfl) dX6_addStop_50 (fun r_50 u_50 H locs h hP hD hS => ?_)
        have hP : va_P G vwCl (mo_W cy g a b t u_50.1 vf vs vp vq u_50.2.1 u_50.2.2 un uf us up uq ud uo tm tx (hck hc) (hhk hc hh (vn, vf, vs, vp, vq, vd, vo)) ss sv) H := hP
        have hD : va_D A (mo_W cy g a b t u_50.1 vf vs vp vq u_50.2.1 u_50.2.2 un uf us up uq ud uo tm tx (hck hc) (hhk hc hh (vn, vf, vs, vp, vq, vd, vo)) ss sv) := hD
        exact W.iret (v := r_50) hx hb hr (fun t ht hW => ⟨⟨r_50, (u_50.1, u_50.2.1, u_50.2.2, (hck hc), (hhk hc hh (vn, vf, vs, vp, vq, vd, vo))), rfl, h, ⟨hp_at ht hP, hD⟩⟩, hS.F ht⟩) hS.2.2 dX6_addStop_53
      · have h := h.2 c_25
        refine lv_bipush (v := (-4 : Int32)) hx hb dX6_addStop_28 (by decide) ?_
        exact W.iret (v := (-4 : Int32)) hx hb hr (fun t ht hW => ⟨⟨(-4 : Int32), (vn, vd, vo, hc, hh), rfl, h, ⟨hp_at ht hP, hD⟩⟩, hS.F ht⟩) hS.2.2 dX6_addStop_30
    · have h := h.2 c_8
      refine lv_bipush (v := (-2 : Int32)) hx hb dX6_addStop_11 (by decide) ?_
      exact W.iret (v := (-2 : Int32)) hx hb hr (fun t ht hW => ⟨⟨(-2 : Int32), (vn, vd, vo, hc, hh), rfl, h, ⟨hp_at ht hP, hD⟩⟩, hS.F ht⟩) hS.2.2 dX6_addStop_13
def vX6_setBias_49 (vn : Nat → Int32) (vf : Nat → UInt32) (vs : Nat → Int32) (vp : Nat → Int32) (vq : Nat → Int32) (vd : Nat → Int32) (vo : Nat → Int32) (hc : Nat → Int32) (hh : Nat → Sx) (x1 : Int32) (K : Int32 → ((Nat → Int32) × (Nat → Int32) × (Nat → Sx)) → Prop)  : Prop :=
  (¬ (vn 4) = x1 → K (0 : Int32) (vn, hc, hh)) ∧ ((vn 4) = x1 → K (1 : Int32) (vn, hc, hh))
def vX6_setBias (vn : Nat → Int32) (vf : Nat → UInt32) (vs : Nat → Int32) (vp : Nat → Int32) (vq : Nat → Int32) (vd : Nat → Int32) (vo : Nat → Int32) (hc : Nat → Int32) (hh : Nat → Sx) (p1 : Int32) (p2 : Int32) (K : Int32 → ((Nat → Int32) × (Nat → Int32) × (Nat → Sx)) → Prop) : Prop :=
  vX6_isBeyond p2 (500 : Int32) (fun r_4 u_4 => (r_4 = (0 : Int32) → kpre vn vo hc ∧ (p1 = (0 : Int32) → vX6_setBias_49 (upd vn 6 p2) vf vs vp vq vd vo (hck hc) (hhk hc hh (vn, vf, vs, vp, vq, vd, vo)) p1 K ) ∧ (¬ p1 = (0 : Int32) → vX6_setBias_49 (upd vn 7 p2) vf vs vp vq vd vo (hck hc) (hhk hc hh (vn, vf, vs, vp, vq, vd, vo)) p1 K )) ∧ (¬ r_4 = (0 : Int32) → K (-2 : Int32) (vn, hc, hh)))
set_option maxRecDepth 100000 in
set_option maxHeartbeats 4000000 in
theorem ctX6_setBias (l : Launch) (G : va_G) (cy : Nat → ClassId) (g : Nat → Nat) (a : Nat → Nat) (b : Nat → Nat) (t : Nat → Nat) (vn : Nat → Int32) (vf : Nat → UInt32) (vs : Nat → Int32) (vp : Nat → Int32) (vq : Nat → Int32) (vd : Nat → Int32) (vo : Nat → Int32) (un : Nat → Int32) (uf : Nat → UInt32) (us : Nat → Int32) (up : Nat → Int32) (uq : Nat → Int32) (ud : Nat → Int32) (uo : Nat → Int32) (tm : Nat → Int32) (tx : Nat → Int32) (hc : Nat → Int32) (hh : Nat → Sx) (ss : Nat → Sx) (sv : Nat → Int32) (p1 : Int32) (p2 : Int32) (K : Int32 → ((Nat → Int32) × (Nat → Int32) × (Nat → Sx)) → Prop) (h : vX6_setBias vn vf vs vp vq vd vo hc hh p1 p2 K) : Met l yX6_setBias (ws_ yX6_setBias cX6_setBias 4 (some .int)) ({ frames := 5, cells := 0, slots := 0, locals := 124 } : Room) (CP G cy [.ref (g 0), .int p1, .int p2] (mo_W cy g a b t vn vf vs vp vq vd vo un uf us up uq ud uo tm tx hc hh ss sv)) (RI G K (fun u => mo_W cy g a b t u.1 vf vs vp vq vd vo un uf us up uq ud uo tm tx u.2.1 u.2.2 ss sv) (A1 (mo_W cy g a b t vn vf vs vp vq vd vo un uf us up uq ud uo tm tx hc hh ss sv))) 0 0 (A1 (mo_W cy g a b t vn vf vs vp vq vd vo un uf us up uq ud uo tm tx hc hh ss sv)) := by
  refine hd_go (Qf := fun A => (RI G K (fun u => mo_W cy g a b t u.1 vf vs vp vq vd vo un uf us up uq ud uo tm tx u.2.1 u.2.2 ss sv) A)) (by decide +kernel) (Nat.le_of_ble_eq_true rfl) ?_
  intro p e s m below meth c ls A hx hb hr hlocks S hE hP hD hS hl
  have hl : lv_has ls 4 [(0, .ref (g 0)), (1, .int p1), (2, .int p2)] := hl
  unfold vX6_setBias at h
  have J_49 : ∀ (vn : Nat → Int32) (vf : Nat → UInt32) (vs : Nat → Int32) (vp : Nat → Int32) (vq : Nat → Int32) (vd : Nat → Int32) (vo : Nat → Int32) (hc : Nat → Int32) (hh : Nat → Sx) (x1 : Int32), vX6_setBias_49 vn vf vs vp vq vd vo hc hh x1 K  → ∀ (H : Heap) (locs : List Loc) (ls : Array Slot), va_P G vwCl (mo_W cy g a b t vn vf vs vp vq vd vo un uf us up uq ud uo tm tx hc hh ss sv) H → va_D A (mo_W cy g a b t vn vf vs vp vq vd vo un uf us up uq ud uo tm tx hc hh ss sv) → va_S A s.heap H locs → lv_has ls 4 [(1, .int x1), (3, .ref (a 8))] → W p l e (headSpec (ws_ yX6_setBias cX6_setBias 4 (some .int)) ({ frames := 5, cells := 0, slots := 0, locals := 124 } : Room)).room s m ([.ref (g 0), .int p1, .int p2] : List Value).toArray below meth c H locs 0 0 (MQ below (RI G K (fun u => mo_W cy g a b t u.1 vf vs vp vq vd vo un uf us up uq ud uo tm tx u.2.1 u.2.2 ss sv) A) ([.ref (g 0), .int p1, .int p2] : List Value).toArray s 0 0 A) (F0 m 49 ls []) := by
    intro vn vf vs vp vq vd vo hc hh x1 h H locs ls hP hD hS hl
    unfold vX6_setBias_49 at h
    refine lv_aload_n hx hb dX6_setBias_49 rfl (lv_at hl 1 rfl) ?_
    refine kg (v := .int (vn 4)) S hE hP 18 rfl rfl 2 (by decide) q_5_1 rfl rfl inlX3 dX6_setBias_50 ?_
    refine lv_iload_n hx hb dX6_setBias_53 rfl (lv_at hl 0 rfl) ?_
    refine lv_icmp_ne (tgt := 61) hx hb dX6_setBias_54 (by decide) (fun c_54 => ?_) (fun c_54 => ?_)
    · have h := h.1 c_54
      refine lv_iconst (v := (0 : Int32)) hx hb dX6_setBias_61 (by decide) ?_
      exact W.iret (v := (0 : Int32)) hx hb hr (fun t ht hW => ⟨⟨(0 : Int32), (vn, hc, hh), rfl, h, ⟨hp_at ht hP, hD⟩⟩, hS.F ht⟩) hS.2.2 dX6_setBias_62
    · have h := h.2 c_54
      refine lv_iconst (v := (1 : Int32)) hx hb dX6_setBias_57 (by decide) ?_
      refine lv_goto (tgt := 62) hx hb dX6_setBias_58 (by decide) ?_
      exact W.iret (v := (1 : Int32)) hx hb hr (fun t ht hW => ⟨⟨(1 : Int32), (vn, hc, hh), rfl, h, ⟨hp_at ht hP, hD⟩⟩, hS.F ht⟩) hS.2.2 dX6_setBias_62
  refine lv_iload_n hx hb dX6_setBias_0 rfl (lv_at hl 2 rfl) ?_
  refine lv_sipush (v := (500 : Int32)) hx hb dX6_setBias_1 (by decide) ?_
  refine kc_SiE (As := [.int p2, .int (500 : Int32)]) (rest := []) S hE (ctX6_isBeyond l G cy   p2 (500 : Int32) _ h) q_10_8 q_10_9 q_1_2 q_10_10 ydX6_isBeyond ⟨⟨rfl, rfl⟩, ⟨Nat.le_of_ble_eq_true rfl, Nat.le_of_ble_eq_true rfl⟩⟩ ⟨Nat.zero_le _, Nat.zero_le _⟩ hP hD hS (fun _ => rfl) rfl hl.1 rfl (Nat.le_of_ble_eq_true rfl) dX6_setBias_4 (fun r_4 u_4 H locs h hP hD hS => ?_)
  refine lv_if_eq (tgt := 13) hx hb dX6_setBias_7 (by decide) (fun c_7 => ?_) (fun c_7 => ?_)
  · have h := h.1 c_7
    refine lv_aload_n hx hb dX6_setBias_13 rfl (lv_at hl 0 rfl) ?_
    refine kg (v := .ref (g 1)) S hE hP 0 rfl rfl 2 (by decide) q_1_17 rfl rfl inlX6 dX6_setBias_14 ?_
    refine lv_aload_n hx hb dX6_setBias_17 rfl (lv_at hl 0 rfl) ?_
    refine kg (v := .ref (a 0)) S hE hP 0 rfl rfl 0 (by decide) q_1_12 rfl rfl inlX6 dX6_setBias_18 ?_
    refine kc_Vv0 (As := [.ref (a 0)]) (rest := []) S hE (ctX1_keep l G cy g a b t vn vf vs vp vq vd vo un uf us up uq ud uo tm tx hc hh ss sv h.1) q_10_11 q_10_12 q_10_13 q_1_16 q_10_14 rfl 21 rfl rfl ydX1_keep ⟨⟨rfl, rfl⟩, ⟨Nat.le_of_ble_eq_true rfl, Nat.le_of_ble_eq_true rfl⟩⟩ ⟨Nat.zero_le _, Nat.zero_le _⟩ hP hD hS rfl hl.1 rfl (Nat.le_of_ble_eq_true rfl) dX6_setBias_21 (fun u_21 H locs _ hP hD hS => ?_)
    have h := h.2
    have hP : va_P G vwCl (mo_W cy g a b t vn vf vs vp vq vd vo un uf us up uq ud uo tm tx (hck hc) (hhk hc hh (vn, vf, vs, vp, vq, vd, vo)) ss sv) H := hP
    have hD : va_D A (mo_W cy g a b t vn vf vs vp vq vd vo un uf us up uq ud uo tm tx (hck hc) (hhk hc hh (vn, vf, vs, vp, vq, vd, vo)) ss sv) := hD
    refine lv_aload_n hx hb dX6_setBias_24 rfl (lv_at hl 0 rfl) ?_
    refine kg (v := .ref (a 0)) S hE hP 0 rfl rfl 0 (by decide) q_1_12 rfl rfl inlX6 dX6_setBias_25 ?_
    refine kg (v := .ref (a 8)) S hE hP 10 rfl rfl 13 (by decide) q_4_23 rfl rfl inlX4 dX6_setBias_28 ?_
    refine lv_astore_n (lv' := [(3, .ref (a 8)), (0, .ref (g 0)), (1, .int p1), (2, .int p2)]) hx hb dX6_setBias_31 rfl hl (by decide) rfl (fun ls hl => ?_)
    refine lv_iload_n hx hb dX6_setBias_32 rfl (lv_at hl 2 rfl) ?_
    refine lv_if_eq (tgt := 44) hx hb dX6_setBias_33 (by decide) (fun c_33 => ?_) (fun c_33 => ?_)
    · have h := h.1 c_33
      refine lv_aload_n hx hb dX6_setBias_44 rfl (lv_at hl 0 rfl) ?_
      refine lv_iload_n hx hb dX6_setBias_45 rfl (lv_at hl 3 rfl) ?_
      refine kp S hE hP hD hS 18 rfl rfl 0 (by decide) q_13_19 rfl rfl tyX3_ok nmX3 inlX3 rfl rfl (Nat.le_of_ble_eq_true rfl) dX6_setBias_46 (fun H locs hP hD hS => ?_)
      have hP : va_P G vwCl (mo_W cy g a b t (upd vn 6 p2) vf vs vp vq vd vo un uf us up uq ud uo tm tx (hck hc) (hhk hc hh (vn, vf, vs, vp, vq, vd, vo)) ss sv) H := hP
      have hD : va_D A (mo_W cy g a b t (upd vn 6 p2) vf vs vp vq vd vo un uf us up uq ud uo tm tx (hck hc) (hhk hc hh (vn, vf, vs, vp, vq, vd, vo)) ss sv) := hD
      exact J_49 _ _ _ _ _ _ _ _ _ _ h _ _ _ hP hD hS (lv_sub hl [2, 0] rfl)
    · have h := h.2 c_33
      refine lv_aload_n hx hb dX6_setBias_36 rfl (lv_at hl 0 rfl) ?_
      refine lv_iload_n hx hb dX6_setBias_37 rfl (lv_at hl 3 rfl) ?_
      refine kp S hE hP hD hS 18 rfl rfl 1 (by decide) q_13_18 rfl rfl tyX3_ok nmX3 inlX3 rfl rfl (Nat.le_of_ble_eq_true rfl) dX6_setBias_38 (fun H locs hP hD hS => ?_)
      have hP : va_P G vwCl (mo_W cy g a b t (upd vn 7 p2) vf vs vp vq vd vo un uf us up uq ud uo tm tx (hck hc) (hhk hc hh (vn, vf, vs, vp, vq, vd, vo)) ss sv) H := hP
      have hD : va_D A (mo_W cy g a b t (upd vn 7 p2) vf vs vp vq vd vo un uf us up uq ud uo tm tx (hck hc) (hhk hc hh (vn, vf, vs, vp, vq, vd, vo)) ss sv) := hD
      refine lv_goto (tgt := 49) hx hb dX6_setBias_41 (by decide) ?_
      exact J_49 _ _ _ _ _ _ _ _ _ _ h _ _ _ hP hD hS (lv_sub hl [2, 0] rfl)
  · have h := h.2 c_7
    refine lv_bipush (v := (-2 : Int32)) hx hb dX6_setBias_10 (by decide) ?_
    exact W.iret (v := (-2 : Int32)) hx hb hr (fun t ht hW => ⟨⟨(-2 : Int32), (vn, hc, hh), rfl, h, ⟨hp_at ht hP, hD⟩⟩, hS.F ht⟩) hS.2.2 dX6_setBias_12
def vX6_actRecorded (vn : Nat → Int32) (vf : Nat → UInt32) (vs : Nat → Int32) (vp : Nat → Int32) (vq : Nat → Int32) (vd : Nat → Int32) (vo : Nat → Int32) (hc : Nat → Int32) (hh : Nat → Sx) (p1 : Int32) (p2 : Int32) (K : Int32 → ((Nat → Int32) × (Nat → UInt32) × (Nat → Int32) × (Nat → Int32) × (Nat → Sx)) → Prop) : Prop :=
  vX4_errorOf vn vo p1 p2 (fun r_6 u_6 => (r_6 = (0 : Int32) → kpre vn vo hc ∧ vX4_carryOut vn vf vs vp vq vd vo p1 p2 (fun r_33 u_33 => K r_33 (u_33.1, u_33.2.1, u_33.2.2, (hck hc), (hhk hc hh (vn, vf, vs, vp, vq, vd, vo))))) ∧ (¬ r_6 = (0 : Int32) → K r_6 (vn, vf, vo, hc, hh)))
set_option maxRecDepth 100000 in
set_option maxHeartbeats 4000000 in
theorem ctX6_actRecorded (l : Launch) (G : va_G) (cy : Nat → ClassId) (g : Nat → Nat) (a : Nat → Nat) (b : Nat → Nat) (t : Nat → Nat) (vn : Nat → Int32) (vf : Nat → UInt32) (vs : Nat → Int32) (vp : Nat → Int32) (vq : Nat → Int32) (vd : Nat → Int32) (vo : Nat → Int32) (un : Nat → Int32) (uf : Nat → UInt32) (us : Nat → Int32) (up : Nat → Int32) (uq : Nat → Int32) (ud : Nat → Int32) (uo : Nat → Int32) (tm : Nat → Int32) (tx : Nat → Int32) (hc : Nat → Int32) (hh : Nat → Sx) (ss : Nat → Sx) (sv : Nat → Int32) (p1 : Int32) (p2 : Int32) (K : Int32 → ((Nat → Int32) × (Nat → UInt32) × (Nat → Int32) × (Nat → Int32) × (Nat → Sx)) → Prop) (h : vX6_actRecorded vn vf vs vp vq vd vo hc hh p1 p2 K) : Met l yX6_actRecorded (ws_ yX6_actRecorded cX6_actRecorded 4 (some .int)) ({ frames := 5, cells := 0, slots := 0, locals := 124 } : Room) (CP G cy [.ref (g 0), .int p1, .int p2] (mo_W cy g a b t vn vf vs vp vq vd vo un uf us up uq ud uo tm tx hc hh ss sv)) (RI G K (fun u => mo_W cy g a b t u.1 u.2.1 vs vp vq vd u.2.2.1 un uf us up uq ud uo tm tx u.2.2.2.1 u.2.2.2.2 ss sv) (A1 (mo_W cy g a b t vn vf vs vp vq vd vo un uf us up uq ud uo tm tx hc hh ss sv))) 0 0 (A1 (mo_W cy g a b t vn vf vs vp vq vd vo un uf us up uq ud uo tm tx hc hh ss sv)) := by
  refine hd_go (Qf := fun A => (RI G K (fun u => mo_W cy g a b t u.1 u.2.1 vs vp vq vd u.2.2.1 un uf us up uq ud uo tm tx u.2.2.2.1 u.2.2.2.2 ss sv) A)) (by decide +kernel) (Nat.le_of_ble_eq_true rfl) ?_
  intro p e s m below meth c ls A hx hb hr hlocks S hE hP hD hS hl
  have hl : lv_has ls 4 [(0, .ref (g 0)), (1, .int p1), (2, .int p2)] := hl
  unfold vX6_actRecorded at h
  refine lv_aload_n hx hb dX6_actRecorded_0 rfl (lv_at hl 0 rfl) ?_
  refine kg (v := .ref (a 0)) S hE hP 0 rfl rfl 0 (by decide) q_1_12 rfl rfl inlX6 dX6_actRecorded_1 ?_
  refine lv_iload_n hx hb dX6_actRecorded_4 rfl (lv_at hl 1 rfl) ?_
  refine lv_iload_n hx hb dX6_actRecorded_5 rfl (lv_at hl 2 rfl) ?_
  refine kc_Vi (L := (((g 0, .inr (6, [.ref (a 0), .ref (b 0), .ref (g 1), .ref (g 3), .ref (g 4), .ref (t 0)])) : Nat × va_E) :: st_W cy b un uf us up uq ud uo)) (w0 := st_W cy a vn vf vs vp vq vd vo) (R' := (tx_W cy t tm tx ++ (hr_W cy g hc (fun j => some ((hh j).1 0)) hh ++ tl_W cy g ss sv))) (As := [.int p1, .int p2]) (rest := []) S hE (ctX4_errorOf l G cy a vn vf vs vp vq vd vo p1 p2 _ h) q_14_4 q_14_5 q_14_6 q_1_11 q_14_7 rfl 0 rfl rfl ydX4_errorOf ⟨⟨rfl, rfl⟩, ⟨Nat.le_of_ble_eq_true rfl, Nat.le_of_ble_eq_true rfl⟩⟩ ⟨Nat.zero_le _, Nat.zero_le _⟩ hP hD hS rfl hl.1 rfl (Nat.le_of_ble_eq_true rfl) dX6_actRecorded_6 (fun r_6 u_6 H locs h hP hD hS => ?_)
  have hP : va_P G vwCl (mo_W cy g a b t vn vf vs vp vq vd vo un uf us up uq ud uo tm tx hc hh ss sv) H := hP
  have hD : va_D A (mo_W cy g a b t vn vf vs vp vq vd vo un uf us up uq ud uo tm tx hc hh ss sv) := hD
  refine lv_istore_n (lv' := [(3, .int r_6), (0, .ref (g 0)), (1, .int p1), (2, .int p2)]) hx hb dX6_actRecorded_9 rfl hl (by decide) rfl (fun ls hl => ?_)
  refine lv_iload_n hx hb dX6_actRecorded_10 rfl (lv_at hl 0 rfl) ?_
  refine lv_if_eq (tgt := 16) hx hb dX6_actRecorded_11 (by decide) (fun c_11 => ?_) (fun c_11 => ?_)
  · have h := h.1 c_11
    refine lv_aload_n hx hb dX6_actRecorded_16 rfl (lv_at hl 1 rfl) ?_
    refine kg (v := .ref (g 1)) S hE hP 0 rfl rfl 2 (by decide) q_1_17 rfl rfl inlX6 dX6_actRecorded_17 ?_
    refine lv_aload_n hx hb dX6_actRecorded_20 rfl (lv_at hl 1 rfl) ?_
    refine kg (v := .ref (a 0)) S hE hP 0 rfl rfl 0 (by decide) q_1_12 rfl rfl inlX6 dX6_actRecorded_21 ?_
    refine kc_Vv0 (As := [.ref (a 0)]) (rest := []) S hE (ctX1_keep l G cy g a b t vn vf vs vp vq vd vo un uf us up uq ud uo tm tx hc hh ss sv h.1) q_10_11 q_10_12 q_10_13 q_1_16 q_10_14 rfl 21 rfl rfl ydX1_keep ⟨⟨rfl, rfl⟩, ⟨Nat.le_of_ble_eq_true rfl, Nat.le_of_ble_eq_true rfl⟩⟩ ⟨Nat.zero_le _, Nat.zero_le _⟩ hP hD hS rfl hl.1 rfl (Nat.le_of_ble_eq_true rfl) dX6_actRecorded_24 (fun u_24 H locs _ hP hD hS => ?_)
    have h := h.2
    have hP : va_P G vwCl (mo_W cy g a b t vn vf vs vp vq vd vo un uf us up uq ud uo tm tx (hck hc) (hhk hc hh (vn, vf, vs, vp, vq, vd, vo)) ss sv) H := hP
    have hD : va_D A (mo_W cy g a b t vn vf vs vp vq vd vo un uf us up uq ud uo tm tx (hck hc) (hhk hc hh (vn, vf, vs, vp, vq, vd, vo)) ss sv) := hD
    refine lv_aload_n hx hb dX6_actRecorded_27 rfl (lv_at hl 1 rfl) ?_
    refine kg (v := .ref (a 0)) S hE hP 0 rfl rfl 0 (by decide) q_1_12 rfl rfl inlX6 dX6_actRecorded_28 ?_
    refine lv_iload_n hx hb dX6_actRecorded_31 rfl (lv_at hl 2 rfl) ?_
    refine lv_iload_n hx hb dX6_actRecorded_32 rfl (lv_at hl 3 rfl) ?_
    refine kc_Vi (L := (((g 0, .inr (6, [.ref (a 0), .ref (b 0), .ref (g 1), .ref (g 3), .ref (g 4), .ref (t 0)])) : Nat × va_E) :: st_W cy b un uf us up uq ud uo)) (w0 := st_W cy a vn vf vs vp vq vd vo) (R' := (tx_W cy t tm tx ++ (hr_W cy g (hck hc) (fun j => some (((hhk hc hh (vn, vf, vs, vp, vq, vd, vo)) j).1 0)) (hhk hc hh (vn, vf, vs, vp, vq, vd, vo)) ++ tl_W cy g ss sv))) (As := [.int p1, .int p2]) (rest := []) S hE (ctX4_carryOut l G cy a vn vf vs vp vq vd vo p1 p2 _ h) q_14_17 q_14_18 q_14_19 q_1_11 q_14_20 rfl 0 rfl rfl ydX4_carryOut ⟨⟨rfl, rfl⟩, ⟨Nat.le_of_ble_eq_true rfl, Nat.le_of_ble_eq_true rfl⟩⟩ ⟨Nat.zero_le _, Nat.zero_le _⟩ hP hD hS rfl hl.1 rfl (Nat.le_of_ble_eq_true rfl) dX6_actRecorded_33 (fun r_33 u_33 H locs h hP hD hS => ?_)
    have hP : va_P G vwCl (mo_W cy g a b t u_33.1 u_33.2.1 vs vp vq vd u_33.2.2 un uf us up uq ud uo tm tx (hck hc) (hhk hc hh (vn, vf, vs, vp, vq, vd, vo)) ss sv) H := hP
    have hD : va_D A (mo_W cy g a b t u_33.1 u_33.2.1 vs vp vq vd u_33.2.2 un uf us up uq ud uo tm tx (hck hc) (hhk hc hh (vn, vf, vs, vp, vq, vd, vo)) ss sv) := hD
    exact W.iret (v := r_33) hx hb hr (fun t ht hW => ⟨⟨r_33, (u_33.1, u_33.2.1, u_33.2.2, (hck hc), (hhk hc hh (vn, vf, vs, vp, vq, vd, vo))), rfl, h, ⟨hp_at ht hP, hD⟩⟩, hS.F ht⟩) hS.2.2 dX6_actRecorded_36
  · have h := h.2 c_11
    refine lv_iload_n hx hb dX6_actRecorded_14 rfl (lv_at hl 0 rfl) ?_
    exact W.iret (v := r_6) hx hb hr (fun t ht hW => ⟨⟨r_6, (vn, vf, vo, hc, hh), rfl, h, ⟨hp_at ht hP, hD⟩⟩, hS.F ht⟩) hS.2.2 dX6_actRecorded_15
def vX6_approach (vn : Nat → Int32) (vf : Nat → UInt32) (vs : Nat → Int32) (vp : Nat → Int32) (vq : Nat → Int32) (vd : Nat → Int32) (vo : Nat → Int32) (hc : Nat → Int32) (hh : Nat → Sx) (K : Int32 → ((Nat → Int32) × (Nat → UInt32) × (Nat → Int32) × (Nat → Int32) × (Nat → Sx)) → Prop) : Prop :=
  vX6_actRecorded vn vf vs vp vq vd vo hc hh (103 : Int32) (0 : Int32) (fun r_4 u_4 => K r_4 (u_4.1, u_4.2.1, u_4.2.2.1, u_4.2.2.2.1, u_4.2.2.2.2))
set_option maxRecDepth 100000 in
set_option maxHeartbeats 4000000 in
theorem ctX6_approach (l : Launch) (G : va_G) (cy : Nat → ClassId) (g : Nat → Nat) (a : Nat → Nat) (b : Nat → Nat) (t : Nat → Nat) (vn : Nat → Int32) (vf : Nat → UInt32) (vs : Nat → Int32) (vp : Nat → Int32) (vq : Nat → Int32) (vd : Nat → Int32) (vo : Nat → Int32) (un : Nat → Int32) (uf : Nat → UInt32) (us : Nat → Int32) (up : Nat → Int32) (uq : Nat → Int32) (ud : Nat → Int32) (uo : Nat → Int32) (tm : Nat → Int32) (tx : Nat → Int32) (hc : Nat → Int32) (hh : Nat → Sx) (ss : Nat → Sx) (sv : Nat → Int32)  (K : Int32 → ((Nat → Int32) × (Nat → UInt32) × (Nat → Int32) × (Nat → Int32) × (Nat → Sx)) → Prop) (h : vX6_approach vn vf vs vp vq vd vo hc hh K) : Met l yX6_approach (ws_ yX6_approach cX6_approach 1 (some .int)) ({ frames := 6, cells := 0, slots := 0, locals := 147 } : Room) (CP G cy [.ref (g 0)] (mo_W cy g a b t vn vf vs vp vq vd vo un uf us up uq ud uo tm tx hc hh ss sv)) (RI G K (fun u => mo_W cy g a b t u.1 u.2.1 vs vp vq vd u.2.2.1 un uf us up uq ud uo tm tx u.2.2.2.1 u.2.2.2.2 ss sv) (A1 (mo_W cy g a b t vn vf vs vp vq vd vo un uf us up uq ud uo tm tx hc hh ss sv))) 0 0 (A1 (mo_W cy g a b t vn vf vs vp vq vd vo un uf us up uq ud uo tm tx hc hh ss sv)) := by
  refine hd_go (Qf := fun A => (RI G K (fun u => mo_W cy g a b t u.1 u.2.1 vs vp vq vd u.2.2.1 un uf us up uq ud uo tm tx u.2.2.2.1 u.2.2.2.2 ss sv) A)) (by decide +kernel) (Nat.le_of_ble_eq_true rfl) ?_
  intro p e s m below meth c ls A hx hb hr hlocks S hE hP hD hS hl
  have hl : lv_has ls 1 [(0, .ref (g 0))] := hl
  unfold vX6_approach at h
  refine lv_aload_n hx hb dX6_approach_0 rfl (lv_at hl 0 rfl) ?_
  refine lv_bipush (v := (103 : Int32)) hx hb dX6_approach_1 (by decide) ?_
  refine lv_iconst (v := (0 : Int32)) hx hb dX6_approach_3 (by decide) ?_
  refine kc_Vi0 (As := [.int (103 : Int32), .int (0 : Int32)]) (rest := []) S hE (ctX6_actRecorded l G cy g a b t vn vf vs vp vq vd vo un uf us up uq ud uo tm tx hc hh ss sv (103 : Int32) (0 : Int32) _ h) q_14_0 q_14_1 q_14_2 q_1_2 q_14_3 rfl 0 rfl rfl ydX6_actRecorded ⟨⟨rfl, rfl⟩, ⟨Nat.le_of_ble_eq_true rfl, Nat.le_of_ble_eq_true rfl⟩⟩ ⟨Nat.zero_le _, Nat.zero_le _⟩ hP hD hS rfl hl.1 rfl (Nat.le_of_ble_eq_true rfl) dX6_approach_4 (fun r_4 u_4 H locs h hP hD hS => ?_)
  exact W.iret (v := r_4) hx hb hr (fun t ht hW => ⟨⟨r_4, (u_4.1, u_4.2.1, u_4.2.2.1, u_4.2.2.2.1, u_4.2.2.2.2), rfl, h, ⟨hp_at ht hP, hD⟩⟩, hS.F ht⟩) hS.2.2 dX6_approach_7
def vX6_release (vn : Nat → Int32) (vf : Nat → UInt32) (vs : Nat → Int32) (vp : Nat → Int32) (vq : Nat → Int32) (vd : Nat → Int32) (vo : Nat → Int32) (hc : Nat → Int32) (hh : Nat → Sx) (K : Int32 → ((Nat → Int32) × (Nat → UInt32) × (Nat → Int32) × (Nat → Int32) × (Nat → Sx)) → Prop) : Prop :=
  vX6_actRecorded vn vf vs vp vq vd vo hc hh (102 : Int32) (0 : Int32) (fun r_4 u_4 => K r_4 (u_4.1, u_4.2.1, u_4.2.2.1, u_4.2.2.2.1, u_4.2.2.2.2))
set_option maxRecDepth 100000 in
set_option maxHeartbeats 4000000 in
theorem ctX6_release (l : Launch) (G : va_G) (cy : Nat → ClassId) (g : Nat → Nat) (a : Nat → Nat) (b : Nat → Nat) (t : Nat → Nat) (vn : Nat → Int32) (vf : Nat → UInt32) (vs : Nat → Int32) (vp : Nat → Int32) (vq : Nat → Int32) (vd : Nat → Int32) (vo : Nat → Int32) (un : Nat → Int32) (uf : Nat → UInt32) (us : Nat → Int32) (up : Nat → Int32) (uq : Nat → Int32) (ud : Nat → Int32) (uo : Nat → Int32) (tm : Nat → Int32) (tx : Nat → Int32) (hc : Nat → Int32) (hh : Nat → Sx) (ss : Nat → Sx) (sv : Nat → Int32)  (K : Int32 → ((Nat → Int32) × (Nat → UInt32) × (Nat → Int32) × (Nat → Int32) × (Nat → Sx)) → Prop) (h : vX6_release vn vf vs vp vq vd vo hc hh K) : Met l yX6_release (ws_ yX6_release cX6_release 1 (some .int)) ({ frames := 6, cells := 0, slots := 0, locals := 147 } : Room) (CP G cy [.ref (g 0)] (mo_W cy g a b t vn vf vs vp vq vd vo un uf us up uq ud uo tm tx hc hh ss sv)) (RI G K (fun u => mo_W cy g a b t u.1 u.2.1 vs vp vq vd u.2.2.1 un uf us up uq ud uo tm tx u.2.2.2.1 u.2.2.2.2 ss sv) (A1 (mo_W cy g a b t vn vf vs vp vq vd vo un uf us up uq ud uo tm tx hc hh ss sv))) 0 0 (A1 (mo_W cy g a b t vn vf vs vp vq vd vo un uf us up uq ud uo tm tx hc hh ss sv)) := by
  refine hd_go (Qf := fun A => (RI G K (fun u => mo_W cy g a b t u.1 u.2.1 vs vp vq vd u.2.2.1 un uf us up uq ud uo tm tx u.2.2.2.1 u.2.2.2.2 ss sv) A)) (by decide +kernel) (Nat.le_of_ble_eq_true rfl) ?_
  intro p e s m below meth c ls A hx hb hr hlocks S hE hP hD hS hl
  have hl : lv_has ls 1 [(0, .ref (g 0))] := hl
  unfold vX6_release at h
  refine lv_aload_n hx hb dX6_release_0 rfl (lv_at hl 0 rfl) ?_
  refine lv_bipush (v := (102 : Int32)) hx hb dX6_release_1 (by decide) ?_
  refine lv_iconst (v := (0 : Int32)) hx hb dX6_release_3 (by decide) ?_
  refine kc_Vi0 (As := [.int (102 : Int32), .int (0 : Int32)]) (rest := []) S hE (ctX6_actRecorded l G cy g a b t vn vf vs vp vq vd vo un uf us up uq ud uo tm tx hc hh ss sv (102 : Int32) (0 : Int32) _ h) q_14_0 q_14_1 q_14_2 q_1_2 q_14_3 rfl 0 rfl rfl ydX6_actRecorded ⟨⟨rfl, rfl⟩, ⟨Nat.le_of_ble_eq_true rfl, Nat.le_of_ble_eq_true rfl⟩⟩ ⟨Nat.zero_le _, Nat.zero_le _⟩ hP hD hS rfl hl.1 rfl (Nat.le_of_ble_eq_true rfl) dX6_release_4 (fun r_4 u_4 H locs h hP hD hS => ?_)
  exact W.iret (v := r_4) hx hb hr (fun t ht hW => ⟨⟨r_4, (u_4.1, u_4.2.1, u_4.2.2.1, u_4.2.2.2.1, u_4.2.2.2.2), rfl, h, ⟨hp_at ht hP, hD⟩⟩, hS.F ht⟩) hS.2.2 dX6_release_7
def vX6_retreat (vn : Nat → Int32) (vf : Nat → UInt32) (vs : Nat → Int32) (vp : Nat → Int32) (vq : Nat → Int32) (vd : Nat → Int32) (vo : Nat → Int32) (hc : Nat → Int32) (hh : Nat → Sx) (K : Int32 → ((Nat → Int32) × (Nat → UInt32) × (Nat → Int32) × (Nat → Int32) × (Nat → Sx)) → Prop) : Prop :=
  vX6_actRecorded vn vf vs vp vq vd vo hc hh (98 : Int32) (0 : Int32) (fun r_4 u_4 => K r_4 (u_4.1, u_4.2.1, u_4.2.2.1, u_4.2.2.2.1, u_4.2.2.2.2))
set_option maxRecDepth 100000 in
set_option maxHeartbeats 4000000 in
theorem ctX6_retreat (l : Launch) (G : va_G) (cy : Nat → ClassId) (g : Nat → Nat) (a : Nat → Nat) (b : Nat → Nat) (t : Nat → Nat) (vn : Nat → Int32) (vf : Nat → UInt32) (vs : Nat → Int32) (vp : Nat → Int32) (vq : Nat → Int32) (vd : Nat → Int32) (vo : Nat → Int32) (un : Nat → Int32) (uf : Nat → UInt32) (us : Nat → Int32) (up : Nat → Int32) (uq : Nat → Int32) (ud : Nat → Int32) (uo : Nat → Int32) (tm : Nat → Int32) (tx : Nat → Int32) (hc : Nat → Int32) (hh : Nat → Sx) (ss : Nat → Sx) (sv : Nat → Int32)  (K : Int32 → ((Nat → Int32) × (Nat → UInt32) × (Nat → Int32) × (Nat → Int32) × (Nat → Sx)) → Prop) (h : vX6_retreat vn vf vs vp vq vd vo hc hh K) : Met l yX6_retreat (ws_ yX6_retreat cX6_retreat 1 (some .int)) ({ frames := 6, cells := 0, slots := 0, locals := 147 } : Room) (CP G cy [.ref (g 0)] (mo_W cy g a b t vn vf vs vp vq vd vo un uf us up uq ud uo tm tx hc hh ss sv)) (RI G K (fun u => mo_W cy g a b t u.1 u.2.1 vs vp vq vd u.2.2.1 un uf us up uq ud uo tm tx u.2.2.2.1 u.2.2.2.2 ss sv) (A1 (mo_W cy g a b t vn vf vs vp vq vd vo un uf us up uq ud uo tm tx hc hh ss sv))) 0 0 (A1 (mo_W cy g a b t vn vf vs vp vq vd vo un uf us up uq ud uo tm tx hc hh ss sv)) := by
  refine hd_go (Qf := fun A => (RI G K (fun u => mo_W cy g a b t u.1 u.2.1 vs vp vq vd u.2.2.1 un uf us up uq ud uo tm tx u.2.2.2.1 u.2.2.2.2 ss sv) A)) (by decide +kernel) (Nat.le_of_ble_eq_true rfl) ?_
  intro p e s m below meth c ls A hx hb hr hlocks S hE hP hD hS hl
  have hl : lv_has ls 1 [(0, .ref (g 0))] := hl
  unfold vX6_retreat at h
  refine lv_aload_n hx hb dX6_retreat_0 rfl (lv_at hl 0 rfl) ?_
  refine lv_bipush (v := (98 : Int32)) hx hb dX6_retreat_1 (by decide) ?_
  refine lv_iconst (v := (0 : Int32)) hx hb dX6_retreat_3 (by decide) ?_
  refine kc_Vi0 (As := [.int (98 : Int32), .int (0 : Int32)]) (rest := []) S hE (ctX6_actRecorded l G cy g a b t vn vf vs vp vq vd vo un uf us up uq ud uo tm tx hc hh ss sv (98 : Int32) (0 : Int32) _ h) q_14_0 q_14_1 q_14_2 q_1_2 q_14_3 rfl 0 rfl rfl ydX6_actRecorded ⟨⟨rfl, rfl⟩, ⟨Nat.le_of_ble_eq_true rfl, Nat.le_of_ble_eq_true rfl⟩⟩ ⟨Nat.zero_le _, Nat.zero_le _⟩ hP hD hS rfl hl.1 rfl (Nat.le_of_ble_eq_true rfl) dX6_retreat_4 (fun r_4 u_4 H locs h hP hD hS => ?_)
  exact W.iret (v := r_4) hx hb hr (fun t ht hW => ⟨⟨r_4, (u_4.1, u_4.2.1, u_4.2.2.1, u_4.2.2.2.1, u_4.2.2.2.2), rfl, h, ⟨hp_at ht hP, hD⟩⟩, hS.F ht⟩) hS.2.2 dX6_retreat_7
def vX6_open (vn : Nat → Int32) (vf : Nat → UInt32) (vs : Nat → Int32) (vp : Nat → Int32) (vq : Nat → Int32) (vd : Nat → Int32) (vo : Nat → Int32) (hc : Nat → Int32) (hh : Nat → Sx) (p1 : Int32) (K : Int32 → ((Nat → Int32) × (Nat → UInt32) × (Nat → Int32) × (Nat → Int32) × (Nat → Sx)) → Prop) : Prop :=
  vX6_actRecorded vn vf vs vp vq vd vo hc hh (111 : Int32) p1 (fun r_4 u_4 => K r_4 (u_4.1, u_4.2.1, u_4.2.2.1, u_4.2.2.2.1, u_4.2.2.2.2))
set_option maxRecDepth 100000 in
set_option maxHeartbeats 4000000 in
theorem ctX6_open (l : Launch) (G : va_G) (cy : Nat → ClassId) (g : Nat → Nat) (a : Nat → Nat) (b : Nat → Nat) (t : Nat → Nat) (vn : Nat → Int32) (vf : Nat → UInt32) (vs : Nat → Int32) (vp : Nat → Int32) (vq : Nat → Int32) (vd : Nat → Int32) (vo : Nat → Int32) (un : Nat → Int32) (uf : Nat → UInt32) (us : Nat → Int32) (up : Nat → Int32) (uq : Nat → Int32) (ud : Nat → Int32) (uo : Nat → Int32) (tm : Nat → Int32) (tx : Nat → Int32) (hc : Nat → Int32) (hh : Nat → Sx) (ss : Nat → Sx) (sv : Nat → Int32) (p1 : Int32) (K : Int32 → ((Nat → Int32) × (Nat → UInt32) × (Nat → Int32) × (Nat → Int32) × (Nat → Sx)) → Prop) (h : vX6_open vn vf vs vp vq vd vo hc hh p1 K) : Met l yX6_open (ws_ yX6_open cX6_open 2 (some .int)) ({ frames := 6, cells := 0, slots := 0, locals := 147 } : Room) (CP G cy [.ref (g 0), .int p1] (mo_W cy g a b t vn vf vs vp vq vd vo un uf us up uq ud uo tm tx hc hh ss sv)) (RI G K (fun u => mo_W cy g a b t u.1 u.2.1 vs vp vq vd u.2.2.1 un uf us up uq ud uo tm tx u.2.2.2.1 u.2.2.2.2 ss sv) (A1 (mo_W cy g a b t vn vf vs vp vq vd vo un uf us up uq ud uo tm tx hc hh ss sv))) 0 0 (A1 (mo_W cy g a b t vn vf vs vp vq vd vo un uf us up uq ud uo tm tx hc hh ss sv)) := by
  refine hd_go (Qf := fun A => (RI G K (fun u => mo_W cy g a b t u.1 u.2.1 vs vp vq vd u.2.2.1 un uf us up uq ud uo tm tx u.2.2.2.1 u.2.2.2.2 ss sv) A)) (by decide +kernel) (Nat.le_of_ble_eq_true rfl) ?_
  intro p e s m below meth c ls A hx hb hr hlocks S hE hP hD hS hl
  have hl : lv_has ls 2 [(0, .ref (g 0)), (1, .int p1)] := hl
  unfold vX6_open at h
  refine lv_aload_n hx hb dX6_open_0 rfl (lv_at hl 0 rfl) ?_
  refine lv_bipush (v := (111 : Int32)) hx hb dX6_open_1 (by decide) ?_
  refine lv_iload_n hx hb dX6_open_3 rfl (lv_at hl 1 rfl) ?_
  refine kc_Vi0 (As := [.int (111 : Int32), .int p1]) (rest := []) S hE (ctX6_actRecorded l G cy g a b t vn vf vs vp vq vd vo un uf us up uq ud uo tm tx hc hh ss sv (111 : Int32) p1 _ h) q_14_0 q_14_1 q_14_2 q_1_2 q_14_3 rfl 0 rfl rfl ydX6_actRecorded ⟨⟨rfl, rfl⟩, ⟨Nat.le_of_ble_eq_true rfl, Nat.le_of_ble_eq_true rfl⟩⟩ ⟨Nat.zero_le _, Nat.zero_le _⟩ hP hD hS rfl hl.1 rfl (Nat.le_of_ble_eq_true rfl) dX6_open_4 (fun r_4 u_4 H locs h hP hD hS => ?_)
  exact W.iret (v := r_4) hx hb hr (fun t ht hW => ⟨⟨r_4, (u_4.1, u_4.2.1, u_4.2.2.1, u_4.2.2.2.1, u_4.2.2.2.2), rfl, h, ⟨hp_at ht hP, hD⟩⟩, hS.F ht⟩) hS.2.2 dX6_open_7
def vX6_pass (vn : Nat → Int32) (vf : Nat → UInt32) (vs : Nat → Int32) (vp : Nat → Int32) (vq : Nat → Int32) (vd : Nat → Int32) (vo : Nat → Int32) (hc : Nat → Int32) (hh : Nat → Sx) (p1 : Int32) (K : Int32 → ((Nat → Int32) × (Nat → UInt32) × (Nat → Int32) × (Nat → Int32) × (Nat → Sx)) → Prop) : Prop :=
  vX6_actRecorded vn vf vs vp vq vd vo hc hh (116 : Int32) p1 (fun r_4 u_4 => K r_4 (u_4.1, u_4.2.1, u_4.2.2.1, u_4.2.2.2.1, u_4.2.2.2.2))
set_option maxRecDepth 100000 in
set_option maxHeartbeats 4000000 in
theorem ctX6_pass (l : Launch) (G : va_G) (cy : Nat → ClassId) (g : Nat → Nat) (a : Nat → Nat) (b : Nat → Nat) (t : Nat → Nat) (vn : Nat → Int32) (vf : Nat → UInt32) (vs : Nat → Int32) (vp : Nat → Int32) (vq : Nat → Int32) (vd : Nat → Int32) (vo : Nat → Int32) (un : Nat → Int32) (uf : Nat → UInt32) (us : Nat → Int32) (up : Nat → Int32) (uq : Nat → Int32) (ud : Nat → Int32) (uo : Nat → Int32) (tm : Nat → Int32) (tx : Nat → Int32) (hc : Nat → Int32) (hh : Nat → Sx) (ss : Nat → Sx) (sv : Nat → Int32) (p1 : Int32) (K : Int32 → ((Nat → Int32) × (Nat → UInt32) × (Nat → Int32) × (Nat → Int32) × (Nat → Sx)) → Prop) (h : vX6_pass vn vf vs vp vq vd vo hc hh p1 K) : Met l yX6_pass (ws_ yX6_pass cX6_pass 2 (some .int)) ({ frames := 6, cells := 0, slots := 0, locals := 147 } : Room) (CP G cy [.ref (g 0), .int p1] (mo_W cy g a b t vn vf vs vp vq vd vo un uf us up uq ud uo tm tx hc hh ss sv)) (RI G K (fun u => mo_W cy g a b t u.1 u.2.1 vs vp vq vd u.2.2.1 un uf us up uq ud uo tm tx u.2.2.2.1 u.2.2.2.2 ss sv) (A1 (mo_W cy g a b t vn vf vs vp vq vd vo un uf us up uq ud uo tm tx hc hh ss sv))) 0 0 (A1 (mo_W cy g a b t vn vf vs vp vq vd vo un uf us up uq ud uo tm tx hc hh ss sv)) := by
  refine hd_go (Qf := fun A => (RI G K (fun u => mo_W cy g a b t u.1 u.2.1 vs vp vq vd u.2.2.1 un uf us up uq ud uo tm tx u.2.2.2.1 u.2.2.2.2 ss sv) A)) (by decide +kernel) (Nat.le_of_ble_eq_true rfl) ?_
  intro p e s m below meth c ls A hx hb hr hlocks S hE hP hD hS hl
  have hl : lv_has ls 2 [(0, .ref (g 0)), (1, .int p1)] := hl
  unfold vX6_pass at h
  refine lv_aload_n hx hb dX6_pass_0 rfl (lv_at hl 0 rfl) ?_
  refine lv_bipush (v := (116 : Int32)) hx hb dX6_pass_1 (by decide) ?_
  refine lv_iload_n hx hb dX6_pass_3 rfl (lv_at hl 1 rfl) ?_
  refine kc_Vi0 (As := [.int (116 : Int32), .int p1]) (rest := []) S hE (ctX6_actRecorded l G cy g a b t vn vf vs vp vq vd vo un uf us up uq ud uo tm tx hc hh ss sv (116 : Int32) p1 _ h) q_14_0 q_14_1 q_14_2 q_1_2 q_14_3 rfl 0 rfl rfl ydX6_actRecorded ⟨⟨rfl, rfl⟩, ⟨Nat.le_of_ble_eq_true rfl, Nat.le_of_ble_eq_true rfl⟩⟩ ⟨Nat.zero_le _, Nat.zero_le _⟩ hP hD hS rfl hl.1 rfl (Nat.le_of_ble_eq_true rfl) dX6_pass_4 (fun r_4 u_4 H locs h hP hD hS => ?_)
  exact W.iret (v := r_4) hx hb hr (fun t ht hW => ⟨⟨r_4, (u_4.1, u_4.2.1, u_4.2.2.1, u_4.2.2.2.1, u_4.2.2.2.2), rfl, h, ⟨hp_at ht hP, hD⟩⟩, hS.F ht⟩) hS.2.2 dX6_pass_7
def vX6_undo (vn : Nat → Int32) (vf : Nat → UInt32) (vs : Nat → Int32) (vp : Nat → Int32) (vq : Nat → Int32) (vd : Nat → Int32) (vo : Nat → Int32) (hc : Nat → Int32) (hh : Nat → Sx) (K : Int32 → ((Nat → Int32) × (Nat → UInt32) × (Nat → Int32) × (Nat → Int32) × (Nat → Int32) × (Nat → Int32) × (Nat → Int32) × (Nat → Int32)) → Prop) : Prop :=
  ((1 : Int32) ≤ (hc 0) → tpre hc hh ∧ K ((upd hc 0 (hc 0 - 1)) 0) ((hh (Int32.toNatClampNeg (hc 0 - 1))).2.1, (hh (Int32.toNatClampNeg (hc 0 - 1))).2.2.1, (hh (Int32.toNatClampNeg (hc 0 - 1))).2.2.2.1, (hh (Int32.toNatClampNeg (hc 0 - 1))).2.2.2.2.1, (hh (Int32.toNatClampNeg (hc 0 - 1))).2.2.2.2.2.1, (hh (Int32.toNatClampNeg (hc 0 - 1))).2.2.2.2.2.2.1, (hh (Int32.toNatClampNeg (hc 0 - 1))).2.2.2.2.2.2.2, (upd hc 0 (hc 0 - 1)))) ∧ (¬ (1 : Int32) ≤ (hc 0) → K (-3 : Int32) (vn, vf, vs, vp, vq, vd, vo, hc))
set_option maxRecDepth 100000 in
set_option maxHeartbeats 4000000 in
theorem ctX6_undo (l : Launch) (G : va_G) (cy : Nat → ClassId) (g : Nat → Nat) (a : Nat → Nat) (b : Nat → Nat) (t : Nat → Nat) (vn : Nat → Int32) (vf : Nat → UInt32) (vs : Nat → Int32) (vp : Nat → Int32) (vq : Nat → Int32) (vd : Nat → Int32) (vo : Nat → Int32) (un : Nat → Int32) (uf : Nat → UInt32) (us : Nat → Int32) (up : Nat → Int32) (uq : Nat → Int32) (ud : Nat → Int32) (uo : Nat → Int32) (tm : Nat → Int32) (tx : Nat → Int32) (hc : Nat → Int32) (hh : Nat → Sx) (ss : Nat → Sx) (sv : Nat → Int32)  (K : Int32 → ((Nat → Int32) × (Nat → UInt32) × (Nat → Int32) × (Nat → Int32) × (Nat → Int32) × (Nat → Int32) × (Nat → Int32) × (Nat → Int32)) → Prop) (h : vX6_undo vn vf vs vp vq vd vo hc hh K) : Met l yX6_undo (ws_ yX6_undo cX6_undo 1 (some .int)) ({ frames := 5, cells := 0, slots := 0, locals := 124 } : Room) (CP G cy [.ref (g 0)] (mo_W cy g a b t vn vf vs vp vq vd vo un uf us up uq ud uo tm tx hc hh ss sv)) (RI G K (fun u => mo_W cy g a b t u.1 u.2.1 u.2.2.1 u.2.2.2.1 u.2.2.2.2.1 u.2.2.2.2.2.1 u.2.2.2.2.2.2.1 un uf us up uq ud uo tm tx u.2.2.2.2.2.2.2 hh ss sv) (A1 (mo_W cy g a b t vn vf vs vp vq vd vo un uf us up uq ud uo tm tx hc hh ss sv))) 0 0 (A1 (mo_W cy g a b t vn vf vs vp vq vd vo un uf us up uq ud uo tm tx hc hh ss sv)) := by
  refine hd_go (Qf := fun A => (RI G K (fun u => mo_W cy g a b t u.1 u.2.1 u.2.2.1 u.2.2.2.1 u.2.2.2.2.1 u.2.2.2.2.2.1 u.2.2.2.2.2.2.1 un uf us up uq ud uo tm tx u.2.2.2.2.2.2.2 hh ss sv) A)) (by decide +kernel) (Nat.le_of_ble_eq_true rfl) ?_
  intro p e s m below meth c ls A hx hb hr hlocks S hE hP hD hS hl
  have hl : lv_has ls 1 [(0, .ref (g 0))] := hl
  unfold vX6_undo at h
  refine lv_aload_n hx hb dX6_undo_0 rfl (lv_at hl 0 rfl) ?_
  refine kg (v := .ref (g 1)) S hE hP 0 rfl rfl 2 (by decide) q_1_17 rfl rfl inlX6 dX6_undo_1 ?_
  refine kg (v := .int (hc 0)) S hE hP 21 rfl rfl 0 (by decide) q_5_7 rfl rfl inlX1 dX6_undo_4 ?_
  refine lv_iconst (v := (1 : Int32)) hx hb dX6_undo_7 (by decide) ?_
  refine lv_icmp_ge (tgt := 14) hx hb dX6_undo_8 (by decide) (fun c_8 => ?_) (fun c_8 => ?_)
  · have h := h.1 c_8
    refine lv_aload_n hx hb dX6_undo_14 rfl (lv_at hl 0 rfl) ?_
    refine kg (v := .ref (g 1)) S hE hP 0 rfl rfl 2 (by decide) q_1_17 rfl rfl inlX6 dX6_undo_15 ?_
    refine lv_aload_n hx hb dX6_undo_18 rfl (lv_at hl 0 rfl) ?_
    refine kg (v := .ref (a 0)) S hE hP 0 rfl rfl 0 (by decide) q_1_12 rfl rfl inlX6 dX6_undo_19 ?_
    refine kc_Vv0 (As := [.ref (a 0)]) (rest := []) S hE (ctX1_takeLatest l G cy g a b t vn vf vs vp vq vd vo un uf us up uq ud uo tm tx hc hh ss sv h.1) q_18_20 q_18_21 q_18_22 q_1_16 q_18_23 rfl 21 rfl rfl ydX1_takeLatest ⟨⟨rfl, rfl⟩, ⟨Nat.le_of_ble_eq_true rfl, Nat.le_of_ble_eq_true rfl⟩⟩ ⟨Nat.zero_le _, Nat.zero_le _⟩ hP hD hS rfl hl.1 rfl (Nat.le_of_ble_eq_true rfl) dX6_undo_22 (fun u_22 H locs _ hP hD hS => ?_)
    have h := h.2
    have hP : va_P G vwCl (mo_W cy g a b t (hh (Int32.toNatClampNeg (hc 0 - 1))).2.1 (hh (Int32.toNatClampNeg (hc 0 - 1))).2.2.1 (hh (Int32.toNatClampNeg (hc 0 - 1))).2.2.2.1 (hh (Int32.toNatClampNeg (hc 0 - 1))).2.2.2.2.1 (hh (Int32.toNatClampNeg (hc 0 - 1))).2.2.2.2.2.1 (hh (Int32.toNatClampNeg (hc 0 - 1))).2.2.2.2.2.2.1 (hh (Int32.toNatClampNeg (hc 0 - 1))).2.2.2.2.2.2.2 un uf us up uq ud uo tm tx (upd hc 0 (hc 0 - 1)) hh ss sv) H := hP
    have hD : va_D A (mo_W cy g a b t (hh (Int32.toNatClampNeg (hc 0 - 1))).2.1 (hh (Int32.toNatClampNeg (hc 0 - 1))).2.2.1 (hh (Int32.toNatClampNeg (hc 0 - 1))).2.2.2.1 (hh (Int32.toNatClampNeg (hc 0 - 1))).2.2.2.2.1 (hh (Int32.toNatClampNeg (hc 0 - 1))).2.2.2.2.2.1 (hh (Int32.toNatClampNeg (hc 0 - 1))).2.2.2.2.2.2.1 (hh (Int32.toNatClampNeg (hc 0 - 1))).2.2.2.2.2.2.2 un uf us up uq ud uo tm tx (upd hc 0 (hc 0 - 1)) hh ss sv) := hD
    refine lv_aload_n hx hb dX6_undo_25 rfl (lv_at hl 0 rfl) ?_
    refine kg (v := .ref (g 1)) S hE hP 0 rfl rfl 2 (by decide) q_1_17 rfl rfl inlX6 dX6_undo_26 ?_
    refine kg (v := .int ((upd hc 0 (hc 0 - 1)) 0)) S hE hP 21 rfl rfl 0 (by decide) q_5_7 rfl rfl inlX1 dX6_undo_29 ?_
    exact W.iret (v := ((upd hc 0 (hc 0 - 1)) 0)) hx hb hr (fun t ht hW => ⟨⟨((upd hc 0 (hc 0 - 1)) 0), ((hh (Int32.toNatClampNeg (hc 0 - 1))).2.1, (hh (Int32.toNatClampNeg (hc 0 - 1))).2.2.1, (hh (Int32.toNatClampNeg (hc 0 - 1))).2.2.2.1, (hh (Int32.toNatClampNeg (hc 0 - 1))).2.2.2.2.1, (hh (Int32.toNatClampNeg (hc 0 - 1))).2.2.2.2.2.1, (hh (Int32.toNatClampNeg (hc 0 - 1))).2.2.2.2.2.2.1, (hh (Int32.toNatClampNeg (hc 0 - 1))).2.2.2.2.2.2.2, (upd hc 0 (hc 0 - 1))), rfl, h, ⟨hp_at ht hP, hD⟩⟩, hS.F ht⟩) hS.2.2 dX6_undo_32
  · have h := h.2 c_8
    refine lv_bipush (v := (-3 : Int32)) hx hb dX6_undo_11 (by decide) ?_
    exact W.iret (v := (-3 : Int32)) hx hb hr (fun t ht hW => ⟨⟨(-3 : Int32), (vn, vf, vs, vp, vq, vd, vo, hc), rfl, h, ⟨hp_at ht hP, hD⟩⟩, hS.F ht⟩) hS.2.2 dX6_undo_13
def vX6_save (vn : Nat → Int32) (vf : Nat → UInt32) (vs : Nat → Int32) (vp : Nat → Int32) (vq : Nat → Int32) (vd : Nat → Int32) (vo : Nat → Int32) (ss : Nat → Sx) (sv : Nat → Int32) (p1 : Int32) (K : Int32 → ((Nat → Sx) × (Nat → Int32)) → Prop) : Prop :=
  (p1 < (0 : Int32) → K (-1 : Int32) (ss, sv)) ∧ (¬ p1 < (0 : Int32) → (p1 < (2 : Int32) → vp_in p1 2 ∧ cpre vn vo ∧ vp_in p1 2 ∧ K (vn 0) ((hset ss (Int32.toNatClampNeg p1) (vn, vf, vs, vp, vq, vd, vo)), (upd sv (Int32.toNatClampNeg p1) (vp_nar .boolean (1 : Int32))))) ∧ (¬ p1 < (2 : Int32) → K (-1 : Int32) (ss, sv)))
set_option maxRecDepth 100000 in
set_option maxHeartbeats 4000000 in
theorem ctX6_save (l : Launch) (G : va_G) (cy : Nat → ClassId) (g : Nat → Nat) (a : Nat → Nat) (b : Nat → Nat) (t : Nat → Nat) (vn : Nat → Int32) (vf : Nat → UInt32) (vs : Nat → Int32) (vp : Nat → Int32) (vq : Nat → Int32) (vd : Nat → Int32) (vo : Nat → Int32) (un : Nat → Int32) (uf : Nat → UInt32) (us : Nat → Int32) (up : Nat → Int32) (uq : Nat → Int32) (ud : Nat → Int32) (uo : Nat → Int32) (tm : Nat → Int32) (tx : Nat → Int32) (hc : Nat → Int32) (hh : Nat → Sx) (ss : Nat → Sx) (sv : Nat → Int32) (p1 : Int32) (K : Int32 → ((Nat → Sx) × (Nat → Int32)) → Prop) (h : vX6_save vn vf vs vp vq vd vo ss sv p1 K) : Met l yX6_save (ws_ yX6_save cX6_save 2 (some .int)) ({ frames := 3, cells := 0, slots := 0, locals := 82 } : Room) (CP G cy [.ref (g 0), .int p1] (mo_W cy g a b t vn vf vs vp vq vd vo un uf us up uq ud uo tm tx hc hh ss sv)) (RI G K (fun u => mo_W cy g a b t vn vf vs vp vq vd vo un uf us up uq ud uo tm tx hc hh u.1 u.2) (A1 (mo_W cy g a b t vn vf vs vp vq vd vo un uf us up uq ud uo tm tx hc hh ss sv))) 0 0 (A1 (mo_W cy g a b t vn vf vs vp vq vd vo un uf us up uq ud uo tm tx hc hh ss sv)) := by
  refine hd_go (Qf := fun A => (RI G K (fun u => mo_W cy g a b t vn vf vs vp vq vd vo un uf us up uq ud uo tm tx hc hh u.1 u.2) A)) (by decide +kernel) (Nat.le_of_ble_eq_true rfl) ?_
  intro p e s m below meth c ls A hx hb hr hlocks S hE hP hD hS hl
  have hl : lv_has ls 2 [(0, .ref (g 0)), (1, .int p1)] := hl
  unfold vX6_save at h
  refine lv_iload_n hx hb dX6_save_0 rfl (lv_at hl 1 rfl) ?_
  refine lv_if_lt (tgt := 9) hx hb dX6_save_1 (by decide) (fun c_1 => ?_) (fun c_1 => ?_)
  · have h := h.1 c_1
    refine lv_iconst (v := (-1 : Int32)) hx hb dX6_save_9 (by decide) ?_
    exact W.iret (v := (-1 : Int32)) hx hb hr (fun t ht hW => ⟨⟨(-1 : Int32), (ss, sv), rfl, h, ⟨hp_at ht hP, hD⟩⟩, hS.F ht⟩) hS.2.2 dX6_save_10
  · have h := h.2 c_1
    refine lv_iload_n hx hb dX6_save_4 rfl (lv_at hl 1 rfl) ?_
    refine lv_iconst (v := (2 : Int32)) hx hb dX6_save_5 (by decide) ?_
    refine lv_icmp_lt (tgt := 11) hx hb dX6_save_6 (by decide) (fun c_6 => ?_) (fun c_6 => ?_)
    · have h := h.1 c_6
      refine lv_aload_n hx hb dX6_save_11 rfl (lv_at hl 0 rfl) ?_
      refine kg (v := .ref (g 3)) S hE hP 0 rfl rfl 3 (by decide) q_1_18 rfl rfl inlX6 dX6_save_12 ?_
      refine lv_iload_n hx hb dX6_save_15 rfl (lv_at hl 1 rfl) ?_
      have hin := h.1
      refine va_aldq hx hb hE.1 hP 68 4 rfl rfl (i := p1) hin dX6_save_16 ?_
      have h := h.2
      refine W.eq (g2 := F0 m 17 ls [.ref ((ss (Int32.toNatClampNeg p1)).1 0)]) rfl ?_
      refine lv_aload_n hx hb dX6_save_17 rfl (lv_at hl 0 rfl) ?_
      refine kg (v := .ref (a 0)) S hE hP 0 rfl rfl 0 (by decide) q_1_12 rfl rfl inlX6 dX6_save_18 ?_
      have q1 := so_perm (cy := cy) g a b t vn vf vs vp vq vd vo un uf us up uq ud uo tm tx hc hh ss sv (fun j => some ((ss j).1 0)) (vin_lt hin) (ss (Int32.toNatClampNeg p1)).2
      rw [hset_self] at q1
      have q2 := so_perm (cy := cy) g a b t vn vf vs vp vq vd vo un uf us up uq ud uo tm tx hc hh ss sv (fun j => some ((hset ss (Int32.toNatClampNeg p1) (vn, vf, vs, vp, vq, vd, vo) j).1 0)) (vin_lt hin) (vn, vf, vs, vp, vq, vd, vo)
      have e3 : (fun j => some ((hset ss (Int32.toNatClampNeg p1) (vn, vf, vs, vp, vq, vd, vo) j).1 0)) = fun j => some ((ss j).1 0) := by funext j; rw [hset_1]
      rw [e3] at q2
      refine kc_copy S hE h.1 q_18_12 q1 q2.symm hP hD hS ⟨Nat.le_of_ble_eq_true rfl, Nat.le_of_ble_eq_true rfl⟩ ⟨Nat.zero_le _, Nat.zero_le _⟩ hl.1 (Nat.le_of_ble_eq_true rfl) dX6_save_21 (fun H locs hP hD hS => ?_)
      rw [← e3] at hP hD
      have h := h.2
      have hP : va_P G vwCl (mo_W cy g a b t vn vf vs vp vq vd vo un uf us up uq ud uo tm tx hc hh (hset ss (Int32.toNatClampNeg p1) (vn, vf, vs, vp, vq, vd, vo)) sv) H := hP
      have hD : va_D A (mo_W cy g a b t vn vf vs vp vq vd vo un uf us up uq ud uo tm tx hc hh (hset ss (Int32.toNatClampNeg p1) (vn, vf, vs, vp, vq, vd, vo)) sv) := hD
      refine lv_aload_n hx hb dX6_save_24 rfl (lv_at hl 0 rfl) ?_
      refine kg (v := .ref (g 4)) S hE hP 0 rfl rfl 4 (by decide) q_1_20 rfl rfl inlX6 dX6_save_25 ?_
      refine lv_iload_n hx hb dX6_save_28 rfl (lv_at hl 1 rfl) ?_
      refine lv_iconst (v := (1 : Int32)) hx hb dX6_save_29 (by decide) ?_
      refine kazs S hE hP hD hS 69 rfl h.1 rfl dX6_save_30 (fun H locs hP hD hS => ?_)
      have h := h.2
      have hP : va_P G vwCl (mo_W cy g a b t vn vf vs vp vq vd vo un uf us up uq ud uo tm tx hc hh (hset ss (Int32.toNatClampNeg p1) (vn, vf, vs, vp, vq, vd, vo)) (upd sv (Int32.toNatClampNeg p1) (vp_nar .boolean (1 : Int32)))) H := hP
      have hD : va_D A (mo_W cy g a b t vn vf vs vp vq vd vo un uf us up uq ud uo tm tx hc hh (hset ss (Int32.toNatClampNeg p1) (vn, vf, vs, vp, vq, vd, vo)) (upd sv (Int32.toNatClampNeg p1) (vp_nar .boolean (1 : Int32)))) := hD
      refine lv_aload_n hx hb dX6_save_31 rfl (lv_at hl 0 rfl) ?_
      refine kg (v := .ref (a 0)) S hE hP 0 rfl rfl 0 (by decide) q_1_12 rfl rfl inlX6 dX6_save_32 ?_
      refine kg (v := .int (vn 0)) S hE hP 10 rfl rfl 4 (by decide) q_4_20 rfl rfl inlX4 dX6_save_35 ?_
      exact W.iret (v := (vn 0)) hx hb hr (fun t ht hW => ⟨⟨(vn 0), ((hset ss (Int32.toNatClampNeg p1) (vn, vf, vs, vp, vq, vd, vo)), (upd sv (Int32.toNatClampNeg p1) (vp_nar .boolean (1 : Int32)))), rfl, h, ⟨hp_at ht hP, hD⟩⟩, hS.F ht⟩) hS.2.2 dX6_save_38
    · have h := h.2 c_6
      refine lv_iconst (v := (-1 : Int32)) hx hb dX6_save_9 (by decide) ?_
      exact W.iret (v := (-1 : Int32)) hx hb hr (fun t ht hW => ⟨⟨(-1 : Int32), (ss, sv), rfl, h, ⟨hp_at ht hP, hD⟩⟩, hS.F ht⟩) hS.2.2 dX6_save_10
def vX6_restore (vn : Nat → Int32) (vf : Nat → UInt32) (vs : Nat → Int32) (vp : Nat → Int32) (vq : Nat → Int32) (vd : Nat → Int32) (vo : Nat → Int32) (hc : Nat → Int32) (hh : Nat → Sx) (ss : Nat → Sx) (sv : Nat → Int32) (p1 : Int32) (K : Int32 → ((Nat → Int32) × (Nat → UInt32) × (Nat → Int32) × (Nat → Int32) × (Nat → Int32) × (Nat → Int32) × (Nat → Int32) × (Nat → Int32) × (Nat → Sx)) → Prop) : Prop :=
  (p1 < (0 : Int32) → K (-1 : Int32) (vn, vf, vs, vp, vq, vd, vo, hc, hh)) ∧ (¬ p1 < (0 : Int32) → (p1 < (2 : Int32) → vp_in p1 2 ∧ (¬ (sv (Int32.toNatClampNeg p1)) = (0 : Int32) → kpre vn vo hc ∧ vp_in p1 2 ∧ cpre (ss (Int32.toNatClampNeg p1)).2.1 (ss (Int32.toNatClampNeg p1)).2.2.2.2.2.2.2 ∧ K ((ss (Int32.toNatClampNeg p1)).2.1 0) ((ss (Int32.toNatClampNeg p1)).2.1, (ss (Int32.toNatClampNeg p1)).2.2.1, (ss (Int32.toNatClampNeg p1)).2.2.2.1, (ss (Int32.toNatClampNeg p1)).2.2.2.2.1, (ss (Int32.toNatClampNeg p1)).2.2.2.2.2.1, (ss (Int32.toNatClampNeg p1)).2.2.2.2.2.2.1, (ss (Int32.toNatClampNeg p1)).2.2.2.2.2.2.2, (hck hc), (hhk hc hh (vn, vf, vs, vp, vq, vd, vo)))) ∧ ((sv (Int32.toNatClampNeg p1)) = (0 : Int32) → K (-3 : Int32) (vn, vf, vs, vp, vq, vd, vo, hc, hh))) ∧ (¬ p1 < (2 : Int32) → K (-1 : Int32) (vn, vf, vs, vp, vq, vd, vo, hc, hh)))
set_option maxRecDepth 100000 in
set_option maxHeartbeats 4000000 in
theorem ctX6_restore (l : Launch) (G : va_G) (cy : Nat → ClassId) (g : Nat → Nat) (a : Nat → Nat) (b : Nat → Nat) (t : Nat → Nat) (vn : Nat → Int32) (vf : Nat → UInt32) (vs : Nat → Int32) (vp : Nat → Int32) (vq : Nat → Int32) (vd : Nat → Int32) (vo : Nat → Int32) (un : Nat → Int32) (uf : Nat → UInt32) (us : Nat → Int32) (up : Nat → Int32) (uq : Nat → Int32) (ud : Nat → Int32) (uo : Nat → Int32) (tm : Nat → Int32) (tx : Nat → Int32) (hc : Nat → Int32) (hh : Nat → Sx) (ss : Nat → Sx) (sv : Nat → Int32) (p1 : Int32) (K : Int32 → ((Nat → Int32) × (Nat → UInt32) × (Nat → Int32) × (Nat → Int32) × (Nat → Int32) × (Nat → Int32) × (Nat → Int32) × (Nat → Int32) × (Nat → Sx)) → Prop) (h : vX6_restore vn vf vs vp vq vd vo hc hh ss sv p1 K) : Met l yX6_restore (ws_ yX6_restore cX6_restore 2 (some .int)) ({ frames := 5, cells := 0, slots := 0, locals := 124 } : Room) (CP G cy [.ref (g 0), .int p1] (mo_W cy g a b t vn vf vs vp vq vd vo un uf us up uq ud uo tm tx hc hh ss sv)) (RI G K (fun u => mo_W cy g a b t u.1 u.2.1 u.2.2.1 u.2.2.2.1 u.2.2.2.2.1 u.2.2.2.2.2.1 u.2.2.2.2.2.2.1 un uf us up uq ud uo tm tx u.2.2.2.2.2.2.2.1 u.2.2.2.2.2.2.2.2 ss sv) (A1 (mo_W cy g a b t vn vf vs vp vq vd vo un uf us up uq ud uo tm tx hc hh ss sv))) 0 0 (A1 (mo_W cy g a b t vn vf vs vp vq vd vo un uf us up uq ud uo tm tx hc hh ss sv)) := by
  refine hd_go (Qf := fun A => (RI G K (fun u => mo_W cy g a b t u.1 u.2.1 u.2.2.1 u.2.2.2.1 u.2.2.2.2.1 u.2.2.2.2.2.1 u.2.2.2.2.2.2.1 un uf us up uq ud uo tm tx u.2.2.2.2.2.2.2.1 u.2.2.2.2.2.2.2.2 ss sv) A)) (by decide +kernel) (Nat.le_of_ble_eq_true rfl) ?_
  intro p e s m below meth c ls A hx hb hr hlocks S hE hP hD hS hl
  have hl : lv_has ls 2 [(0, .ref (g 0)), (1, .int p1)] := hl
  unfold vX6_restore at h
  refine lv_iload_n hx hb dX6_restore_0 rfl (lv_at hl 1 rfl) ?_
  refine lv_if_lt (tgt := 9) hx hb dX6_restore_1 (by decide) (fun c_1 => ?_) (fun c_1 => ?_)
  · have h := h.1 c_1
    refine lv_iconst (v := (-1 : Int32)) hx hb dX6_restore_9 (by decide) ?_
    exact W.iret (v := (-1 : Int32)) hx hb hr (fun t ht hW => ⟨⟨(-1 : Int32), (vn, vf, vs, vp, vq, vd, vo, hc, hh), rfl, h, ⟨hp_at ht hP, hD⟩⟩, hS.F ht⟩) hS.2.2 dX6_restore_10
  · have h := h.2 c_1
    refine lv_iload_n hx hb dX6_restore_4 rfl (lv_at hl 1 rfl) ?_
    refine lv_iconst (v := (2 : Int32)) hx hb dX6_restore_5 (by decide) ?_
    refine lv_icmp_lt (tgt := 11) hx hb dX6_restore_6 (by decide) (fun c_6 => ?_) (fun c_6 => ?_)
    · have h := h.1 c_6
      refine lv_aload_n hx hb dX6_restore_11 rfl (lv_at hl 0 rfl) ?_
      refine kg (v := .ref (g 4)) S hE hP 0 rfl rfl 4 (by decide) q_1_20 rfl rfl inlX6 dX6_restore_12 ?_
      refine lv_iload_n hx hb dX6_restore_15 rfl (lv_at hl 1 rfl) ?_
      refine kazl (v := (sv (Int32.toNatClampNeg p1))) S hE hP 69 rfl h.1 rfl rfl dX6_restore_16 ?_
      have h := h.2
      refine lv_if_ne (tgt := 23) hx hb dX6_restore_17 (by decide) (fun c_17 => ?_) (fun c_17 => ?_)
      · have h := h.1 c_17
        refine lv_aload_n hx hb dX6_restore_23 rfl (lv_at hl 0 rfl) ?_
        refine kg (v := .ref (g 1)) S hE hP 0 rfl rfl 2 (by decide) q_1_17 rfl rfl inlX6 dX6_restore_24 ?_
        refine lv_aload_n hx hb dX6_restore_27 rfl (lv_at hl 0 rfl) ?_
        refine kg (v := .ref (a 0)) S hE hP 0 rfl rfl 0 (by decide) q_1_12 rfl rfl inlX6 dX6_restore_28 ?_
        refine kc_Vv0 (As := [.ref (a 0)]) (rest := []) S hE (ctX1_keep l G cy g a b t vn vf vs vp vq vd vo un uf us up uq ud uo tm tx hc hh ss sv h.1) q_10_11 q_10_12 q_10_13 q_1_16 q_10_14 rfl 21 rfl rfl ydX1_keep ⟨⟨rfl, rfl⟩, ⟨Nat.le_of_ble_eq_true rfl, Nat.le_of_ble_eq_true rfl⟩⟩ ⟨Nat.zero_le _, Nat.zero_le _⟩ hP hD hS rfl hl.1 rfl (Nat.le_of_ble_eq_true rfl) dX6_restore_31 (fun u_31 H locs _ hP hD hS => ?_)
        have h := h.2
        have hP : va_P G vwCl (mo_W cy g a b t vn vf vs vp vq vd vo un uf us up uq ud uo tm tx (hck hc) (hhk hc hh (vn, vf, vs, vp, vq, vd, vo)) ss sv) H := hP
        have hD : va_D A (mo_W cy g a b t vn vf vs vp vq vd vo un uf us up uq ud uo tm tx (hck hc) (hhk hc hh (vn, vf, vs, vp, vq, vd, vo)) ss sv) := hD
        refine lv_aload_n hx hb dX6_restore_34 rfl (lv_at hl 0 rfl) ?_
        refine kg (v := .ref (a 0)) S hE hP 0 rfl rfl 0 (by decide) q_1_12 rfl rfl inlX6 dX6_restore_35 ?_
        refine lv_aload_n hx hb dX6_restore_38 rfl (lv_at hl 0 rfl) ?_
        refine kg (v := .ref (g 3)) S hE hP 0 rfl rfl 3 (by decide) q_1_18 rfl rfl inlX6 dX6_restore_39 ?_
        refine lv_iload_n hx hb dX6_restore_42 rfl (lv_at hl 1 rfl) ?_
        have hin := h.1
        refine va_aldq hx hb hE.1 hP 68 4 rfl rfl (i := p1) hin dX6_restore_43 ?_
        have h := h.2
        refine W.eq (g2 := F0 m 44 ls [.ref ((ss (Int32.toNatClampNeg p1)).1 0), .ref (a 0)]) rfl ?_
        have q1 := so_perm2 (cy := cy) g a b t vn vf vs vp vq vd vo un uf us up uq ud uo tm tx (hck hc) (hhk hc hh (vn, vf, vs, vp, vq, vd, vo)) ss sv (fun j => some ((ss j).1 0)) (vin_lt hin)
        have q2 := so_perm2 (cy := cy) g a b t (ss (Int32.toNatClampNeg p1)).2.1 (ss (Int32.toNatClampNeg p1)).2.2.1 (ss (Int32.toNatClampNeg p1)).2.2.2.1 (ss (Int32.toNatClampNeg p1)).2.2.2.2.1 (ss (Int32.toNatClampNeg p1)).2.2.2.2.2.1 (ss (Int32.toNatClampNeg p1)).2.2.2.2.2.2.1 (ss (Int32.toNatClampNeg p1)).2.2.2.2.2.2.2 un uf us up uq ud uo tm tx (hck hc) (hhk hc hh (vn, vf, vs, vp, vq, vd, vo)) ss sv (fun j => some ((ss j).1 0)) (vin_lt hin)
        refine kc_copy S hE h.1 q_18_12 q1 q2.symm hP hD hS ⟨Nat.le_of_ble_eq_true rfl, Nat.le_of_ble_eq_true rfl⟩ ⟨Nat.zero_le _, Nat.zero_le _⟩ hl.1 (Nat.le_of_ble_eq_true rfl) dX6_restore_44 (fun H locs hP hD hS => ?_)
        have h := h.2
        have hP : va_P G vwCl (mo_W cy g a b t (ss (Int32.toNatClampNeg p1)).2.1 (ss (Int32.toNatClampNeg p1)).2.2.1 (ss (Int32.toNatClampNeg p1)).2.2.2.1 (ss (Int32.toNatClampNeg p1)).2.2.2.2.1 (ss (Int32.toNatClampNeg p1)).2.2.2.2.2.1 (ss (Int32.toNatClampNeg p1)).2.2.2.2.2.2.1 (ss (Int32.toNatClampNeg p1)).2.2.2.2.2.2.2 un uf us up uq ud uo tm tx (hck hc) (hhk hc hh (vn, vf, vs, vp, vq, vd, vo)) ss sv) H := hP
        have hD : va_D A (mo_W cy g a b t (ss (Int32.toNatClampNeg p1)).2.1 (ss (Int32.toNatClampNeg p1)).2.2.1 (ss (Int32.toNatClampNeg p1)).2.2.2.1 (ss (Int32.toNatClampNeg p1)).2.2.2.2.1 (ss (Int32.toNatClampNeg p1)).2.2.2.2.2.1 (ss (Int32.toNatClampNeg p1)).2.2.2.2.2.2.1 (ss (Int32.toNatClampNeg p1)).2.2.2.2.2.2.2 un uf us up uq ud uo tm tx (hck hc) (hhk hc hh (vn, vf, vs, vp, vq, vd, vo)) ss sv) := hD
        refine lv_aload_n hx hb dX6_restore_47 rfl (lv_at hl 0 rfl) ?_
        refine kg (v := .ref (a 0)) S hE hP 0 rfl rfl 0 (by decide) q_1_12 rfl rfl inlX6 dX6_restore_48 ?_
        refine kg (v := .int ((ss (Int32.toNatClampNeg p1)).2.1 0)) S hE hP 10 rfl rfl 4 (by decide) q_4_20 rfl rfl inlX4 dX6_restore_51 ?_
        exact W.iret (v := ((ss (Int32.toNatClampNeg p1)).2.1 0)) hx hb hr (fun t ht hW => ⟨⟨((ss (Int32.toNatClampNeg p1)).2.1 0), ((ss (Int32.toNatClampNeg p1)).2.1, (ss (Int32.toNatClampNeg p1)).2.2.1, (ss (Int32.toNatClampNeg p1)).2.2.2.1, (ss (Int32.toNatClampNeg p1)).2.2.2.2.1, (ss (Int32.toNatClampNeg p1)).2.2.2.2.2.1, (ss (Int32.toNatClampNeg p1)).2.2.2.2.2.2.1, (ss (Int32.toNatClampNeg p1)).2.2.2.2.2.2.2, (hck hc), (hhk hc hh (vn, vf, vs, vp, vq, vd, vo))), rfl, h, ⟨hp_at ht hP, hD⟩⟩, hS.F ht⟩) hS.2.2 dX6_restore_54
      · have h := h.2 c_17
        refine lv_bipush (v := (-3 : Int32)) hx hb dX6_restore_20 (by decide) ?_
        exact W.iret (v := (-3 : Int32)) hx hb hr (fun t ht hW => ⟨⟨(-3 : Int32), (vn, vf, vs, vp, vq, vd, vo, hc, hh), rfl, h, ⟨hp_at ht hP, hD⟩⟩, hS.F ht⟩) hS.2.2 dX6_restore_22
    · have h := h.2 c_6
      refine lv_iconst (v := (-1 : Int32)) hx hb dX6_restore_9 (by decide) ?_
      exact W.iret (v := (-1 : Int32)) hx hb hr (fun t ht hW => ⟨⟨(-1 : Int32), (vn, vf, vs, vp, vq, vd, vo, hc, hh), rfl, h, ⟨hp_at ht hP, hD⟩⟩, hS.F ht⟩) hS.2.2 dX6_restore_10
def vX6_numberOfShip (vn : Nat → Int32) (vf : Nat → UInt32) (vp : Nat → Int32) (vq : Nat → Int32) (p1 : Int32) (K : UInt32 → Unit → Prop) : Prop :=
  (p1 = (1 : Int32) → K (vf 1) ()) ∧ (¬ p1 = (1 : Int32) → (p1 = (2 : Int32) → K (vf 2) ()) ∧ (¬ p1 = (2 : Int32) → (p1 = (3 : Int32) → K (vf 3) ()) ∧ (¬ p1 = (3 : Int32) → (p1 = (4 : Int32) → vX3_measured vn (vf 0) (fun r_84 u_84 => K r_84 ())) ∧ (¬ p1 = (4 : Int32) → (p1 = (5 : Int32) → vX3_measured vn (vf 0) (fun r_103 u_103 => vX2_limitAt vn vp vq r_103 (fun r_106 u_106 => K r_106 ()))) ∧ (¬ p1 = (5 : Int32) → (p1 = (6 : Int32) → vX3_farMeasured vn (vf 0) (fun r_118 u_118 => K r_118 ())) ∧ (¬ p1 = (6 : Int32) → (p1 = (7 : Int32) → vX3_nearMeasured vn (vf 0) (fun r_130 u_130 => K r_130 ())) ∧ (¬ p1 = (7 : Int32) → K (vf 0) ())))))))
set_option maxRecDepth 100000 in
set_option maxHeartbeats 4000000 in
theorem ctX6_numberOfShip (l : Launch) (G : va_G) (cy : Nat → ClassId) (g : Nat → Nat) (a : Nat → Nat) (b : Nat → Nat) (t : Nat → Nat) (vn : Nat → Int32) (vf : Nat → UInt32) (vs : Nat → Int32) (vp : Nat → Int32) (vq : Nat → Int32) (vd : Nat → Int32) (vo : Nat → Int32) (un : Nat → Int32) (uf : Nat → UInt32) (us : Nat → Int32) (up : Nat → Int32) (uq : Nat → Int32) (ud : Nat → Int32) (uo : Nat → Int32) (tm : Nat → Int32) (tx : Nat → Int32) (hc : Nat → Int32) (hh : Nat → Sx) (ss : Nat → Sx) (sv : Nat → Int32) (p1 : Int32) (K : UInt32 → Unit → Prop) (h : vX6_numberOfShip vn vf vp vq p1 K) : Met l yX6_numberOfShip (ws_ yX6_numberOfShip cX6_numberOfShip 3 (some .float)) ({ frames := 2, cells := 0, slots := 0, locals := 42 } : Room) (CP G cy [.ref (g 0), .int p1] (mo_W cy g a b t vn vf vs vp vq vd vo un uf us up uq ud uo tm tx hc hh ss sv)) (RF G K (fun u => mo_W cy g a b t vn vf vs vp vq vd vo un uf us up uq ud uo tm tx hc hh ss sv) (A1 (mo_W cy g a b t vn vf vs vp vq vd vo un uf us up uq ud uo tm tx hc hh ss sv))) 0 0 (A1 (mo_W cy g a b t vn vf vs vp vq vd vo un uf us up uq ud uo tm tx hc hh ss sv)) := by
  refine hd_go (Qf := fun A => (RF G K (fun u => mo_W cy g a b t vn vf vs vp vq vd vo un uf us up uq ud uo tm tx hc hh ss sv) A)) (by decide +kernel) (Nat.le_of_ble_eq_true rfl) ?_
  intro p e s m below meth c ls A hx hb hr hlocks S hE hP hD hS hl
  have hl : lv_has ls 3 [(0, .ref (g 0)), (1, .int p1)] := hl
  unfold vX6_numberOfShip at h
  refine lv_aload_n hx hb dX6_numberOfShip_0 rfl (lv_at hl 0 rfl) ?_
  refine kg (v := .ref (a 0)) S hE hP 0 rfl rfl 0 (by decide) q_1_12 rfl rfl inlX6 dX6_numberOfShip_1 ?_
  refine kg (v := .ref (a 8)) S hE hP 10 rfl rfl 13 (by decide) q_4_23 rfl rfl inlX4 dX6_numberOfShip_4 ?_
  refine lv_astore_n (lv' := [(2, .ref (a 8)), (0, .ref (g 0)), (1, .int p1)]) hx hb dX6_numberOfShip_7 rfl hl (by decide) rfl (fun ls hl => ?_)
  refine lv_iload_n hx hb dX6_numberOfShip_8 rfl (lv_at hl 2 rfl) ?_
  rcases Classical.em (p1 = (1 : Int32)) with c_9_0 | c_9_0
  · have h := h.1 c_9_0
    refine lv_tableIn (tgt := 52) hx hb dX6_numberOfShip_9 (by rw [c_9_0]; decide) (by rw [c_9_0]; decide) (by rw [c_9_0]; try rfl) (by decide) ?_
    refine lv_aload_n hx hb dX6_numberOfShip_52 rfl (lv_at hl 1 rfl) ?_
    refine kg (v := .ref (a 0)) S hE hP 0 rfl rfl 0 (by decide) q_1_12 rfl rfl inlX6 dX6_numberOfShip_53 ?_
    refine kg (v := .float (vf 1)) S hE hP 10 rfl rfl 1 (by decide) q_6_14 rfl rfl inlX4 dX6_numberOfShip_56 ?_
    exact W.fret (v := (vf 1)) hx hb hr (fun t ht hW => ⟨⟨(vf 1), (), rfl, h, ⟨hp_at ht hP, hD⟩⟩, hS.F ht⟩) hS.2.2 dX6_numberOfShip_59
  · have h := h.2 c_9_0
    rcases Classical.em (p1 = (2 : Int32)) with c_9_1 | c_9_1
    · have h := h.1 c_9_1
      refine lv_tableIn (tgt := 60) hx hb dX6_numberOfShip_9 (by rw [c_9_1]; decide) (by rw [c_9_1]; decide) (by rw [c_9_1]; try rfl) (by decide) ?_
      refine lv_aload_n hx hb dX6_numberOfShip_60 rfl (lv_at hl 1 rfl) ?_
      refine kg (v := .ref (a 0)) S hE hP 0 rfl rfl 0 (by decide) q_1_12 rfl rfl inlX6 dX6_numberOfShip_61 ?_
      refine kg (v := .float (vf 2)) S hE hP 10 rfl rfl 2 (by decide) q_6_15 rfl rfl inlX4 dX6_numberOfShip_64 ?_
      exact W.fret (v := (vf 2)) hx hb hr (fun t ht hW => ⟨⟨(vf 2), (), rfl, h, ⟨hp_at ht hP, hD⟩⟩, hS.F ht⟩) hS.2.2 dX6_numberOfShip_67
    · have h := h.2 c_9_1
      rcases Classical.em (p1 = (3 : Int32)) with c_9_2 | c_9_2
      · have h := h.1 c_9_2
        refine lv_tableIn (tgt := 68) hx hb dX6_numberOfShip_9 (by rw [c_9_2]; decide) (by rw [c_9_2]; decide) (by rw [c_9_2]; try rfl) (by decide) ?_
        refine lv_aload_n hx hb dX6_numberOfShip_68 rfl (lv_at hl 1 rfl) ?_
        refine kg (v := .ref (a 0)) S hE hP 0 rfl rfl 0 (by decide) q_1_12 rfl rfl inlX6 dX6_numberOfShip_69 ?_
        refine kg (v := .float (vf 3)) S hE hP 10 rfl rfl 3 (by decide) q_6_16 rfl rfl inlX4 dX6_numberOfShip_72 ?_
        exact W.fret (v := (vf 3)) hx hb hr (fun t ht hW => ⟨⟨(vf 3), (), rfl, h, ⟨hp_at ht hP, hD⟩⟩, hS.F ht⟩) hS.2.2 dX6_numberOfShip_75
      · have h := h.2 c_9_2
        rcases Classical.em (p1 = (4 : Int32)) with c_9_3 | c_9_3
        · have h := h.1 c_9_3
          refine lv_tableIn (tgt := 76) hx hb dX6_numberOfShip_9 (by rw [c_9_3]; decide) (by rw [c_9_3]; decide) (by rw [c_9_3]; try rfl) (by decide) ?_
          refine lv_aload_n hx hb dX6_numberOfShip_76 rfl (lv_at hl 0 rfl) ?_
          refine lv_aload_n hx hb dX6_numberOfShip_77 rfl (lv_at hl 1 rfl) ?_
          refine kg (v := .ref (a 0)) S hE hP 0 rfl rfl 0 (by decide) q_1_12 rfl rfl inlX6 dX6_numberOfShip_78 ?_
          refine kg (v := .float (vf 0)) S hE hP 10 rfl rfl 0 (by decide) q_5_3 rfl rfl inlX4 dX6_numberOfShip_81 ?_
          refine kc_Vf (L := (((g 0, .inr (6, [.ref (a 0), .ref (b 0), .ref (g 1), .ref (g 3), .ref (g 4), .ref (t 0)])) : Nat × va_E) :: st_W cy b un uf us up uq ud uo)) (w0 := st_W cy a vn vf vs vp vq vd vo) (R' := (tx_W cy t tm tx ++ (hr_W cy g hc (fun j => some ((hh j).1 0)) hh ++ tl_W cy g ss sv))) (As := [.float (vf 0)]) (rest := []) S hE (ctX3_measured l G cy a vn vf vs vp vq vd vo (vf 0) _ h) q_6_17 q_6_18 q_6_19 q_3_0 q_6_20 rfl 8 rfl rfl ydX3_measured ⟨⟨rfl, rfl⟩, ⟨Nat.le_of_ble_eq_true rfl, Nat.le_of_ble_eq_true rfl⟩⟩ ⟨Nat.zero_le _, Nat.zero_le _⟩ hP hD hS rfl hl.1 rfl (Nat.le_of_ble_eq_true rfl) dX6_numberOfShip_84 (fun r_84 u_84 H locs h hP hD hS => ?_)
          have hP : va_P G vwCl (mo_W cy g a b t vn vf vs vp vq vd vo un uf us up uq ud uo tm tx hc hh ss sv) H := hP
          have hD : va_D A (mo_W cy g a b t vn vf vs vp vq vd vo un uf us up uq ud uo tm tx hc hh ss sv) := hD
          exact W.fret (v := r_84) hx hb hr (fun t ht hW => ⟨⟨r_84, (), rfl, h, ⟨hp_at ht hP, hD⟩⟩, hS.F ht⟩) hS.2.2 dX6_numberOfShip_87
        · have h := h.2 c_9_3
          rcases Classical.em (p1 = (5 : Int32)) with c_9_4 | c_9_4
          · have h := h.1 c_9_4
            refine lv_tableIn (tgt := 88) hx hb dX6_numberOfShip_9 (by rw [c_9_4]; decide) (by rw [c_9_4]; decide) (by rw [c_9_4]; try rfl) (by decide) ?_
            refine lv_aload_n hx hb dX6_numberOfShip_88 rfl (lv_at hl 1 rfl) ?_
            refine kg (v := .ref (a 0)) S hE hP 0 rfl rfl 0 (by decide) q_1_12 rfl rfl inlX6 dX6_numberOfShip_89 ?_
            refine kg (v := .ref (a 2)) S hE hP 10 rfl rfl 11 (by decide) q_5_4 rfl rfl inlX4 dX6_numberOfShip_92 ?_
            refine lv_aload_n hx hb dX6_numberOfShip_95 rfl (lv_at hl 0 rfl) ?_
            refine lv_aload_n hx hb dX6_numberOfShip_96 rfl (lv_at hl 1 rfl) ?_
            refine kg (v := .ref (a 0)) S hE hP 0 rfl rfl 0 (by decide) q_1_12 rfl rfl inlX6 dX6_numberOfShip_97 ?_
            refine kg (v := .float (vf 0)) S hE hP 10 rfl rfl 0 (by decide) q_5_3 rfl rfl inlX4 dX6_numberOfShip_100 ?_
            refine kc_Vf (L := (((g 0, .inr (6, [.ref (a 0), .ref (b 0), .ref (g 1), .ref (g 3), .ref (g 4), .ref (t 0)])) : Nat × va_E) :: st_W cy b un uf us up uq ud uo)) (w0 := st_W cy a vn vf vs vp vq vd vo) (R' := (tx_W cy t tm tx ++ (hr_W cy g hc (fun j => some ((hh j).1 0)) hh ++ tl_W cy g ss sv))) (As := [.float (vf 0)]) (rest := [.ref (a 2)]) S hE (ctX3_measured l G cy a vn vf vs vp vq vd vo (vf 0) _ h) q_6_17 q_6_18 q_6_19 q_3_0 q_6_20 rfl 8 rfl rfl ydX3_measured ⟨⟨rfl, rfl⟩, ⟨Nat.le_of_ble_eq_true rfl, Nat.le_of_ble_eq_true rfl⟩⟩ ⟨Nat.zero_le _, Nat.zero_le _⟩ hP hD hS rfl hl.1 rfl (Nat.le_of_ble_eq_true rfl) dX6_numberOfShip_103 (fun r_103 u_103 H locs h hP hD hS => ?_)
            have hP : va_P G vwCl (mo_W cy g a b t vn vf vs vp vq vd vo un uf us up uq ud uo tm tx hc hh ss sv) H := hP
            have hD : va_D A (mo_W cy g a b t vn vf vs vp vq vd vo un uf us up uq ud uo tm tx hc hh ss sv) := hD
            refine kc_Vf (L := (((g 0, .inr (6, [.ref (a 0), .ref (b 0), .ref (g 1), .ref (g 3), .ref (g 4), .ref (t 0)])) : Nat × va_E) :: st_W cy b un uf us up uq ud uo)) (w0 := st_W cy a vn vf vs vp vq vd vo) (R' := (tx_W cy t tm tx ++ (hr_W cy g hc (fun j => some ((hh j).1 0)) hh ++ tl_W cy g ss sv))) (As := [.float r_103]) (rest := []) S hE (ctX2_limitAt l G cy a vn vf vs vp vq vd vo r_103 _ h) q_7_9 q_7_10 q_7_11 q_2_16 q_7_12 rfl 2 rfl rfl ydX2_limitAt ⟨⟨rfl, rfl⟩, ⟨Nat.le_of_ble_eq_true rfl, Nat.le_of_ble_eq_true rfl⟩⟩ ⟨Nat.zero_le _, Nat.zero_le _⟩ hP hD hS rfl hl.1 rfl (Nat.le_of_ble_eq_true rfl) dX6_numberOfShip_106 (fun r_106 u_106 H locs h hP hD hS => ?_)
            have hP : va_P G vwCl (mo_W cy g a b t vn vf vs vp vq vd vo un uf us up uq ud uo tm tx hc hh ss sv) H := hP
            have hD : va_D A (mo_W cy g a b t vn vf vs vp vq vd vo un uf us up uq ud uo tm tx hc hh ss sv) := hD
            exact W.fret (v := r_106) hx hb hr (fun t ht hW => ⟨⟨r_106, (), rfl, h, ⟨hp_at ht hP, hD⟩⟩, hS.F ht⟩) hS.2.2 dX6_numberOfShip_109
          · have h := h.2 c_9_4
            rcases Classical.em (p1 = (6 : Int32)) with c_9_5 | c_9_5
            · have h := h.1 c_9_5
              refine lv_tableIn (tgt := 110) hx hb dX6_numberOfShip_9 (by rw [c_9_5]; decide) (by rw [c_9_5]; decide) (by rw [c_9_5]; try rfl) (by decide) ?_
              refine lv_aload_n hx hb dX6_numberOfShip_110 rfl (lv_at hl 0 rfl) ?_
              refine lv_aload_n hx hb dX6_numberOfShip_111 rfl (lv_at hl 1 rfl) ?_
              refine kg (v := .ref (a 0)) S hE hP 0 rfl rfl 0 (by decide) q_1_12 rfl rfl inlX6 dX6_numberOfShip_112 ?_
              refine kg (v := .float (vf 0)) S hE hP 10 rfl rfl 0 (by decide) q_5_3 rfl rfl inlX4 dX6_numberOfShip_115 ?_
              refine kc_Vf (L := (((g 0, .inr (6, [.ref (a 0), .ref (b 0), .ref (g 1), .ref (g 3), .ref (g 4), .ref (t 0)])) : Nat × va_E) :: st_W cy b un uf us up uq ud uo)) (w0 := st_W cy a vn vf vs vp vq vd vo) (R' := (tx_W cy t tm tx ++ (hr_W cy g hc (fun j => some ((hh j).1 0)) hh ++ tl_W cy g ss sv))) (As := [.float (vf 0)]) (rest := []) S hE (ctX3_farMeasured l G cy a vn vf vs vp vq vd vo (vf 0) _ h) q_7_17 q_7_5 q_7_6 q_3_0 q_7_7 rfl 8 rfl rfl ydX3_farMeasured ⟨⟨rfl, rfl⟩, ⟨Nat.le_of_ble_eq_true rfl, Nat.le_of_ble_eq_true rfl⟩⟩ ⟨Nat.zero_le _, Nat.zero_le _⟩ hP hD hS rfl hl.1 rfl (Nat.le_of_ble_eq_true rfl) dX6_numberOfShip_118 (fun r_118 u_118 H locs h hP hD hS => ?_)
              have hP : va_P G vwCl (mo_W cy g a b t vn vf vs vp vq vd vo un uf us up uq ud uo tm tx hc hh ss sv) H := hP
              have hD : va_D A (mo_W cy g a b t vn vf vs vp vq vd vo un uf us up uq ud uo tm tx hc hh ss sv) := hD
              exact W.fret (v := r_118) hx hb hr (fun t ht hW => ⟨⟨r_118, (), rfl, h, ⟨hp_at ht hP, hD⟩⟩, hS.F ht⟩) hS.2.2 dX6_numberOfShip_121
            · have h := h.2 c_9_5
              rcases Classical.em (p1 = (7 : Int32)) with c_9_6 | c_9_6
              · have h := h.1 c_9_6
                refine lv_tableIn (tgt := 122) hx hb dX6_numberOfShip_9 (by rw [c_9_6]; decide) (by rw [c_9_6]; decide) (by rw [c_9_6]; try rfl) (by decide) ?_
                refine lv_aload_n hx hb dX6_numberOfShip_122 rfl (lv_at hl 0 rfl) ?_
                refine lv_aload_n hx hb dX6_numberOfShip_123 rfl (lv_at hl 1 rfl) ?_
                refine kg (v := .ref (a 0)) S hE hP 0 rfl rfl 0 (by decide) q_1_12 rfl rfl inlX6 dX6_numberOfShip_124 ?_
                refine kg (v := .float (vf 0)) S hE hP 10 rfl rfl 0 (by decide) q_5_3 rfl rfl inlX4 dX6_numberOfShip_127 ?_
                refine kc_Vf (L := (((g 0, .inr (6, [.ref (a 0), .ref (b 0), .ref (g 1), .ref (g 3), .ref (g 4), .ref (t 0)])) : Nat × va_E) :: st_W cy b un uf us up uq ud uo)) (w0 := st_W cy a vn vf vs vp vq vd vo) (R' := (tx_W cy t tm tx ++ (hr_W cy g hc (fun j => some ((hh j).1 0)) hh ++ tl_W cy g ss sv))) (As := [.float (vf 0)]) (rest := []) S hE (ctX3_nearMeasured l G cy a vn vf vs vp vq vd vo (vf 0) _ h) q_7_18 q_6_23 q_7_0 q_3_0 q_7_1 rfl 8 rfl rfl ydX3_nearMeasured ⟨⟨rfl, rfl⟩, ⟨Nat.le_of_ble_eq_true rfl, Nat.le_of_ble_eq_true rfl⟩⟩ ⟨Nat.zero_le _, Nat.zero_le _⟩ hP hD hS rfl hl.1 rfl (Nat.le_of_ble_eq_true rfl) dX6_numberOfShip_130 (fun r_130 u_130 H locs h hP hD hS => ?_)
                have hP : va_P G vwCl (mo_W cy g a b t vn vf vs vp vq vd vo un uf us up uq ud uo tm tx hc hh ss sv) H := hP
                have hD : va_D A (mo_W cy g a b t vn vf vs vp vq vd vo un uf us up uq ud uo tm tx hc hh ss sv) := hD
                exact W.fret (v := r_130) hx hb hr (fun t ht hW => ⟨⟨r_130, (), rfl, h, ⟨hp_at ht hP, hD⟩⟩, hS.F ht⟩) hS.2.2 dX6_numberOfShip_133
              · have h := h.2 c_9_6
                have n_0 := lv_neT c_9_0 (a := 1) (by decide)
                have n_1 := lv_neT c_9_1 (a := 2) (by decide)
                have n_2 := lv_neT c_9_2 (a := 3) (by decide)
                have n_3 := lv_neT c_9_3 (a := 4) (by decide)
                have n_4 := lv_neT c_9_4 (a := 5) (by decide)
                have n_5 := lv_neT c_9_5 (a := 6) (by decide)
                have n_6 := lv_neT c_9_6 (a := 7) (by decide)
                refine lv_tableOut (tgt := 134) hx hb dX6_numberOfShip_9 (by omega) (by decide) ?_
                refine lv_aload_n hx hb dX6_numberOfShip_134 rfl (lv_at hl 1 rfl) ?_
                refine kg (v := .ref (a 0)) S hE hP 0 rfl rfl 0 (by decide) q_1_12 rfl rfl inlX6 dX6_numberOfShip_135 ?_
                refine kg (v := .float (vf 0)) S hE hP 10 rfl rfl 0 (by decide) q_5_3 rfl rfl inlX4 dX6_numberOfShip_138 ?_
                exact W.fret (v := (vf 0)) hx hb hr (fun t ht hW => ⟨⟨(vf 0), (), rfl, h, ⟨hp_at ht hP, hD⟩⟩, hS.F ht⟩) hS.2.2 dX6_numberOfShip_141
def vX6_bits (vn : Nat → Int32) (vf : Nat → UInt32) (vp : Nat → Int32) (vq : Nat → Int32) (p1 : Int32) (K : Int32 → Unit → Prop) : Prop :=
  vX6_numberOfShip vn vf vp vq p1 (fun r_2 u_2 => vX6_bitsOf r_2 (fun r_5 u_5 => K r_5 ()))
set_option maxRecDepth 100000 in
set_option maxHeartbeats 4000000 in
theorem ctX6_bits (l : Launch) (G : va_G) (cy : Nat → ClassId) (g : Nat → Nat) (a : Nat → Nat) (b : Nat → Nat) (t : Nat → Nat) (vn : Nat → Int32) (vf : Nat → UInt32) (vs : Nat → Int32) (vp : Nat → Int32) (vq : Nat → Int32) (vd : Nat → Int32) (vo : Nat → Int32) (un : Nat → Int32) (uf : Nat → UInt32) (us : Nat → Int32) (up : Nat → Int32) (uq : Nat → Int32) (ud : Nat → Int32) (uo : Nat → Int32) (tm : Nat → Int32) (tx : Nat → Int32) (hc : Nat → Int32) (hh : Nat → Sx) (ss : Nat → Sx) (sv : Nat → Int32) (p1 : Int32) (K : Int32 → Unit → Prop) (h : vX6_bits vn vf vp vq p1 K) : Met l yX6_bits (ws_ yX6_bits cX6_bits 2 (some .int)) ({ frames := 3, cells := 0, slots := 0, locals := 64 } : Room) (CP G cy [.ref (g 0), .int p1] (mo_W cy g a b t vn vf vs vp vq vd vo un uf us up uq ud uo tm tx hc hh ss sv)) (RI G K (fun u => mo_W cy g a b t vn vf vs vp vq vd vo un uf us up uq ud uo tm tx hc hh ss sv) (A1 (mo_W cy g a b t vn vf vs vp vq vd vo un uf us up uq ud uo tm tx hc hh ss sv))) 0 0 (A1 (mo_W cy g a b t vn vf vs vp vq vd vo un uf us up uq ud uo tm tx hc hh ss sv)) := by
  refine hd_go (Qf := fun A => (RI G K (fun u => mo_W cy g a b t vn vf vs vp vq vd vo un uf us up uq ud uo tm tx hc hh ss sv) A)) (by decide +kernel) (Nat.le_of_ble_eq_true rfl) ?_
  intro p e s m below meth c ls A hx hb hr hlocks S hE hP hD hS hl
  have hl : lv_has ls 2 [(0, .ref (g 0)), (1, .int p1)] := hl
  unfold vX6_bits at h
  refine lv_aload_n hx hb dX6_bits_0 rfl (lv_at hl 0 rfl) ?_
  refine lv_iload_n hx hb dX6_bits_1 rfl (lv_at hl 1 rfl) ?_
  refine kc_Vf0 (As := [.int p1]) (rest := []) S hE (ctX6_numberOfShip l G cy g a b t vn vf vs vp vq vd vo un uf us up uq ud uo tm tx hc hh ss sv p1 _ h) q_6_10 q_6_11 q_6_12 q_1_2 q_6_13 rfl 0 rfl rfl ydX6_numberOfShip ⟨⟨rfl, rfl⟩, ⟨Nat.le_of_ble_eq_true rfl, Nat.le_of_ble_eq_true rfl⟩⟩ ⟨Nat.zero_le _, Nat.zero_le _⟩ hP hD hS rfl hl.1 rfl (Nat.le_of_ble_eq_true rfl) dX6_bits_2 (fun r_2 u_2 H locs h hP hD hS => ?_)
  refine kc_SiE (As := [.float r_2]) (rest := []) S hE (ctX6_bitsOf l G cy   r_2 _ h) q_7_19 q_7_20 q_1_2 q_7_21 ydX6_bitsOf ⟨⟨rfl, rfl⟩, ⟨Nat.le_of_ble_eq_true rfl, Nat.le_of_ble_eq_true rfl⟩⟩ ⟨Nat.zero_le _, Nat.zero_le _⟩ hP hD hS (fun _ => rfl) rfl hl.1 rfl (Nat.le_of_ble_eq_true rfl) dX6_bits_5 (fun r_5 u_5 H locs h hP hD hS => ?_)
  exact W.iret (v := r_5) hx hb hr (fun t ht hW => ⟨⟨r_5, (), rfl, h, ⟨hp_at ht hP, hD⟩⟩, hS.F ht⟩) hS.2.2 dX6_bits_8
def vX6_judgement (vn : Nat → Int32) (vf : Nat → UInt32) (vs : Nat → Int32) (vp : Nat → Int32) (vq : Nat → Int32) (K : Int32 → Unit → Prop) : Prop :=
  vX4_judge vn vf vs vp vq (fun r_4 u_4 => K r_4 ())
set_option maxRecDepth 100000 in
set_option maxHeartbeats 4000000 in
theorem ctX6_judgement (l : Launch) (G : va_G) (cy : Nat → ClassId) (g : Nat → Nat) (a : Nat → Nat) (b : Nat → Nat) (t : Nat → Nat) (vn : Nat → Int32) (vf : Nat → UInt32) (vs : Nat → Int32) (vp : Nat → Int32) (vq : Nat → Int32) (vd : Nat → Int32) (vo : Nat → Int32) (un : Nat → Int32) (uf : Nat → UInt32) (us : Nat → Int32) (up : Nat → Int32) (uq : Nat → Int32) (ud : Nat → Int32) (uo : Nat → Int32) (tm : Nat → Int32) (tx : Nat → Int32) (hc : Nat → Int32) (hh : Nat → Sx) (ss : Nat → Sx) (sv : Nat → Int32)  (K : Int32 → Unit → Prop) (h : vX6_judgement vn vf vs vp vq K) : Met l yX6_judgement (ws_ yX6_judgement cX6_judgement 1 (some .int)) ({ frames := 3, cells := 0, slots := 0, locals := 69 } : Room) (CP G cy [.ref (g 0)] (mo_W cy g a b t vn vf vs vp vq vd vo un uf us up uq ud uo tm tx hc hh ss sv)) (RI G K (fun u => mo_W cy g a b t vn vf vs vp vq vd vo un uf us up uq ud uo tm tx hc hh ss sv) (A1 (mo_W cy g a b t vn vf vs vp vq vd vo un uf us up uq ud uo tm tx hc hh ss sv))) 0 0 (A1 (mo_W cy g a b t vn vf vs vp vq vd vo un uf us up uq ud uo tm tx hc hh ss sv)) := by
  refine hd_go (Qf := fun A => (RI G K (fun u => mo_W cy g a b t vn vf vs vp vq vd vo un uf us up uq ud uo tm tx hc hh ss sv) A)) (by decide +kernel) (Nat.le_of_ble_eq_true rfl) ?_
  intro p e s m below meth c ls A hx hb hr hlocks S hE hP hD hS hl
  have hl : lv_has ls 1 [(0, .ref (g 0))] := hl
  unfold vX6_judgement at h
  refine lv_aload_n hx hb dX6_judgement_0 rfl (lv_at hl 0 rfl) ?_
  refine kg (v := .ref (a 0)) S hE hP 0 rfl rfl 0 (by decide) q_1_12 rfl rfl inlX6 dX6_judgement_1 ?_
  refine kc_Vi (L := (((g 0, .inr (6, [.ref (a 0), .ref (b 0), .ref (g 1), .ref (g 3), .ref (g 4), .ref (t 0)])) : Nat × va_E) :: st_W cy b un uf us up uq ud uo)) (w0 := st_W cy a vn vf vs vp vq vd vo) (R' := (tx_W cy t tm tx ++ (hr_W cy g hc (fun j => some ((hh j).1 0)) hh ++ tl_W cy g ss sv))) (As := []) (rest := []) S hE (ctX4_judge l G cy a vn vf vs vp vq vd vo  _ h) q_9_0 q_9_1 q_9_2 q_1_11 q_9_3 rfl 0 rfl rfl ydX4_judge ⟨⟨rfl, rfl⟩, ⟨Nat.le_of_ble_eq_true rfl, Nat.le_of_ble_eq_true rfl⟩⟩ ⟨Nat.zero_le _, Nat.zero_le _⟩ hP hD hS rfl hl.1 rfl (Nat.le_of_ble_eq_true rfl) dX6_judgement_4 (fun r_4 u_4 H locs h hP hD hS => ?_)
  have hP : va_P G vwCl (mo_W cy g a b t vn vf vs vp vq vd vo un uf us up uq ud uo tm tx hc hh ss sv) H := hP
  have hD : va_D A (mo_W cy g a b t vn vf vs vp vq vd vo un uf us up uq ud uo tm tx hc hh ss sv) := hD
  exact W.iret (v := r_4) hx hb hr (fun t ht hW => ⟨⟨r_4, (), rfl, h, ⟨hp_at ht hP, hD⟩⟩, hS.F ht⟩) hS.2.2 dX6_judgement_7
def vX6_stop (vn : Nat → Int32) (vd : Nat → Int32) (vo : Nat → Int32) (p1 : Int32) (p2 : Int32) (K : Int32 → Unit → Prop) : Prop :=
  vX5_has vn p1 (fun r_10 u_10 => (¬ r_10 = (0 : Int32) → (p2 = (0 : Int32) → vp_in p1 4 ∧ K (vd (Int32.toNatClampNeg p1)) ()) ∧ (¬ p2 = (0 : Int32) → (p2 = (1 : Int32) → vp_in p1 4 ∧ ((vo (Int32.toNatClampNeg p1)) = (0 : Int32) → K (0 : Int32) ()) ∧ (¬ (vo (Int32.toNatClampNeg p1)) = (0 : Int32) → K (1 : Int32) ())) ∧ (¬ p2 = (1 : Int32) → (p2 = (2 : Int32) → (¬ (vn 5) = p1 → K (0 : Int32) ()) ∧ ((vn 5) = p1 → K (1 : Int32) ())) ∧ (¬ p2 = (2 : Int32) → K (-2 : Int32) ())))) ∧ (r_10 = (0 : Int32) → K (-1 : Int32) ()))
set_option maxRecDepth 100000 in
set_option maxHeartbeats 4000000 in
theorem ctX6_stop (l : Launch) (G : va_G) (cy : Nat → ClassId) (g : Nat → Nat) (a : Nat → Nat) (b : Nat → Nat) (t : Nat → Nat) (vn : Nat → Int32) (vf : Nat → UInt32) (vs : Nat → Int32) (vp : Nat → Int32) (vq : Nat → Int32) (vd : Nat → Int32) (vo : Nat → Int32) (un : Nat → Int32) (uf : Nat → UInt32) (us : Nat → Int32) (up : Nat → Int32) (uq : Nat → Int32) (ud : Nat → Int32) (uo : Nat → Int32) (tm : Nat → Int32) (tx : Nat → Int32) (hc : Nat → Int32) (hh : Nat → Sx) (ss : Nat → Sx) (sv : Nat → Int32) (p1 : Int32) (p2 : Int32) (K : Int32 → Unit → Prop) (h : vX6_stop vn vd vo p1 p2 K) : Met l yX6_stop (ws_ yX6_stop cX6_stop 4 (some .int)) ({ frames := 1, cells := 0, slots := 0, locals := 21 } : Room) (CP G cy [.ref (g 0), .int p1, .int p2] (mo_W cy g a b t vn vf vs vp vq vd vo un uf us up uq ud uo tm tx hc hh ss sv)) (RI G K (fun u => mo_W cy g a b t vn vf vs vp vq vd vo un uf us up uq ud uo tm tx hc hh ss sv) (A1 (mo_W cy g a b t vn vf vs vp vq vd vo un uf us up uq ud uo tm tx hc hh ss sv))) 0 0 (A1 (mo_W cy g a b t vn vf vs vp vq vd vo un uf us up uq ud uo tm tx hc hh ss sv)) := by
  refine hd_go (Qf := fun A => (RI G K (fun u => mo_W cy g a b t vn vf vs vp vq vd vo un uf us up uq ud uo tm tx hc hh ss sv) A)) (by decide +kernel) (Nat.le_of_ble_eq_true rfl) ?_
  intro p e s m below meth c ls A hx hb hr hlocks S hE hP hD hS hl
  have hl : lv_has ls 4 [(0, .ref (g 0)), (1, .int p1), (2, .int p2)] := hl
  unfold vX6_stop at h
  refine lv_aload_n hx hb dX6_stop_0 rfl (lv_at hl 0 rfl) ?_
  refine kg (v := .ref (a 0)) S hE hP 0 rfl rfl 0 (by decide) q_1_12 rfl rfl inlX6 dX6_stop_1 ?_
  refine kg (v := .ref (a 5)) S hE hP 10 rfl rfl 12 (by decide) q_5_2 rfl rfl inlX4 dX6_stop_4 ?_
  refine lv_astore_n (lv' := [(3, .ref (a 5)), (0, .ref (g 0)), (1, .int p1), (2, .int p2)]) hx hb dX6_stop_7 rfl hl (by decide) rfl (fun ls hl => ?_)
  refine lv_aload_n hx hb dX6_stop_8 rfl (lv_at hl 0 rfl) ?_
  refine lv_iload_n hx hb dX6_stop_9 rfl (lv_at hl 2 rfl) ?_
  refine kc_Vi (L := (((g 0, .inr (6, [.ref (a 0), .ref (b 0), .ref (g 1), .ref (g 3), .ref (g 4), .ref (t 0)])) : Nat × va_E) :: st_W cy b un uf us up uq ud uo)) (w0 := st_W cy a vn vf vs vp vq vd vo) (R' := (tx_W cy t tm tx ++ (hr_W cy g hc (fun j => some ((hh j).1 0)) hh ++ tl_W cy g ss sv))) (As := [.int p1]) (rest := []) S hE (ctX5_has l G cy a vn vf vs vp vq vd vo p1 _ h) q_8_10 q_8_11 q_8_12 q_2_20 q_8_13 rfl 5 rfl rfl ydX5_has ⟨⟨rfl, rfl⟩, ⟨Nat.le_of_ble_eq_true rfl, Nat.le_of_ble_eq_true rfl⟩⟩ ⟨Nat.zero_le _, Nat.zero_le _⟩ hP hD hS rfl hl.1 rfl (Nat.le_of_ble_eq_true rfl) dX6_stop_10 (fun r_10 u_10 H locs h hP hD hS => ?_)
  have hP : va_P G vwCl (mo_W cy g a b t vn vf vs vp vq vd vo un uf us up uq ud uo tm tx hc hh ss sv) H := hP
  have hD : va_D A (mo_W cy g a b t vn vf vs vp vq vd vo un uf us up uq ud uo tm tx hc hh ss sv) := hD
  refine lv_if_ne (tgt := 18) hx hb dX6_stop_13 (by decide) (fun c_13 => ?_) (fun c_13 => ?_)
  · have h := h.1 c_13
    refine lv_iload_n hx hb dX6_stop_18 rfl (lv_at hl 3 rfl) ?_
    rcases Classical.em (p2 = (0 : Int32)) with c_19_0 | c_19_0
    · have h := h.1 c_19_0
      refine lv_tableIn (tgt := 44) hx hb dX6_stop_19 (by rw [c_19_0]; decide) (by rw [c_19_0]; decide) (by rw [c_19_0]; try rfl) (by decide) ?_
      refine lv_aload_n hx hb dX6_stop_44 rfl (lv_at hl 0 rfl) ?_
      refine kg (v := .ref (a 6)) S hE hP 15 rfl rfl 1 (by decide) q_8_7 rfl rfl inlX5 dX6_stop_45 ?_
      refine lv_iload_n hx hb dX6_stop_48 rfl (lv_at hl 2 rfl) ?_
      refine kail (v := (vd (Int32.toNatClampNeg p1))) S hE hP 16 rfl h.1 rfl rfl dX6_stop_49 ?_
      have h := h.2
      exact W.iret (v := (vd (Int32.toNatClampNeg p1))) hx hb hr (fun t ht hW => ⟨⟨(vd (Int32.toNatClampNeg p1)), (), rfl, h, ⟨hp_at ht hP, hD⟩⟩, hS.F ht⟩) hS.2.2 dX6_stop_50
    · have h := h.2 c_19_0
      rcases Classical.em (p2 = (1 : Int32)) with c_19_1 | c_19_1
      · have h := h.1 c_19_1
        refine lv_tableIn (tgt := 51) hx hb dX6_stop_19 (by rw [c_19_1]; decide) (by rw [c_19_1]; decide) (by rw [c_19_1]; try rfl) (by decide) ?_
        refine lv_aload_n hx hb dX6_stop_51 rfl (lv_at hl 0 rfl) ?_
        refine kg (v := .ref (a 7)) S hE hP 15 rfl rfl 2 (by decide) q_8_8 rfl rfl inlX5 dX6_stop_52 ?_
        refine lv_iload_n hx hb dX6_stop_55 rfl (lv_at hl 2 rfl) ?_
        refine kazl (v := (vo (Int32.toNatClampNeg p1))) S hE hP 17 rfl h.1 rfl rfl dX6_stop_56 ?_
        have h := h.2
        refine lv_if_eq (tgt := 64) hx hb dX6_stop_57 (by decide) (fun c_57 => ?_) (fun c_57 => ?_)
        · have h := h.1 c_57
          refine lv_iconst (v := (0 : Int32)) hx hb dX6_stop_64 (by decide) ?_
          exact W.iret (v := (0 : Int32)) hx hb hr (fun t ht hW => ⟨⟨(0 : Int32), (), rfl, h, ⟨hp_at ht hP, hD⟩⟩, hS.F ht⟩) hS.2.2 dX6_stop_65
        · have h := h.2 c_57
          refine lv_iconst (v := (1 : Int32)) hx hb dX6_stop_60 (by decide) ?_
          refine lv_goto (tgt := 65) hx hb dX6_stop_61 (by decide) ?_
          exact W.iret (v := (1 : Int32)) hx hb hr (fun t ht hW => ⟨⟨(1 : Int32), (), rfl, h, ⟨hp_at ht hP, hD⟩⟩, hS.F ht⟩) hS.2.2 dX6_stop_65
      · have h := h.2 c_19_1
        rcases Classical.em (p2 = (2 : Int32)) with c_19_2 | c_19_2
        · have h := h.1 c_19_2
          refine lv_tableIn (tgt := 66) hx hb dX6_stop_19 (by rw [c_19_2]; decide) (by rw [c_19_2]; decide) (by rw [c_19_2]; try rfl) (by decide) ?_
          refine lv_aload_n hx hb dX6_stop_66 rfl (lv_at hl 1 rfl) ?_
          refine kg (v := .ref (a 0)) S hE hP 0 rfl rfl 0 (by decide) q_1_12 rfl rfl inlX6 dX6_stop_67 ?_
          refine kg (v := .int (vn 5)) S hE hP 10 rfl rfl 5 (by decide) q_8_9 rfl rfl inlX4 dX6_stop_70 ?_
          refine lv_iload_n hx hb dX6_stop_73 rfl (lv_at hl 2 rfl) ?_
          refine lv_icmp_ne (tgt := 81) hx hb dX6_stop_74 (by decide) (fun c_74 => ?_) (fun c_74 => ?_)
          · have h := h.1 c_74
            refine lv_iconst (v := (0 : Int32)) hx hb dX6_stop_81 (by decide) ?_
            exact W.iret (v := (0 : Int32)) hx hb hr (fun t ht hW => ⟨⟨(0 : Int32), (), rfl, h, ⟨hp_at ht hP, hD⟩⟩, hS.F ht⟩) hS.2.2 dX6_stop_82
          · have h := h.2 c_74
            refine lv_iconst (v := (1 : Int32)) hx hb dX6_stop_77 (by decide) ?_
            refine lv_goto (tgt := 82) hx hb dX6_stop_78 (by decide) ?_
            exact W.iret (v := (1 : Int32)) hx hb hr (fun t ht hW => ⟨⟨(1 : Int32), (), rfl, h, ⟨hp_at ht hP, hD⟩⟩, hS.F ht⟩) hS.2.2 dX6_stop_82
        · have h := h.2 c_19_2
          have n_0 := lv_neT c_19_0 (a := 0) (by decide)
          have n_1 := lv_neT c_19_1 (a := 1) (by decide)
          have n_2 := lv_neT c_19_2 (a := 2) (by decide)
          refine lv_tableOut (tgt := 83) hx hb dX6_stop_19 (by omega) (by decide) ?_
          refine lv_bipush (v := (-2 : Int32)) hx hb dX6_stop_83 (by decide) ?_
          exact W.iret (v := (-2 : Int32)) hx hb hr (fun t ht hW => ⟨⟨(-2 : Int32), (), rfl, h, ⟨hp_at ht hP, hD⟩⟩, hS.F ht⟩) hS.2.2 dX6_stop_85
  · have h := h.2 c_13
    refine lv_iconst (v := (-1 : Int32)) hx hb dX6_stop_16 (by decide) ?_
    exact W.iret (v := (-1 : Int32)) hx hb hr (fun t ht hW => ⟨⟨(-1 : Int32), (), rfl, h, ⟨hp_at ht hP, hD⟩⟩, hS.F ht⟩) hS.2.2 dX6_stop_17
def vX6_point (vn : Nat → Int32) (vp : Nat → Int32) (vq : Nat → Int32) (p1 : Int32) (p2 : Int32) (K : Int32 → Unit → Prop) : Prop :=
  (p1 < (0 : Int32) → K (-1 : Int32) ()) ∧ (¬ p1 < (0 : Int32) → (p1 < (vn 10) → (p2 = (0 : Int32) → vp_in p1 6 ∧ K (vp (Int32.toNatClampNeg p1)) ()) ∧ (¬ p2 = (0 : Int32) → (p2 = (1 : Int32) → vp_in p1 6 ∧ K (vq (Int32.toNatClampNeg p1)) ()) ∧ (¬ p2 = (1 : Int32) → K (-2 : Int32) ()))) ∧ (¬ p1 < (vn 10) → K (-1 : Int32) ()))
set_option maxRecDepth 100000 in
set_option maxHeartbeats 4000000 in
theorem ctX6_point (l : Launch) (G : va_G) (cy : Nat → ClassId) (g : Nat → Nat) (a : Nat → Nat) (b : Nat → Nat) (t : Nat → Nat) (vn : Nat → Int32) (vf : Nat → UInt32) (vs : Nat → Int32) (vp : Nat → Int32) (vq : Nat → Int32) (vd : Nat → Int32) (vo : Nat → Int32) (un : Nat → Int32) (uf : Nat → UInt32) (us : Nat → Int32) (up : Nat → Int32) (uq : Nat → Int32) (ud : Nat → Int32) (uo : Nat → Int32) (tm : Nat → Int32) (tx : Nat → Int32) (hc : Nat → Int32) (hh : Nat → Sx) (ss : Nat → Sx) (sv : Nat → Int32) (p1 : Int32) (p2 : Int32) (K : Int32 → Unit → Prop) (h : vX6_point vn vp vq p1 p2 K) : Met l yX6_point (ws_ yX6_point cX6_point 4 (some .int)) ({ frames := 0, cells := 0, slots := 0, locals := 0 } : Room) (CP G cy [.ref (g 0), .int p1, .int p2] (mo_W cy g a b t vn vf vs vp vq vd vo un uf us up uq ud uo tm tx hc hh ss sv)) (RI G K (fun u => mo_W cy g a b t vn vf vs vp vq vd vo un uf us up uq ud uo tm tx hc hh ss sv) (A1 (mo_W cy g a b t vn vf vs vp vq vd vo un uf us up uq ud uo tm tx hc hh ss sv))) 0 0 (A1 (mo_W cy g a b t vn vf vs vp vq vd vo un uf us up uq ud uo tm tx hc hh ss sv)) := by
  refine hd_go (Qf := fun A => (RI G K (fun u => mo_W cy g a b t vn vf vs vp vq vd vo un uf us up uq ud uo tm tx hc hh ss sv) A)) (by decide +kernel) (Nat.le_of_ble_eq_true rfl) ?_
  intro p e s m below meth c ls A hx hb hr hlocks S hE hP hD hS hl
  have hl : lv_has ls 4 [(0, .ref (g 0)), (1, .int p1), (2, .int p2)] := hl
  unfold vX6_point at h
  refine lv_aload_n hx hb dX6_point_0 rfl (lv_at hl 0 rfl) ?_
  refine kg (v := .ref (a 0)) S hE hP 0 rfl rfl 0 (by decide) q_1_12 rfl rfl inlX6 dX6_point_1 ?_
  refine kg (v := .ref (a 2)) S hE hP 10 rfl rfl 11 (by decide) q_5_4 rfl rfl inlX4 dX6_point_4 ?_
  refine lv_astore_n (lv' := [(3, .ref (a 2)), (0, .ref (g 0)), (1, .int p1), (2, .int p2)]) hx hb dX6_point_7 rfl hl (by decide) rfl (fun ls hl => ?_)
  refine lv_iload_n hx hb dX6_point_8 rfl (lv_at hl 2 rfl) ?_
  refine lv_if_lt (tgt := 20) hx hb dX6_point_9 (by decide) (fun c_9 => ?_) (fun c_9 => ?_)
  · have h := h.1 c_9
    refine lv_iconst (v := (-1 : Int32)) hx hb dX6_point_20 (by decide) ?_
    exact W.iret (v := (-1 : Int32)) hx hb hr (fun t ht hW => ⟨⟨(-1 : Int32), (), rfl, h, ⟨hp_at ht hP, hD⟩⟩, hS.F ht⟩) hS.2.2 dX6_point_21
  · have h := h.2 c_9
    refine lv_iload_n hx hb dX6_point_12 rfl (lv_at hl 2 rfl) ?_
    refine lv_aload_n hx hb dX6_point_13 rfl (lv_at hl 0 rfl) ?_
    refine kg (v := .int (vn 10)) S hE hP 12 rfl rfl 0 (by decide) q_5_5 rfl rfl inlX2 dX6_point_14 ?_
    refine lv_icmp_lt (tgt := 22) hx hb dX6_point_17 (by decide) (fun c_17 => ?_) (fun c_17 => ?_)
    · have h := h.1 c_17
      refine lv_iload_n hx hb dX6_point_22 rfl (lv_at hl 3 rfl) ?_
      rcases Classical.em (p2 = (0 : Int32)) with c_23_0 | c_23_0
      · have h := h.1 c_23_0
        refine lv_lookup (tgt := 48) hx hb dX6_point_23 (by decide) (by rw [c_23_0]; try rfl) (by decide) ?_
        refine lv_aload_n hx hb dX6_point_48 rfl (lv_at hl 0 rfl) ?_
        refine kg (v := .ref (a 3)) S hE hP 12 rfl rfl 1 (by decide) q_8_18 rfl rfl inlX2 dX6_point_49 ?_
        refine lv_iload_n hx hb dX6_point_52 rfl (lv_at hl 2 rfl) ?_
        refine kail (v := (vp (Int32.toNatClampNeg p1))) S hE hP 13 rfl h.1 rfl rfl dX6_point_53 ?_
        have h := h.2
        exact W.iret (v := (vp (Int32.toNatClampNeg p1))) hx hb hr (fun t ht hW => ⟨⟨(vp (Int32.toNatClampNeg p1)), (), rfl, h, ⟨hp_at ht hP, hD⟩⟩, hS.F ht⟩) hS.2.2 dX6_point_54
      · have h := h.2 c_23_0
        rcases Classical.em (p2 = (1 : Int32)) with c_23_1 | c_23_1
        · have h := h.1 c_23_1
          refine lv_lookup (tgt := 55) hx hb dX6_point_23 (by decide) (by rw [c_23_1]; try rfl) (by decide) ?_
          refine lv_aload_n hx hb dX6_point_55 rfl (lv_at hl 0 rfl) ?_
          refine kg (v := .ref (a 4)) S hE hP 12 rfl rfl 2 (by decide) q_8_19 rfl rfl inlX2 dX6_point_56 ?_
          refine lv_iload_n hx hb dX6_point_59 rfl (lv_at hl 2 rfl) ?_
          refine kail (v := (vq (Int32.toNatClampNeg p1))) S hE hP 14 rfl h.1 rfl rfl dX6_point_60 ?_
          have h := h.2
          exact W.iret (v := (vq (Int32.toNatClampNeg p1))) hx hb hr (fun t ht hW => ⟨⟨(vq (Int32.toNatClampNeg p1)), (), rfl, h, ⟨hp_at ht hP, hD⟩⟩, hS.F ht⟩) hS.2.2 dX6_point_61
        · have h := h.2 c_23_1
          refine lv_lookup (tgt := 62) (off := 39) hx hb dX6_point_23 (by decide) (by rw [show (Op.lookupswitch.offset _ _ _) = _ from lv_osw c_23_0 (by decide)]; rw [show (Op.lookupswitch.offset _ _ _) = _ from lv_osw c_23_1 (by decide)]; try rfl) (by decide) ?_
          refine lv_bipush (v := (-2 : Int32)) hx hb dX6_point_62 (by decide) ?_
          exact W.iret (v := (-2 : Int32)) hx hb hr (fun t ht hW => ⟨⟨(-2 : Int32), (), rfl, h, ⟨hp_at ht hP, hD⟩⟩, hS.F ht⟩) hS.2.2 dX6_point_64
    · have h := h.2 c_17
      refine lv_iconst (v := (-1 : Int32)) hx hb dX6_point_20 (by decide) ?_
      exact W.iret (v := (-1 : Int32)) hx hb hr (fun t ht hW => ⟨⟨(-1 : Int32), (), rfl, h, ⟨hp_at ht hP, hD⟩⟩, hS.F ht⟩) hS.2.2 dX6_point_21
def vX6_settingAt_10 (vs : Nat → Int32) (K : Int32 → Unit → Prop)  : Prop :=
  K (-2 : Int32) ()
def vX6_settingAt (vs : Nat → Int32) (p1 : Int32) (K : Int32 → Unit → Prop) : Prop :=
  (p1 < (0 : Int32) → vX6_settingAt_10 vs K ) ∧ (¬ p1 < (0 : Int32) → (p1 < (8 : Int32) → vp_in p1 8 ∧ K (vs (Int32.toNatClampNeg p1)) ()) ∧ (¬ p1 < (8 : Int32) → vX6_settingAt_10 vs K ))
set_option maxRecDepth 100000 in
set_option maxHeartbeats 4000000 in
theorem ctX6_settingAt (l : Launch) (G : va_G) (cy : Nat → ClassId) (g : Nat → Nat) (a : Nat → Nat) (b : Nat → Nat) (t : Nat → Nat) (vn : Nat → Int32) (vf : Nat → UInt32) (vs : Nat → Int32) (vp : Nat → Int32) (vq : Nat → Int32) (vd : Nat → Int32) (vo : Nat → Int32) (un : Nat → Int32) (uf : Nat → UInt32) (us : Nat → Int32) (up : Nat → Int32) (uq : Nat → Int32) (ud : Nat → Int32) (uo : Nat → Int32) (tm : Nat → Int32) (tx : Nat → Int32) (hc : Nat → Int32) (hh : Nat → Sx) (ss : Nat → Sx) (sv : Nat → Int32) (p1 : Int32) (K : Int32 → Unit → Prop) (h : vX6_settingAt vs p1 K) : Met l yX6_settingAt (ws_ yX6_settingAt cX6_settingAt 2 (some .int)) ({ frames := 0, cells := 0, slots := 0, locals := 0 } : Room) (CP G cy [.ref (g 0), .int p1] (mo_W cy g a b t vn vf vs vp vq vd vo un uf us up uq ud uo tm tx hc hh ss sv)) (RI G K (fun u => mo_W cy g a b t vn vf vs vp vq vd vo un uf us up uq ud uo tm tx hc hh ss sv) (A1 (mo_W cy g a b t vn vf vs vp vq vd vo un uf us up uq ud uo tm tx hc hh ss sv))) 0 0 (A1 (mo_W cy g a b t vn vf vs vp vq vd vo un uf us up uq ud uo tm tx hc hh ss sv)) := by
  refine hd_go (Qf := fun A => (RI G K (fun u => mo_W cy g a b t vn vf vs vp vq vd vo un uf us up uq ud uo tm tx hc hh ss sv) A)) (by decide +kernel) (Nat.le_of_ble_eq_true rfl) ?_
  intro p e s m below meth c ls A hx hb hr hlocks S hE hP hD hS hl
  have hl : lv_has ls 2 [(0, .ref (g 0)), (1, .int p1)] := hl
  unfold vX6_settingAt at h
  have J_10 : ∀ (vs : Nat → Int32), vX6_settingAt_10 vs K  → ∀ (H : Heap) (locs : List Loc) (ls : Array Slot), va_P G vwCl (mo_W cy g a b t vn vf vs vp vq vd vo un uf us up uq ud uo tm tx hc hh ss sv) H → va_D A (mo_W cy g a b t vn vf vs vp vq vd vo un uf us up uq ud uo tm tx hc hh ss sv) → va_S A s.heap H locs → lv_has ls 2 [] → W p l e (headSpec (ws_ yX6_settingAt cX6_settingAt 2 (some .int)) ({ frames := 0, cells := 0, slots := 0, locals := 0 } : Room)).room s m ([.ref (g 0), .int p1] : List Value).toArray below meth c H locs 0 0 (MQ below (RI G K (fun u => mo_W cy g a b t vn vf vs vp vq vd vo un uf us up uq ud uo tm tx hc hh ss sv) A) ([.ref (g 0), .int p1] : List Value).toArray s 0 0 A) (F0 m 10 ls []) := by
    intro vs h H locs ls hP hD hS hl
    unfold vX6_settingAt_10 at h
    refine lv_bipush (v := (-2 : Int32)) hx hb dX6_settingAt_10 (by decide) ?_
    refine lv_goto (tgt := 24) hx hb dX6_settingAt_12 (by decide) ?_
    exact W.iret (v := (-2 : Int32)) hx hb hr (fun t ht hW => ⟨⟨(-2 : Int32), (), rfl, h, ⟨hp_at ht hP, hD⟩⟩, hS.F ht⟩) hS.2.2 dX6_settingAt_24
  refine lv_iload_n hx hb dX6_settingAt_0 rfl (lv_at hl 1 rfl) ?_
  refine lv_if_lt (tgt := 10) hx hb dX6_settingAt_1 (by decide) (fun c_1 => ?_) (fun c_1 => ?_)
  · have h := h.1 c_1
    exact J_10 _ h _ _ _ hP hD hS (lv_sub hl [] rfl)
  · have h := h.2 c_1
    refine lv_iload_n hx hb dX6_settingAt_4 rfl (lv_at hl 1 rfl) ?_
    refine lv_bipush (v := (8 : Int32)) hx hb dX6_settingAt_5 (by decide) ?_
    refine lv_icmp_lt (tgt := 15) hx hb dX6_settingAt_7 (by decide) (fun c_7 => ?_) (fun c_7 => ?_)
    · have h := h.1 c_7
      refine lv_aload_n hx hb dX6_settingAt_15 rfl (lv_at hl 0 rfl) ?_
      refine kg (v := .ref (a 0)) S hE hP 0 rfl rfl 0 (by decide) q_1_12 rfl rfl inlX6 dX6_settingAt_16 ?_
      refine kg (v := .ref (a 1)) S hE hP 10 rfl rfl 10 (by decide) q_6_5 rfl rfl inlX4 dX6_settingAt_19 ?_
      refine lv_iload_n hx hb dX6_settingAt_22 rfl (lv_at hl 1 rfl) ?_
      refine kail (v := (vs (Int32.toNatClampNeg p1))) S hE hP 11 rfl h.1 rfl rfl dX6_settingAt_23 ?_
      have h := h.2
      exact W.iret (v := (vs (Int32.toNatClampNeg p1))) hx hb hr (fun t ht hW => ⟨⟨(vs (Int32.toNatClampNeg p1)), (), rfl, h, ⟨hp_at ht hP, hD⟩⟩, hS.F ht⟩) hS.2.2 dX6_settingAt_24
    · have h := h.2 c_7
      exact J_10 _ h _ _ _ hP hD hS (lv_sub hl [] rfl)
def vX6_total (vn : Nat → Int32) (vf : Nat → UInt32) (vs : Nat → Int32) (vd : Nat → Int32) (vo : Nat → Int32) (tm : Nat → Int32) (hc : Nat → Int32) (p1 : Int32) (K : Int32 → Unit → Prop) : Prop :=
  (p1 = (0 : Int32) → K (vn 0) ()) ∧ (¬ p1 = (0 : Int32) → (p1 = (1 : Int32) → K (vn 1) ()) ∧ (¬ p1 = (1 : Int32) → (p1 = (2 : Int32) → K (vn 2) ()) ∧ (¬ p1 = (2 : Int32) → (p1 = (3 : Int32) → K (vn 3) ()) ∧ (¬ p1 = (3 : Int32) → (p1 = (4 : Int32) → ((vn 4) = (0 : Int32) → K (0 : Int32) ()) ∧ (¬ (vn 4) = (0 : Int32) → K (1 : Int32) ())) ∧ (¬ p1 = (4 : Int32) → (p1 = (5 : Int32) → vX5_nextBelow vn vd vo (vf 0) (fun r_136 u_136 => K r_136 ())) ∧ (¬ p1 = (5 : Int32) → (p1 = (6 : Int32) → K (vn 10) ()) ∧ (¬ p1 = (6 : Int32) → (p1 = (7 : Int32) → K (vn 11) ()) ∧ (¬ p1 = (7 : Int32) → (p1 = (8 : Int32) → vX5_countClosed vn vo (fun r_169 u_169 => K r_169 ())) ∧ (¬ p1 = (8 : Int32) → (p1 = (9 : Int32) → K (hc 0) ()) ∧ (¬ p1 = (9 : Int32) → (p1 = (10 : Int32) → K (tm 0) ()) ∧ (¬ p1 = (10 : Int32) → (p1 = (11 : Int32) → K (vn 8) ()) ∧ (¬ p1 = (11 : Int32) → (p1 = (12 : Int32) → K (vn 9) ()) ∧ (¬ p1 = (12 : Int32) → vX6_settingAt vs (p1 - (13 : Int32)) (fun r_213 u_213 => K r_213 ()))))))))))))))
set_option maxRecDepth 100000 in
set_option maxHeartbeats 4000000 in
theorem ctX6_total (l : Launch) (G : va_G) (cy : Nat → ClassId) (g : Nat → Nat) (a : Nat → Nat) (b : Nat → Nat) (t : Nat → Nat) (vn : Nat → Int32) (vf : Nat → UInt32) (vs : Nat → Int32) (vp : Nat → Int32) (vq : Nat → Int32) (vd : Nat → Int32) (vo : Nat → Int32) (un : Nat → Int32) (uf : Nat → UInt32) (us : Nat → Int32) (up : Nat → Int32) (uq : Nat → Int32) (ud : Nat → Int32) (uo : Nat → Int32) (tm : Nat → Int32) (tx : Nat → Int32) (hc : Nat → Int32) (hh : Nat → Sx) (ss : Nat → Sx) (sv : Nat → Int32) (p1 : Int32) (K : Int32 → Unit → Prop) (h : vX6_total vn vf vs vd vo tm hc p1 K) : Met l yX6_total (ws_ yX6_total cX6_total 2 (some .int)) ({ frames := 2, cells := 0, slots := 0, locals := 45 } : Room) (CP G cy [.ref (g 0), .int p1] (mo_W cy g a b t vn vf vs vp vq vd vo un uf us up uq ud uo tm tx hc hh ss sv)) (RI G K (fun u => mo_W cy g a b t vn vf vs vp vq vd vo un uf us up uq ud uo tm tx hc hh ss sv) (A1 (mo_W cy g a b t vn vf vs vp vq vd vo un uf us up uq ud uo tm tx hc hh ss sv))) 0 0 (A1 (mo_W cy g a b t vn vf vs vp vq vd vo un uf us up uq ud uo tm tx hc hh ss sv)) := by
  refine hd_go (Qf := fun A => (RI G K (fun u => mo_W cy g a b t vn vf vs vp vq vd vo un uf us up uq ud uo tm tx hc hh ss sv) A)) (by decide +kernel) (Nat.le_of_ble_eq_true rfl) ?_
  intro p e s m below meth c ls A hx hb hr hlocks S hE hP hD hS hl
  have hl : lv_has ls 2 [(0, .ref (g 0)), (1, .int p1)] := hl
  unfold vX6_total at h
  refine lv_iload_n hx hb dX6_total_0 rfl (lv_at hl 1 rfl) ?_
  rcases Classical.em (p1 = (0 : Int32)) with c_1_0 | c_1_0
  · have h := h.1 c_1_0
    refine lv_tableIn (tgt := 68) hx hb dX6_total_1 (by rw [c_1_0]; decide) (by rw [c_1_0]; decide) (by rw [c_1_0]; try rfl) (by decide) ?_
    refine lv_aload_n hx hb dX6_total_68 rfl (lv_at hl 0 rfl) ?_
    refine kg (v := .ref (a 0)) S hE hP 0 rfl rfl 0 (by decide) q_1_12 rfl rfl inlX6 dX6_total_69 ?_
    refine kg (v := .int (vn 0)) S hE hP 10 rfl rfl 4 (by decide) q_4_20 rfl rfl inlX4 dX6_total_72 ?_
    exact W.iret (v := (vn 0)) hx hb hr (fun t ht hW => ⟨⟨(vn 0), (), rfl, h, ⟨hp_at ht hP, hD⟩⟩, hS.F ht⟩) hS.2.2 dX6_total_75
  · have h := h.2 c_1_0
    rcases Classical.em (p1 = (1 : Int32)) with c_1_1 | c_1_1
    · have h := h.1 c_1_1
      refine lv_tableIn (tgt := 76) hx hb dX6_total_1 (by rw [c_1_1]; decide) (by rw [c_1_1]; decide) (by rw [c_1_1]; try rfl) (by decide) ?_
      refine lv_aload_n hx hb dX6_total_76 rfl (lv_at hl 0 rfl) ?_
      refine kg (v := .ref (a 0)) S hE hP 0 rfl rfl 0 (by decide) q_1_12 rfl rfl inlX6 dX6_total_77 ?_
      refine kg (v := .int (vn 1)) S hE hP 10 rfl rfl 8 (by decide) q_4_21 rfl rfl inlX4 dX6_total_80 ?_
      exact W.iret (v := (vn 1)) hx hb hr (fun t ht hW => ⟨⟨(vn 1), (), rfl, h, ⟨hp_at ht hP, hD⟩⟩, hS.F ht⟩) hS.2.2 dX6_total_83
    · have h := h.2 c_1_1
      rcases Classical.em (p1 = (2 : Int32)) with c_1_2 | c_1_2
      · have h := h.1 c_1_2
        refine lv_tableIn (tgt := 84) hx hb dX6_total_1 (by rw [c_1_2]; decide) (by rw [c_1_2]; decide) (by rw [c_1_2]; try rfl) (by decide) ?_
        refine lv_aload_n hx hb dX6_total_84 rfl (lv_at hl 0 rfl) ?_
        refine kg (v := .ref (a 0)) S hE hP 0 rfl rfl 0 (by decide) q_1_12 rfl rfl inlX6 dX6_total_85 ?_
        refine kg (v := .int (vn 2)) S hE hP 10 rfl rfl 7 (by decide) q_4_22 rfl rfl inlX4 dX6_total_88 ?_
        exact W.iret (v := (vn 2)) hx hb hr (fun t ht hW => ⟨⟨(vn 2), (), rfl, h, ⟨hp_at ht hP, hD⟩⟩, hS.F ht⟩) hS.2.2 dX6_total_91
      · have h := h.2 c_1_2
        rcases Classical.em (p1 = (3 : Int32)) with c_1_3 | c_1_3
        · have h := h.1 c_1_3
          refine lv_tableIn (tgt := 92) hx hb dX6_total_1 (by rw [c_1_3]; decide) (by rw [c_1_3]; decide) (by rw [c_1_3]; try rfl) (by decide) ?_
          refine lv_aload_n hx hb dX6_total_92 rfl (lv_at hl 0 rfl) ?_
          refine kg (v := .ref (a 0)) S hE hP 0 rfl rfl 0 (by decide) q_1_12 rfl rfl inlX6 dX6_total_93 ?_
          refine kg (v := .ref (a 8)) S hE hP 10 rfl rfl 13 (by decide) q_4_23 rfl rfl inlX4 dX6_total_96 ?_
          refine kg (v := .int (vn 3)) S hE hP 18 rfl rfl 3 (by decide) q_5_0 rfl rfl inlX3 dX6_total_99 ?_
          exact W.iret (v := (vn 3)) hx hb hr (fun t ht hW => ⟨⟨(vn 3), (), rfl, h, ⟨hp_at ht hP, hD⟩⟩, hS.F ht⟩) hS.2.2 dX6_total_102
        · have h := h.2 c_1_3
          rcases Classical.em (p1 = (4 : Int32)) with c_1_4 | c_1_4
          · have h := h.1 c_1_4
            refine lv_tableIn (tgt := 103) hx hb dX6_total_1 (by rw [c_1_4]; decide) (by rw [c_1_4]; decide) (by rw [c_1_4]; try rfl) (by decide) ?_
            refine lv_aload_n hx hb dX6_total_103 rfl (lv_at hl 0 rfl) ?_
            refine kg (v := .ref (a 0)) S hE hP 0 rfl rfl 0 (by decide) q_1_12 rfl rfl inlX6 dX6_total_104 ?_
            refine kg (v := .ref (a 8)) S hE hP 10 rfl rfl 13 (by decide) q_4_23 rfl rfl inlX4 dX6_total_107 ?_
            refine kg (v := .int (vn 4)) S hE hP 18 rfl rfl 2 (by decide) q_5_1 rfl rfl inlX3 dX6_total_110 ?_
            refine lv_if_eq (tgt := 120) hx hb dX6_total_113 (by decide) (fun c_113 => ?_) (fun c_113 => ?_)
            · have h := h.1 c_113
              refine lv_iconst (v := (0 : Int32)) hx hb dX6_total_120 (by decide) ?_
              exact W.iret (v := (0 : Int32)) hx hb hr (fun t ht hW => ⟨⟨(0 : Int32), (), rfl, h, ⟨hp_at ht hP, hD⟩⟩, hS.F ht⟩) hS.2.2 dX6_total_121
            · have h := h.2 c_113
              refine lv_iconst (v := (1 : Int32)) hx hb dX6_total_116 (by decide) ?_
              refine lv_goto (tgt := 121) hx hb dX6_total_117 (by decide) ?_
              exact W.iret (v := (1 : Int32)) hx hb hr (fun t ht hW => ⟨⟨(1 : Int32), (), rfl, h, ⟨hp_at ht hP, hD⟩⟩, hS.F ht⟩) hS.2.2 dX6_total_121
          · have h := h.2 c_1_4
            rcases Classical.em (p1 = (5 : Int32)) with c_1_5 | c_1_5
            · have h := h.1 c_1_5
              refine lv_tableIn (tgt := 122) hx hb dX6_total_1 (by rw [c_1_5]; decide) (by rw [c_1_5]; decide) (by rw [c_1_5]; try rfl) (by decide) ?_
              refine lv_aload_n hx hb dX6_total_122 rfl (lv_at hl 0 rfl) ?_
              refine kg (v := .ref (a 0)) S hE hP 0 rfl rfl 0 (by decide) q_1_12 rfl rfl inlX6 dX6_total_123 ?_
              refine kg (v := .ref (a 5)) S hE hP 10 rfl rfl 12 (by decide) q_5_2 rfl rfl inlX4 dX6_total_126 ?_
              refine lv_aload_n hx hb dX6_total_129 rfl (lv_at hl 0 rfl) ?_
              refine kg (v := .ref (a 0)) S hE hP 0 rfl rfl 0 (by decide) q_1_12 rfl rfl inlX6 dX6_total_130 ?_
              refine kg (v := .float (vf 0)) S hE hP 10 rfl rfl 0 (by decide) q_5_3 rfl rfl inlX4 dX6_total_133 ?_
              refine kc_Vi (L := (((g 0, .inr (6, [.ref (a 0), .ref (b 0), .ref (g 1), .ref (g 3), .ref (g 4), .ref (t 0)])) : Nat × va_E) :: st_W cy b un uf us up uq ud uo)) (w0 := st_W cy a vn vf vs vp vq vd vo) (R' := (tx_W cy t tm tx ++ (hr_W cy g hc (fun j => some ((hh j).1 0)) hh ++ tl_W cy g ss sv))) (As := [.float (vf 0)]) (rest := []) S hE (ctX5_nextBelow l G cy a vn vf vs vp vq vd vo (vf 0) _ h) q_5_11 q_5_12 q_5_13 q_2_20 q_5_14 rfl 5 rfl rfl ydX5_nextBelow ⟨⟨rfl, rfl⟩, ⟨Nat.le_of_ble_eq_true rfl, Nat.le_of_ble_eq_true rfl⟩⟩ ⟨Nat.zero_le _, Nat.zero_le _⟩ hP hD hS rfl hl.1 rfl (Nat.le_of_ble_eq_true rfl) dX6_total_136 (fun r_136 u_136 H locs h hP hD hS => ?_)
              have hP : va_P G vwCl (mo_W cy g a b t vn vf vs vp vq vd vo un uf us up uq ud uo tm tx hc hh ss sv) H := hP
              have hD : va_D A (mo_W cy g a b t vn vf vs vp vq vd vo un uf us up uq ud uo tm tx hc hh ss sv) := hD
              exact W.iret (v := r_136) hx hb hr (fun t ht hW => ⟨⟨r_136, (), rfl, h, ⟨hp_at ht hP, hD⟩⟩, hS.F ht⟩) hS.2.2 dX6_total_139
            · have h := h.2 c_1_5
              rcases Classical.em (p1 = (6 : Int32)) with c_1_6 | c_1_6
              · have h := h.1 c_1_6
                refine lv_tableIn (tgt := 140) hx hb dX6_total_1 (by rw [c_1_6]; decide) (by rw [c_1_6]; decide) (by rw [c_1_6]; try rfl) (by decide) ?_
                refine lv_aload_n hx hb dX6_total_140 rfl (lv_at hl 0 rfl) ?_
                refine kg (v := .ref (a 0)) S hE hP 0 rfl rfl 0 (by decide) q_1_12 rfl rfl inlX6 dX6_total_141 ?_
                refine kg (v := .ref (a 2)) S hE hP 10 rfl rfl 11 (by decide) q_5_4 rfl rfl inlX4 dX6_total_144 ?_
                refine kg (v := .int (vn 10)) S hE hP 12 rfl rfl 0 (by decide) q_5_5 rfl rfl inlX2 dX6_total_147 ?_
                exact W.iret (v := (vn 10)) hx hb hr (fun t ht hW => ⟨⟨(vn 10), (), rfl, h, ⟨hp_at ht hP, hD⟩⟩, hS.F ht⟩) hS.2.2 dX6_total_150
              · have h := h.2 c_1_6
                rcases Classical.em (p1 = (7 : Int32)) with c_1_7 | c_1_7
                · have h := h.1 c_1_7
                  refine lv_tableIn (tgt := 151) hx hb dX6_total_1 (by rw [c_1_7]; decide) (by rw [c_1_7]; decide) (by rw [c_1_7]; try rfl) (by decide) ?_
                  refine lv_aload_n hx hb dX6_total_151 rfl (lv_at hl 0 rfl) ?_
                  refine kg (v := .ref (a 0)) S hE hP 0 rfl rfl 0 (by decide) q_1_12 rfl rfl inlX6 dX6_total_152 ?_
                  refine kg (v := .ref (a 5)) S hE hP 10 rfl rfl 12 (by decide) q_5_2 rfl rfl inlX4 dX6_total_155 ?_
                  refine kg (v := .int (vn 11)) S hE hP 15 rfl rfl 0 (by decide) q_5_6 rfl rfl inlX5 dX6_total_158 ?_
                  exact W.iret (v := (vn 11)) hx hb hr (fun t ht hW => ⟨⟨(vn 11), (), rfl, h, ⟨hp_at ht hP, hD⟩⟩, hS.F ht⟩) hS.2.2 dX6_total_161
                · have h := h.2 c_1_7
                  rcases Classical.em (p1 = (8 : Int32)) with c_1_8 | c_1_8
                  · have h := h.1 c_1_8
                    refine lv_tableIn (tgt := 162) hx hb dX6_total_1 (by rw [c_1_8]; decide) (by rw [c_1_8]; decide) (by rw [c_1_8]; try rfl) (by decide) ?_
                    refine lv_aload_n hx hb dX6_total_162 rfl (lv_at hl 0 rfl) ?_
                    refine kg (v := .ref (a 0)) S hE hP 0 rfl rfl 0 (by decide) q_1_12 rfl rfl inlX6 dX6_total_163 ?_
                    refine kg (v := .ref (a 5)) S hE hP 10 rfl rfl 12 (by decide) q_5_2 rfl rfl inlX4 dX6_total_166 ?_
                    refine kc_Vi (L := (((g 0, .inr (6, [.ref (a 0), .ref (b 0), .ref (g 1), .ref (g 3), .ref (g 4), .ref (t 0)])) : Nat × va_E) :: st_W cy b un uf us up uq ud uo)) (w0 := st_W cy a vn vf vs vp vq vd vo) (R' := (tx_W cy t tm tx ++ (hr_W cy g hc (fun j => some ((hh j).1 0)) hh ++ tl_W cy g ss sv))) (As := []) (rest := []) S hE (ctX5_countClosed l G cy a vn vf vs vp vq vd vo  _ h) q_5_21 q_5_22 q_5_23 q_2_20 q_6_0 rfl 5 rfl rfl ydX5_countClosed ⟨⟨rfl, rfl⟩, ⟨Nat.le_of_ble_eq_true rfl, Nat.le_of_ble_eq_true rfl⟩⟩ ⟨Nat.zero_le _, Nat.zero_le _⟩ hP hD hS rfl hl.1 rfl (Nat.le_of_ble_eq_true rfl) dX6_total_169 (fun r_169 u_169 H locs h hP hD hS => ?_)
                    have hP : va_P G vwCl (mo_W cy g a b t vn vf vs vp vq vd vo un uf us up uq ud uo tm tx hc hh ss sv) H := hP
                    have hD : va_D A (mo_W cy g a b t vn vf vs vp vq vd vo un uf us up uq ud uo tm tx hc hh ss sv) := hD
                    exact W.iret (v := r_169) hx hb hr (fun t ht hW => ⟨⟨r_169, (), rfl, h, ⟨hp_at ht hP, hD⟩⟩, hS.F ht⟩) hS.2.2 dX6_total_172
                  · have h := h.2 c_1_8
                    rcases Classical.em (p1 = (9 : Int32)) with c_1_9 | c_1_9
                    · have h := h.1 c_1_9
                      refine lv_tableIn (tgt := 173) hx hb dX6_total_1 (by rw [c_1_9]; decide) (by rw [c_1_9]; decide) (by rw [c_1_9]; try rfl) (by decide) ?_
                      refine lv_aload_n hx hb dX6_total_173 rfl (lv_at hl 0 rfl) ?_
                      refine kg (v := .ref (g 1)) S hE hP 0 rfl rfl 2 (by decide) q_1_17 rfl rfl inlX6 dX6_total_174 ?_
                      refine kg (v := .int (hc 0)) S hE hP 21 rfl rfl 0 (by decide) q_5_7 rfl rfl inlX1 dX6_total_177 ?_
                      exact W.iret (v := (hc 0)) hx hb hr (fun t ht hW => ⟨⟨(hc 0), (), rfl, h, ⟨hp_at ht hP, hD⟩⟩, hS.F ht⟩) hS.2.2 dX6_total_180
                    · have h := h.2 c_1_9
                      rcases Classical.em (p1 = (10 : Int32)) with c_1_10 | c_1_10
                      · have h := h.1 c_1_10
                        refine lv_tableIn (tgt := 181) hx hb dX6_total_1 (by rw [c_1_10]; decide) (by rw [c_1_10]; decide) (by rw [c_1_10]; try rfl) (by decide) ?_
                        refine lv_aload_n hx hb dX6_total_181 rfl (lv_at hl 0 rfl) ?_
                        refine kg (v := .ref (t 0)) S hE hP 0 rfl rfl 5 (by decide) q_2_0 rfl rfl inlX6 dX6_total_182 ?_
                        refine kg (v := .int (tm 0)) S hE hP 19 rfl rfl 0 (by decide) q_5_8 rfl rfl inlX0 dX6_total_185 ?_
                        exact W.iret (v := (tm 0)) hx hb hr (fun t ht hW => ⟨⟨(tm 0), (), rfl, h, ⟨hp_at ht hP, hD⟩⟩, hS.F ht⟩) hS.2.2 dX6_total_188
                      · have h := h.2 c_1_10
                        rcases Classical.em (p1 = (11 : Int32)) with c_1_11 | c_1_11
                        · have h := h.1 c_1_11
                          refine lv_tableIn (tgt := 189) hx hb dX6_total_1 (by rw [c_1_11]; decide) (by rw [c_1_11]; decide) (by rw [c_1_11]; try rfl) (by decide) ?_
                          refine lv_aload_n hx hb dX6_total_189 rfl (lv_at hl 0 rfl) ?_
                          refine kg (v := .ref (a 0)) S hE hP 0 rfl rfl 0 (by decide) q_1_12 rfl rfl inlX6 dX6_total_190 ?_
                          refine kg (v := .int (vn 8)) S hE hP 10 rfl rfl 9 (by decide) q_5_9 rfl rfl inlX4 dX6_total_193 ?_
                          exact W.iret (v := (vn 8)) hx hb hr (fun t ht hW => ⟨⟨(vn 8), (), rfl, h, ⟨hp_at ht hP, hD⟩⟩, hS.F ht⟩) hS.2.2 dX6_total_196
                        · have h := h.2 c_1_11
                          rcases Classical.em (p1 = (12 : Int32)) with c_1_12 | c_1_12
                          · have h := h.1 c_1_12
                            refine lv_tableIn (tgt := 197) hx hb dX6_total_1 (by rw [c_1_12]; decide) (by rw [c_1_12]; decide) (by rw [c_1_12]; try rfl) (by decide) ?_
                            refine lv_aload_n hx hb dX6_total_197 rfl (lv_at hl 0 rfl) ?_
                            refine kg (v := .ref (a 0)) S hE hP 0 rfl rfl 0 (by decide) q_1_12 rfl rfl inlX6 dX6_total_198 ?_
                            refine kg (v := .ref (a 8)) S hE hP 10 rfl rfl 13 (by decide) q_4_23 rfl rfl inlX4 dX6_total_201 ?_
                            refine kg (v := .int (vn 9)) S hE hP 18 rfl rfl 4 (by decide) q_5_10 rfl rfl inlX3 dX6_total_204 ?_
                            exact W.iret (v := (vn 9)) hx hb hr (fun t ht hW => ⟨⟨(vn 9), (), rfl, h, ⟨hp_at ht hP, hD⟩⟩, hS.F ht⟩) hS.2.2 dX6_total_207
                          · have h := h.2 c_1_12
                            have n_0 := lv_neT c_1_0 (a := 0) (by decide)
                            have n_1 := lv_neT c_1_1 (a := 1) (by decide)
                            have n_2 := lv_neT c_1_2 (a := 2) (by decide)
                            have n_3 := lv_neT c_1_3 (a := 3) (by decide)
                            have n_4 := lv_neT c_1_4 (a := 4) (by decide)
                            have n_5 := lv_neT c_1_5 (a := 5) (by decide)
                            have n_6 := lv_neT c_1_6 (a := 6) (by decide)
                            have n_7 := lv_neT c_1_7 (a := 7) (by decide)
                            have n_8 := lv_neT c_1_8 (a := 8) (by decide)
                            have n_9 := lv_neT c_1_9 (a := 9) (by decide)
                            have n_10 := lv_neT c_1_10 (a := 10) (by decide)
                            have n_11 := lv_neT c_1_11 (a := 11) (by decide)
                            have n_12 := lv_neT c_1_12 (a := 12) (by decide)
                            refine lv_tableOut (tgt := 208) hx hb dX6_total_1 (by omega) (by decide) ?_
                            refine lv_aload_n hx hb dX6_total_208 rfl (lv_at hl 0 rfl) ?_
                            refine lv_iload_n hx hb dX6_total_209 rfl (lv_at hl 1 rfl) ?_
                            refine lv_bipush (v := (13 : Int32)) hx hb dX6_total_210 (by decide) ?_
                            refine lv_isub hx hb dX6_total_212 ?_
                            refine kc_Vi0 (As := [.int (p1 - (13 : Int32))]) (rest := []) S hE (ctX6_settingAt l G cy g a b t vn vf vs vp vq vd vo un uf us up uq ud uo tm tx hc hh ss sv (p1 - (13 : Int32)) _ h) q_6_1 q_6_2 q_6_3 q_1_2 q_6_4 rfl 0 rfl rfl ydX6_settingAt ⟨⟨rfl, rfl⟩, ⟨Nat.le_of_ble_eq_true rfl, Nat.le_of_ble_eq_true rfl⟩⟩ ⟨Nat.zero_le _, Nat.zero_le _⟩ hP hD hS rfl hl.1 rfl (Nat.le_of_ble_eq_true rfl) dX6_total_213 (fun r_213 u_213 H locs h hP hD hS => ?_)
                            exact W.iret (v := r_213) hx hb hr (fun t ht hW => ⟨⟨r_213, (), rfl, h, ⟨hp_at ht hP, hD⟩⟩, hS.F ht⟩) hS.2.2 dX6_total_216
def vX6_modeIn_27b (vn : Nat → Int32) (vf : Nat → UInt32) (vs : Nat → Int32) (vp : Nat → Int32) (vq : Nat → Int32) (vd : Nat → Int32) (vo : Nat → Int32) (us : Nat → Int32) (up : Nat → Int32) (uq : Nat → Int32) (ud : Nat → Int32) (uo : Nat → Int32) (x1 : Int32) (K : Int32 → ((Nat → Int32) × (Nat → UInt32) × (Nat → Int32) × (Nat → Int32) × (Nat → Int32) × (Nat → Int32) × (Nat → Int32)) → Prop)  (B27 : (Nat → Int32) → (Nat → UInt32) → Int32 → Prop) (un : Nat → Int32) (uf : Nat → UInt32) (x2 : Int32) : Prop :=
  (x1 ≤ x2 → K (un 0) (un, uf, us, up, uq, ud, uo)) ∧ (¬ x1 ≤ x2 → vX4_passSecond un uf us up uq ud uo (fun u_36 => B27 u_36.1 u_36.2 (x2 + (1 : Int32))))
def vX6_modeIn_27F (vn : Nat → Int32) (vf : Nat → UInt32) (vs : Nat → Int32) (vp : Nat → Int32) (vq : Nat → Int32) (vd : Nat → Int32) (vo : Nat → Int32) (us : Nat → Int32) (up : Nat → Int32) (uq : Nat → Int32) (ud : Nat → Int32) (uo : Nat → Int32) (x1 : Int32) (K : Int32 → ((Nat → Int32) × (Nat → UInt32) × (Nat → Int32) × (Nat → Int32) × (Nat → Int32) × (Nat → Int32) × (Nat → Int32)) → Prop)  : (((Nat → Int32) × (Nat → UInt32) × Int32) → Prop) → ((Nat → Int32) × (Nat → UInt32) × Int32) → Prop := fun B z => vX6_modeIn_27b vn vf vs vp vq vd vo us up uq ud uo x1 K  (fun z0 z1 z2 => B (z0, z1, z2)) z.1 z.2.1 z.2.2
def vX6_modeIn (vn : Nat → Int32) (vf : Nat → UInt32) (vs : Nat → Int32) (vp : Nat → Int32) (vq : Nat → Int32) (vd : Nat → Int32) (vo : Nat → Int32) (un : Nat → Int32) (uf : Nat → UInt32) (us : Nat → Int32) (up : Nat → Int32) (uq : Nat → Int32) (ud : Nat → Int32) (uo : Nat → Int32) (p1 : Int32) (K : Int32 → ((Nat → Int32) × (Nat → UInt32) × (Nat → Int32) × (Nat → Int32) × (Nat → Int32) × (Nat → Int32) × (Nat → Int32)) → Prop) : Prop :=
  (p1 < (0 : Int32) → K (-2 : Int32) (un, uf, us, up, uq, ud, uo)) ∧ (¬ p1 < (0 : Int32) → (p1 ≤ (500 : Int32) → cpre vn vo ∧ ∃ k, lp (vX6_modeIn_27F vn vf vs vp vq vd vo vs vp vq vd vo p1 K ) k (vn, vf, (0 : Int32))) ∧ (¬ p1 ≤ (500 : Int32) → K (-2 : Int32) (un, uf, us, up, uq, ud, uo)))
set_option maxRecDepth 100000 in
set_option maxHeartbeats 4000000 in
theorem ctX6_modeIn (l : Launch) (G : va_G) (cy : Nat → ClassId) (g : Nat → Nat) (a : Nat → Nat) (b : Nat → Nat) (t : Nat → Nat) (vn : Nat → Int32) (vf : Nat → UInt32) (vs : Nat → Int32) (vp : Nat → Int32) (vq : Nat → Int32) (vd : Nat → Int32) (vo : Nat → Int32) (un : Nat → Int32) (uf : Nat → UInt32) (us : Nat → Int32) (up : Nat → Int32) (uq : Nat → Int32) (ud : Nat → Int32) (uo : Nat → Int32) (tm : Nat → Int32) (tx : Nat → Int32) (hc : Nat → Int32) (hh : Nat → Sx) (ss : Nat → Sx) (sv : Nat → Int32) (p1 : Int32) (K : Int32 → ((Nat → Int32) × (Nat → UInt32) × (Nat → Int32) × (Nat → Int32) × (Nat → Int32) × (Nat → Int32) × (Nat → Int32)) → Prop) (h : vX6_modeIn vn vf vs vp vq vd vo un uf us up uq ud uo p1 K) : Met l yX6_modeIn (ws_ yX6_modeIn cX6_modeIn 3 (some .int)) ({ frames := 4, cells := 0, slots := 0, locals := 91 } : Room) (CP G cy [.ref (g 0), .int p1] (mo_W cy g a b t vn vf vs vp vq vd vo un uf us up uq ud uo tm tx hc hh ss sv)) (RI G K (fun u => mo_W cy g a b t vn vf vs vp vq vd vo u.1 u.2.1 u.2.2.1 u.2.2.2.1 u.2.2.2.2.1 u.2.2.2.2.2.1 u.2.2.2.2.2.2 tm tx hc hh ss sv) (A1 (mo_W cy g a b t vn vf vs vp vq vd vo un uf us up uq ud uo tm tx hc hh ss sv))) 0 0 (A1 (mo_W cy g a b t vn vf vs vp vq vd vo un uf us up uq ud uo tm tx hc hh ss sv)) := by
  refine hd_go (Qf := fun A => (RI G K (fun u => mo_W cy g a b t vn vf vs vp vq vd vo u.1 u.2.1 u.2.2.1 u.2.2.2.1 u.2.2.2.2.1 u.2.2.2.2.2.1 u.2.2.2.2.2.2 tm tx hc hh ss sv) A)) (by decide +kernel) (Nat.le_of_ble_eq_true rfl) ?_
  intro p e s m below meth c ls A hx hb hr hlocks S hE hP hD hS hl
  have hl : lv_has ls 3 [(0, .ref (g 0)), (1, .int p1)] := hl
  unfold vX6_modeIn at h
  have L_27 : ∀ (vn : Nat → Int32) (vf : Nat → UInt32) (vs : Nat → Int32) (vp : Nat → Int32) (vq : Nat → Int32) (vd : Nat → Int32) (vo : Nat → Int32) (us : Nat → Int32) (up : Nat → Int32) (uq : Nat → Int32) (ud : Nat → Int32) (uo : Nat → Int32) (x1 : Int32) (k_27 : Nat) (un : Nat → Int32) (uf : Nat → UInt32) (x2 : Int32), lp (vX6_modeIn_27F vn vf vs vp vq vd vo us up uq ud uo x1 K ) k_27 (un, uf, x2) → ∀ (H : Heap) (locs : List Loc) (ls : Array Slot), va_P G vwCl (mo_W cy g a b t vn vf vs vp vq vd vo un uf us up uq ud uo tm tx hc hh ss sv) H → va_D A (mo_W cy g a b t vn vf vs vp vq vd vo un uf us up uq ud uo tm tx hc hh ss sv) → va_S A s.heap H locs → lv_has ls 3 [(0, .ref (g 0)), (1, .int x1), (2, .int x2)] → W p l e (headSpec (ws_ yX6_modeIn cX6_modeIn 3 (some .int)) ({ frames := 4, cells := 0, slots := 0, locals := 91 } : Room)).room s m ([.ref (g 0), .int p1] : List Value).toArray below meth c H locs 0 0 (MQ below (RI G K (fun u => mo_W cy g a b t vn vf vs vp vq vd vo u.1 u.2.1 u.2.2.1 u.2.2.2.1 u.2.2.2.2.1 u.2.2.2.2.2.1 u.2.2.2.2.2.2 tm tx hc hh ss sv) A) ([.ref (g 0), .int p1] : List Value).toArray s 0 0 A) (F0 m 27 ls []) := by
    intro vn vf vs vp vq vd vo us up uq ud uo x1 k_27
    induction k_27 with
    | zero => intro un uf x2 h; exact h.elim
    | succ k_27 ih_27 =>
      intro un uf x2 h H locs ls hP hD hS hl
      have h : vX6_modeIn_27b vn vf vs vp vq vd vo us up uq ud uo x1 K  (fun z0 z1 z2 => lp (vX6_modeIn_27F vn vf vs vp vq vd vo us up uq ud uo x1 K ) k_27 (z0, z1, z2)) un uf x2 := h
      unfold vX6_modeIn_27b at h
      refine lv_iload_n hx hb dX6_modeIn_27 rfl (lv_at hl 2 rfl) ?_
      refine lv_iload_n hx hb dX6_modeIn_28 rfl (lv_at hl 1 rfl) ?_
      refine lv_icmp_ge (tgt := 45) hx hb dX6_modeIn_29 (by decide) (fun c_29 => ?_) (fun c_29 => ?_)
      · have h := h.1 c_29
        refine lv_aload_n hx hb dX6_modeIn_45 rfl (lv_at hl 0 rfl) ?_
        refine kg (v := .ref (b 0)) S hE hP 0 rfl rfl 1 (by decide) q_1_13 rfl rfl inlX6 dX6_modeIn_46 ?_
        refine kg (v := .int (un 0)) S hE hP 1 rfl rfl 4 (by decide) q_4_20 rfl rfl inlX4 dX6_modeIn_49 ?_
        exact W.iret (v := (un 0)) hx hb hr (fun t ht hW => ⟨⟨(un 0), (un, uf, us, up, uq, ud, uo), rfl, h, ⟨hp_at ht hP, hD⟩⟩, hS.F ht⟩) hS.2.2 dX6_modeIn_52
      · have h := h.2 c_29
        refine lv_aload_n hx hb dX6_modeIn_32 rfl (lv_at hl 0 rfl) ?_
        refine kg (v := .ref (b 0)) S hE hP 0 rfl rfl 1 (by decide) q_1_13 rfl rfl inlX6 dX6_modeIn_33 ?_
        refine kc_Vv (L := [((g 0, .inr (6, [.ref (a 0), .ref (b 0), .ref (g 1), .ref (g 3), .ref (g 4), .ref (t 0)])) : Nat × va_E)]) (w0 := st_W cy b un uf us up uq ud uo) (R' := (st_W cy a vn vf vs vp vq vd vo ++ (tx_W cy t tm tx ++ (hr_W cy g hc (fun j => some ((hh j).1 0)) hh ++ tl_W cy g ss sv)))) (As := []) (rest := []) S hE (ctX4_passSecond l G cy b un uf us up uq ud uo  _ h) q_19_17 q_15_8 q_15_9 q_1_11 q_15_10 rfl 0 rfl rfl ydX4_passSecond ⟨⟨rfl, rfl⟩, ⟨Nat.le_of_ble_eq_true rfl, Nat.le_of_ble_eq_true rfl⟩⟩ ⟨Nat.zero_le _, Nat.zero_le _⟩ hP hD hS rfl hl.1 rfl (Nat.le_of_ble_eq_true rfl) dX6_modeIn_36 (fun u_36 H locs h hP hD hS => ?_)
        have hP : va_P G vwCl (mo_W cy g a b t vn vf vs vp vq vd vo u_36.1 u_36.2 us up uq ud uo tm tx hc hh ss sv) H := hP
        have hD : va_D A (mo_W cy g a b t vn vf vs vp vq vd vo u_36.1 u_36.2 us up uq ud uo tm tx hc hh ss sv) := hD
        refine lv_iinc (v := (x2 + (1 : Int32))) (lv' := [(2, .int (x2 + (1 : Int32))), (0, .ref (g 0)), (1, .int x1)]) hx hb dX6_modeIn_39 hl (k := 2) rfl (by rfl) (by decide) rfl (fun ls hl => ?_)
        refine lv_goto (tgt := 27) hx hb dX6_modeIn_42 (by decide) ?_
        exact ih_27 _ _ _ h _ _ _ hP hD hS (lv_sub hl [1, 2, 0] rfl)
  refine lv_iload_n hx hb dX6_modeIn_0 rfl (lv_at hl 1 rfl) ?_
  refine lv_if_lt (tgt := 11) hx hb dX6_modeIn_1 (by decide) (fun c_1 => ?_) (fun c_1 => ?_)
  · have h := h.1 c_1
    refine lv_bipush (v := (-2 : Int32)) hx hb dX6_modeIn_11 (by decide) ?_
    exact W.iret (v := (-2 : Int32)) hx hb hr (fun t ht hW => ⟨⟨(-2 : Int32), (un, uf, us, up, uq, ud, uo), rfl, h, ⟨hp_at ht hP, hD⟩⟩, hS.F ht⟩) hS.2.2 dX6_modeIn_13
  · have h := h.2 c_1
    refine lv_iload_n hx hb dX6_modeIn_4 rfl (lv_at hl 1 rfl) ?_
    refine lv_sipush (v := (500 : Int32)) hx hb dX6_modeIn_5 (by decide) ?_
    refine lv_icmp_le (tgt := 14) hx hb dX6_modeIn_8 (by decide) (fun c_8 => ?_) (fun c_8 => ?_)
    · have h := h.1 c_8
      refine lv_aload_n hx hb dX6_modeIn_14 rfl (lv_at hl 0 rfl) ?_
      refine kg (v := .ref (b 0)) S hE hP 0 rfl rfl 1 (by decide) q_1_13 rfl rfl inlX6 dX6_modeIn_15 ?_
      refine lv_aload_n hx hb dX6_modeIn_18 rfl (lv_at hl 0 rfl) ?_
      refine kg (v := .ref (a 0)) S hE hP 0 rfl rfl 0 (by decide) q_1_12 rfl rfl inlX6 dX6_modeIn_19 ?_
      have q1 := fc_perm (cy := cy) g a b t vn vf vs vp vq vd vo un uf us up uq ud uo tm tx hc hh ss sv
      have q2 := fc_perm (cy := cy) g a b t vn vf vs vp vq vd vo vn vf vs vp vq vd vo tm tx hc hh ss sv
      refine kc_copy (a := b) (b := a) S hE h.1 q_18_12 q1 q2.symm hP hD hS ⟨Nat.le_of_ble_eq_true rfl, Nat.le_of_ble_eq_true rfl⟩ ⟨Nat.zero_le _, Nat.zero_le _⟩ hl.1 (Nat.le_of_ble_eq_true rfl) dX6_modeIn_22 (fun H locs hP hD hS => ?_)
      have h := h.2
      have hP : va_P G vwCl (mo_W cy g a b t vn vf vs vp vq vd vo vn vf vs vp vq vd vo tm tx hc hh ss sv) H := hP
      have hD : va_D A (mo_W cy g a b t vn vf vs vp vq vd vo vn vf vs vp vq vd vo tm tx hc hh ss sv) := hD
      refine lv_iconst (v := (0 : Int32)) hx hb dX6_modeIn_25 (by decide) ?_
      refine lv_istore_n (lv' := [(2, .int (0 : Int32)), (0, .ref (g 0)), (1, .int p1)]) hx hb dX6_modeIn_26 rfl hl (by decide) rfl (fun ls hl => ?_)
      obtain ⟨k0, h⟩ := h
      exact L_27 _ _ _ _ _ _ _ _ _ _ _ _ _ k0 _ _ _ h _ _ _ hP hD hS (lv_sub hl [1, 2, 0] rfl)
    · have h := h.2 c_8
      refine lv_bipush (v := (-2 : Int32)) hx hb dX6_modeIn_11 (by decide) ?_
      exact W.iret (v := (-2 : Int32)) hx hb hr (fun t ht hW => ⟨⟨(-2 : Int32), (un, uf, us, up, uq, ud, uo), rfl, h, ⟨hp_at ht hP, hD⟩⟩, hS.F ht⟩) hS.2.2 dX6_modeIn_13
def vX6_secondsTo_25b (vn : Nat → Int32) (vf : Nat → UInt32) (vs : Nat → Int32) (vp : Nat → Int32) (vq : Nat → Int32) (vd : Nat → Int32) (vo : Nat → Int32) (us : Nat → Int32) (up : Nat → Int32) (uq : Nat → Int32) (ud : Nat → Int32) (uo : Nat → Int32) (x1 : Int32) (K : Int32 → ((Nat → Int32) × (Nat → UInt32) × (Nat → Int32) × (Nat → Int32) × (Nat → Int32) × (Nat → Int32) × (Nat → Int32)) → Prop)  (B25 : (Nat → Int32) → (Nat → UInt32) → Int32 → Prop) (un : Nat → Int32) (uf : Nat → UInt32) (x2 : Int32) : Prop :=
  ((500 : Int32) ≤ x2 → (¬ (un 0) = x1 → K (-5 : Int32) (un, uf, us, up, uq, ud, uo)) ∧ ((un 0) = x1 → K (500 : Int32) (un, uf, us, up, uq, ud, uo))) ∧ (¬ (500 : Int32) ≤ x2 → (¬ (un 0) = x1 → vX4_passSecond un uf us up uq ud uo (fun u_49 => B25 u_49.1 u_49.2 (x2 + (1 : Int32)))) ∧ ((un 0) = x1 → K x2 (un, uf, us, up, uq, ud, uo)))
def vX6_secondsTo_25F (vn : Nat → Int32) (vf : Nat → UInt32) (vs : Nat → Int32) (vp : Nat → Int32) (vq : Nat → Int32) (vd : Nat → Int32) (vo : Nat → Int32) (us : Nat → Int32) (up : Nat → Int32) (uq : Nat → Int32) (ud : Nat → Int32) (uo : Nat → Int32) (x1 : Int32) (K : Int32 → ((Nat → Int32) × (Nat → UInt32) × (Nat → Int32) × (Nat → Int32) × (Nat → Int32) × (Nat → Int32) × (Nat → Int32)) → Prop)  : (((Nat → Int32) × (Nat → UInt32) × Int32) → Prop) → ((Nat → Int32) × (Nat → UInt32) × Int32) → Prop := fun B z => vX6_secondsTo_25b vn vf vs vp vq vd vo us up uq ud uo x1 K  (fun z0 z1 z2 => B (z0, z1, z2)) z.1 z.2.1 z.2.2
def vX6_secondsTo (vn : Nat → Int32) (vf : Nat → UInt32) (vs : Nat → Int32) (vp : Nat → Int32) (vq : Nat → Int32) (vd : Nat → Int32) (vo : Nat → Int32) (un : Nat → Int32) (uf : Nat → UInt32) (us : Nat → Int32) (up : Nat → Int32) (uq : Nat → Int32) (ud : Nat → Int32) (uo : Nat → Int32) (p1 : Int32) (K : Int32 → ((Nat → Int32) × (Nat → UInt32) × (Nat → Int32) × (Nat → Int32) × (Nat → Int32) × (Nat → Int32) × (Nat → Int32)) → Prop) : Prop :=
  (p1 < (0 : Int32) → K (-2 : Int32) (un, uf, us, up, uq, ud, uo)) ∧ (¬ p1 < (0 : Int32) → (p1 ≤ (5 : Int32) → cpre vn vo ∧ ∃ k, lp (vX6_secondsTo_25F vn vf vs vp vq vd vo vs vp vq vd vo p1 K ) k (vn, vf, (0 : Int32))) ∧ (¬ p1 ≤ (5 : Int32) → K (-2 : Int32) (un, uf, us, up, uq, ud, uo)))
set_option maxRecDepth 100000 in
set_option maxHeartbeats 4000000 in
theorem ctX6_secondsTo (l : Launch) (G : va_G) (cy : Nat → ClassId) (g : Nat → Nat) (a : Nat → Nat) (b : Nat → Nat) (t : Nat → Nat) (vn : Nat → Int32) (vf : Nat → UInt32) (vs : Nat → Int32) (vp : Nat → Int32) (vq : Nat → Int32) (vd : Nat → Int32) (vo : Nat → Int32) (un : Nat → Int32) (uf : Nat → UInt32) (us : Nat → Int32) (up : Nat → Int32) (uq : Nat → Int32) (ud : Nat → Int32) (uo : Nat → Int32) (tm : Nat → Int32) (tx : Nat → Int32) (hc : Nat → Int32) (hh : Nat → Sx) (ss : Nat → Sx) (sv : Nat → Int32) (p1 : Int32) (K : Int32 → ((Nat → Int32) × (Nat → UInt32) × (Nat → Int32) × (Nat → Int32) × (Nat → Int32) × (Nat → Int32) × (Nat → Int32)) → Prop) (h : vX6_secondsTo vn vf vs vp vq vd vo un uf us up uq ud uo p1 K) : Met l yX6_secondsTo (ws_ yX6_secondsTo cX6_secondsTo 3 (some .int)) ({ frames := 4, cells := 0, slots := 0, locals := 91 } : Room) (CP G cy [.ref (g 0), .int p1] (mo_W cy g a b t vn vf vs vp vq vd vo un uf us up uq ud uo tm tx hc hh ss sv)) (RI G K (fun u => mo_W cy g a b t vn vf vs vp vq vd vo u.1 u.2.1 u.2.2.1 u.2.2.2.1 u.2.2.2.2.1 u.2.2.2.2.2.1 u.2.2.2.2.2.2 tm tx hc hh ss sv) (A1 (mo_W cy g a b t vn vf vs vp vq vd vo un uf us up uq ud uo tm tx hc hh ss sv))) 0 0 (A1 (mo_W cy g a b t vn vf vs vp vq vd vo un uf us up uq ud uo tm tx hc hh ss sv)) := by
  refine hd_go (Qf := fun A => (RI G K (fun u => mo_W cy g a b t vn vf vs vp vq vd vo u.1 u.2.1 u.2.2.1 u.2.2.2.1 u.2.2.2.2.1 u.2.2.2.2.2.1 u.2.2.2.2.2.2 tm tx hc hh ss sv) A)) (by decide +kernel) (Nat.le_of_ble_eq_true rfl) ?_
  intro p e s m below meth c ls A hx hb hr hlocks S hE hP hD hS hl
  have hl : lv_has ls 3 [(0, .ref (g 0)), (1, .int p1)] := hl
  unfold vX6_secondsTo at h
  have L_25 : ∀ (vn : Nat → Int32) (vf : Nat → UInt32) (vs : Nat → Int32) (vp : Nat → Int32) (vq : Nat → Int32) (vd : Nat → Int32) (vo : Nat → Int32) (us : Nat → Int32) (up : Nat → Int32) (uq : Nat → Int32) (ud : Nat → Int32) (uo : Nat → Int32) (x1 : Int32) (k_25 : Nat) (un : Nat → Int32) (uf : Nat → UInt32) (x2 : Int32), lp (vX6_secondsTo_25F vn vf vs vp vq vd vo us up uq ud uo x1 K ) k_25 (un, uf, x2) → ∀ (H : Heap) (locs : List Loc) (ls : Array Slot), va_P G vwCl (mo_W cy g a b t vn vf vs vp vq vd vo un uf us up uq ud uo tm tx hc hh ss sv) H → va_D A (mo_W cy g a b t vn vf vs vp vq vd vo un uf us up uq ud uo tm tx hc hh ss sv) → va_S A s.heap H locs → lv_has ls 3 [(0, .ref (g 0)), (1, .int x1), (2, .int x2)] → W p l e (headSpec (ws_ yX6_secondsTo cX6_secondsTo 3 (some .int)) ({ frames := 4, cells := 0, slots := 0, locals := 91 } : Room)).room s m ([.ref (g 0), .int p1] : List Value).toArray below meth c H locs 0 0 (MQ below (RI G K (fun u => mo_W cy g a b t vn vf vs vp vq vd vo u.1 u.2.1 u.2.2.1 u.2.2.2.1 u.2.2.2.2.1 u.2.2.2.2.2.1 u.2.2.2.2.2.2 tm tx hc hh ss sv) A) ([.ref (g 0), .int p1] : List Value).toArray s 0 0 A) (F0 m 25 ls []) := by
    intro vn vf vs vp vq vd vo us up uq ud uo x1 k_25
    induction k_25 with
    | zero => intro un uf x2 h; exact h.elim
    | succ k_25 ih_25 =>
      intro un uf x2 h H locs ls hP hD hS hl
      have h : vX6_secondsTo_25b vn vf vs vp vq vd vo us up uq ud uo x1 K  (fun z0 z1 z2 => lp (vX6_secondsTo_25F vn vf vs vp vq vd vo us up uq ud uo x1 K ) k_25 (z0, z1, z2)) un uf x2 := h
      unfold vX6_secondsTo_25b at h
      refine lv_iload_n hx hb dX6_secondsTo_25 rfl (lv_at hl 2 rfl) ?_
      refine lv_sipush (v := (500 : Int32)) hx hb dX6_secondsTo_26 (by decide) ?_
      refine lv_icmp_ge (tgt := 58) hx hb dX6_secondsTo_29 (by decide) (fun c_29 => ?_) (fun c_29 => ?_)
      · have h := h.1 c_29
        refine lv_aload_n hx hb dX6_secondsTo_58 rfl (lv_at hl 0 rfl) ?_
        refine kg (v := .ref (b 0)) S hE hP 0 rfl rfl 1 (by decide) q_1_13 rfl rfl inlX6 dX6_secondsTo_59 ?_
        refine kg (v := .int (un 0)) S hE hP 1 rfl rfl 4 (by decide) q_4_20 rfl rfl inlX4 dX6_secondsTo_62 ?_
        refine lv_iload_n hx hb dX6_secondsTo_65 rfl (lv_at hl 1 rfl) ?_
        refine lv_icmp_ne (tgt := 75) hx hb dX6_secondsTo_66 (by decide) (fun c_66 => ?_) (fun c_66 => ?_)
        · have h := h.1 c_66
          refine lv_bipush (v := (-5 : Int32)) hx hb dX6_secondsTo_75 (by decide) ?_
          exact W.iret (v := (-5 : Int32)) hx hb hr (fun t ht hW => ⟨⟨(-5 : Int32), (un, uf, us, up, uq, ud, uo), rfl, h, ⟨hp_at ht hP, hD⟩⟩, hS.F ht⟩) hS.2.2 dX6_secondsTo_77
        · have h := h.2 c_66
          refine lv_sipush (v := (500 : Int32)) hx hb dX6_secondsTo_69 (by decide) ?_
          refine lv_goto (tgt := 77) hx hb dX6_secondsTo_72 (by decide) ?_
          exact W.iret (v := (500 : Int32)) hx hb hr (fun t ht hW => ⟨⟨(500 : Int32), (un, uf, us, up, uq, ud, uo), rfl, h, ⟨hp_at ht hP, hD⟩⟩, hS.F ht⟩) hS.2.2 dX6_secondsTo_77
      · have h := h.2 c_29
        refine lv_aload_n hx hb dX6_secondsTo_32 rfl (lv_at hl 0 rfl) ?_
        refine kg (v := .ref (b 0)) S hE hP 0 rfl rfl 1 (by decide) q_1_13 rfl rfl inlX6 dX6_secondsTo_33 ?_
        refine kg (v := .int (un 0)) S hE hP 1 rfl rfl 4 (by decide) q_4_20 rfl rfl inlX4 dX6_secondsTo_36 ?_
        refine lv_iload_n hx hb dX6_secondsTo_39 rfl (lv_at hl 1 rfl) ?_
        refine lv_icmp_ne (tgt := 45) hx hb dX6_secondsTo_40 (by decide) (fun c_40 => ?_) (fun c_40 => ?_)
        · have h := h.1 c_40
          refine lv_aload_n hx hb dX6_secondsTo_45 rfl (lv_at hl 0 rfl) ?_
          refine kg (v := .ref (b 0)) S hE hP 0 rfl rfl 1 (by decide) q_1_13 rfl rfl inlX6 dX6_secondsTo_46 ?_
          refine kc_Vv (L := [((g 0, .inr (6, [.ref (a 0), .ref (b 0), .ref (g 1), .ref (g 3), .ref (g 4), .ref (t 0)])) : Nat × va_E)]) (w0 := st_W cy b un uf us up uq ud uo) (R' := (st_W cy a vn vf vs vp vq vd vo ++ (tx_W cy t tm tx ++ (hr_W cy g hc (fun j => some ((hh j).1 0)) hh ++ tl_W cy g ss sv)))) (As := []) (rest := []) S hE (ctX4_passSecond l G cy b un uf us up uq ud uo  _ h) q_19_17 q_15_8 q_15_9 q_1_11 q_15_10 rfl 0 rfl rfl ydX4_passSecond ⟨⟨rfl, rfl⟩, ⟨Nat.le_of_ble_eq_true rfl, Nat.le_of_ble_eq_true rfl⟩⟩ ⟨Nat.zero_le _, Nat.zero_le _⟩ hP hD hS rfl hl.1 rfl (Nat.le_of_ble_eq_true rfl) dX6_secondsTo_49 (fun u_49 H locs h hP hD hS => ?_)
          have hP : va_P G vwCl (mo_W cy g a b t vn vf vs vp vq vd vo u_49.1 u_49.2 us up uq ud uo tm tx hc hh ss sv) H := hP
          have hD : va_D A (mo_W cy g a b t vn vf vs vp vq vd vo u_49.1 u_49.2 us up uq ud uo tm tx hc hh ss sv) := hD
          refine lv_iinc (v := (x2 + (1 : Int32))) (lv' := [(2, .int (x2 + (1 : Int32))), (0, .ref (g 0)), (1, .int x1)]) hx hb dX6_secondsTo_52 hl (k := 2) rfl (by rfl) (by decide) rfl (fun ls hl => ?_)
          refine lv_goto (tgt := 25) hx hb dX6_secondsTo_55 (by decide) ?_
          exact ih_25 _ _ _ h _ _ _ hP hD hS (lv_sub hl [1, 2, 0] rfl)
        · have h := h.2 c_40
          refine lv_iload_n hx hb dX6_secondsTo_43 rfl (lv_at hl 2 rfl) ?_
          exact W.iret (v := x2) hx hb hr (fun t ht hW => ⟨⟨x2, (un, uf, us, up, uq, ud, uo), rfl, h, ⟨hp_at ht hP, hD⟩⟩, hS.F ht⟩) hS.2.2 dX6_secondsTo_44
  refine lv_iload_n hx hb dX6_secondsTo_0 rfl (lv_at hl 1 rfl) ?_
  refine lv_if_lt (tgt := 9) hx hb dX6_secondsTo_1 (by decide) (fun c_1 => ?_) (fun c_1 => ?_)
  · have h := h.1 c_1
    refine lv_bipush (v := (-2 : Int32)) hx hb dX6_secondsTo_9 (by decide) ?_
    exact W.iret (v := (-2 : Int32)) hx hb hr (fun t ht hW => ⟨⟨(-2 : Int32), (un, uf, us, up, uq, ud, uo), rfl, h, ⟨hp_at ht hP, hD⟩⟩, hS.F ht⟩) hS.2.2 dX6_secondsTo_11
  · have h := h.2 c_1
    refine lv_iload_n hx hb dX6_secondsTo_4 rfl (lv_at hl 1 rfl) ?_
    refine lv_iconst (v := (5 : Int32)) hx hb dX6_secondsTo_5 (by decide) ?_
    refine lv_icmp_le (tgt := 12) hx hb dX6_secondsTo_6 (by decide) (fun c_6 => ?_) (fun c_6 => ?_)
    · have h := h.1 c_6
      refine lv_aload_n hx hb dX6_secondsTo_12 rfl (lv_at hl 0 rfl) ?_
      refine kg (v := .ref (b 0)) S hE hP 0 rfl rfl 1 (by decide) q_1_13 rfl rfl inlX6 dX6_secondsTo_13 ?_
      refine lv_aload_n hx hb dX6_secondsTo_16 rfl (lv_at hl 0 rfl) ?_
      refine kg (v := .ref (a 0)) S hE hP 0 rfl rfl 0 (by decide) q_1_12 rfl rfl inlX6 dX6_secondsTo_17 ?_
      have q1 := fc_perm (cy := cy) g a b t vn vf vs vp vq vd vo un uf us up uq ud uo tm tx hc hh ss sv
      have q2 := fc_perm (cy := cy) g a b t vn vf vs vp vq vd vo vn vf vs vp vq vd vo tm tx hc hh ss sv
      refine kc_copy (a := b) (b := a) S hE h.1 q_18_12 q1 q2.symm hP hD hS ⟨Nat.le_of_ble_eq_true rfl, Nat.le_of_ble_eq_true rfl⟩ ⟨Nat.zero_le _, Nat.zero_le _⟩ hl.1 (Nat.le_of_ble_eq_true rfl) dX6_secondsTo_20 (fun H locs hP hD hS => ?_)
      have h := h.2
      have hP : va_P G vwCl (mo_W cy g a b t vn vf vs vp vq vd vo vn vf vs vp vq vd vo tm tx hc hh ss sv) H := hP
      have hD : va_D A (mo_W cy g a b t vn vf vs vp vq vd vo vn vf vs vp vq vd vo tm tx hc hh ss sv) := hD
      refine lv_iconst (v := (0 : Int32)) hx hb dX6_secondsTo_23 (by decide) ?_
      refine lv_istore_n (lv' := [(2, .int (0 : Int32)), (0, .ref (g 0)), (1, .int p1)]) hx hb dX6_secondsTo_24 rfl hl (by decide) rfl (fun ls hl => ?_)
      obtain ⟨k0, h⟩ := h
      exact L_25 _ _ _ _ _ _ _ _ _ _ _ _ _ k0 _ _ _ h _ _ _ hP hD hS (lv_sub hl [1, 2, 0] rfl)
    · have h := h.2 c_6
      refine lv_bipush (v := (-2 : Int32)) hx hb dX6_secondsTo_9 (by decide) ?_
      exact W.iret (v := (-2 : Int32)) hx hb hr (fun t ht hW => ⟨⟨(-2 : Int32), (un, uf, us, up, uq, ud, uo), rfl, h, ⟨hp_at ht hP, hD⟩⟩, hS.F ht⟩) hS.2.2 dX6_secondsTo_11
