def vX4_copyFrom (vn : Nat → Int32) (vf : Nat → UInt32) (vs : Nat → Int32) (vp : Nat → Int32) (vq : Nat → Int32) (vd : Nat → Int32) (vo : Nat → Int32) (vn2 : Nat → Int32) (vf2 : Nat → UInt32) (vs2 : Nat → Int32) (vp2 : Nat → Int32) (vq2 : Nat → Int32) (vd2 : Nat → Int32) (vo2 : Nat → Int32) (K : ((Nat → Int32) × (Nat → UInt32) × (Nat → Int32) × (Nat → Int32) × (Nat → Int32) × (Nat → Int32) × (Nat → Int32)) → Prop) : Prop :=
  vX2_copyFrom (upd (upd (upd (upd (upd vn 0 (vn2 0)) 5 (vn2 5)) 2 (vn2 2)) 1 (vn2 1)) 8 (vn2 8)) vp vq vn2 vp2 vq2 (fun u_103 => vX5_copyFrom u_103.1 vd vo vn2 vd2 vo2 (fun u_114 => vX3_copyFrom u_114.1 vn2 (fun u_125 => K (u_125, (vf_upd (vf_upd (vf_upd (vf_upd (vf_upd vf 0 (vf2 0)) 1 (vf2 1)) 2 (vf2 2)) 3 (vf2 3)) 4 (vf2 4)), (va_cpy vs2 vs 0 0 8), u_103.2.1, u_103.2.2, u_114.2.1, u_114.2.2))))
set_option maxRecDepth 100000 in
set_option maxHeartbeats 4000000 in
theorem ctX4_copyFrom (l : Launch) (G : va_G) (cy : Nat → ClassId) (a : Nat → Nat) (b : Nat → Nat) (vn : Nat → Int32) (vf : Nat → UInt32) (vs : Nat → Int32) (vp : Nat → Int32) (vq : Nat → Int32) (vd : Nat → Int32) (vo : Nat → Int32) (vn2 : Nat → Int32) (vf2 : Nat → UInt32) (vs2 : Nat → Int32) (vp2 : Nat → Int32) (vq2 : Nat → Int32) (vd2 : Nat → Int32) (vo2 : Nat → Int32)  (K : ((Nat → Int32) × (Nat → UInt32) × (Nat → Int32) × (Nat → Int32) × (Nat → Int32) × (Nat → Int32) × (Nat → Int32)) → Prop) (h : vX4_copyFrom vn vf vs vp vq vd vo vn2 vf2 vs2 vp2 vq2 vd2 vo2 K) : Met l yX4_copyFrom (ws_ yX4_copyFrom cX4_copyFrom 2 none) ({ frames := 2, cells := 0, slots := 0, locals := 61 } : Room) (CP G cy [.ref (a 0), .ref (b 0)] (st_W cy a vn vf vs vp vq vd vo ++ st_W cy b vn2 vf2 vs2 vp2 vq2 vd2 vo2)) (RV G K (fun u => st_W cy a u.1 u.2.1 u.2.2.1 u.2.2.2.1 u.2.2.2.2.1 u.2.2.2.2.2.1 u.2.2.2.2.2.2 ++ st_W cy b vn2 vf2 vs2 vp2 vq2 vd2 vo2) (A1 (st_W cy a vn vf vs vp vq vd vo ++ st_W cy b vn2 vf2 vs2 vp2 vq2 vd2 vo2))) 0 0 (A1 (st_W cy a vn vf vs vp vq vd vo ++ st_W cy b vn2 vf2 vs2 vp2 vq2 vd2 vo2)) := by
  refine hd_go (Qf := fun A => (RV G K (fun u => st_W cy a u.1 u.2.1 u.2.2.1 u.2.2.2.1 u.2.2.2.2.1 u.2.2.2.2.2.1 u.2.2.2.2.2.2 ++ st_W cy b vn2 vf2 vs2 vp2 vq2 vd2 vo2) A)) (by decide +kernel) (Nat.le_of_ble_eq_true rfl) ?_
  intro p e s m below meth c ls A hx hb hr hlocks S hE hP hD hS hl
  have hl : lv_has ls 2 [(0, .ref (a 0)), (1, .ref (b 0))] := hl
  unfold vX4_copyFrom at h
  refine lv_aload_n hx hb dX4_copyFrom_0 rfl (lv_at hl 0 rfl) ?_
  refine lv_aload_n hx hb dX4_copyFrom_1 rfl (lv_at hl 1 rfl) ?_
  refine kg (v := .float (vf2 0)) S hE hP 9 rfl rfl 0 (by decide) q_2_6 rfl rfl inlX4 dX4_copyFrom_2 ?_
  refine kp S hE hP hD hS 0 rfl rfl 0 (by decide) q_2_6 rfl rfl tyX4_ok nmX4 inlX4 rfl rfl (Nat.le_of_ble_eq_true rfl) dX4_copyFrom_5 (fun H locs hP hD hS => ?_)
  have hP : va_P G vwCl (st_W cy a vn (vf_upd vf 0 (vf2 0)) vs vp vq vd vo ++ st_W cy b vn2 vf2 vs2 vp2 vq2 vd2 vo2) H := hP
  have hD : va_D A (st_W cy a vn (vf_upd vf 0 (vf2 0)) vs vp vq vd vo ++ st_W cy b vn2 vf2 vs2 vp2 vq2 vd2 vo2) := hD
  refine lv_aload_n hx hb dX4_copyFrom_8 rfl (lv_at hl 0 rfl) ?_
  refine lv_aload_n hx hb dX4_copyFrom_9 rfl (lv_at hl 1 rfl) ?_
  refine kg (v := .float (vf2 1)) S hE hP 9 rfl rfl 1 (by decide) q_9_4 rfl rfl inlX4 dX4_copyFrom_10 ?_
  refine kp S hE hP hD hS 0 rfl rfl 1 (by decide) q_9_4 rfl rfl tyX4_ok nmX4 inlX4 rfl rfl (Nat.le_of_ble_eq_true rfl) dX4_copyFrom_13 (fun H locs hP hD hS => ?_)
  have hP : va_P G vwCl (st_W cy a vn (vf_upd (vf_upd vf 0 (vf2 0)) 1 (vf2 1)) vs vp vq vd vo ++ st_W cy b vn2 vf2 vs2 vp2 vq2 vd2 vo2) H := hP
  have hD : va_D A (st_W cy a vn (vf_upd (vf_upd vf 0 (vf2 0)) 1 (vf2 1)) vs vp vq vd vo ++ st_W cy b vn2 vf2 vs2 vp2 vq2 vd2 vo2) := hD
  refine lv_aload_n hx hb dX4_copyFrom_16 rfl (lv_at hl 0 rfl) ?_
  refine lv_aload_n hx hb dX4_copyFrom_17 rfl (lv_at hl 1 rfl) ?_
  refine kg (v := .float (vf2 2)) S hE hP 9 rfl rfl 2 (by decide) q_9_6 rfl rfl inlX4 dX4_copyFrom_18 ?_
  refine kp S hE hP hD hS 0 rfl rfl 2 (by decide) q_9_6 rfl rfl tyX4_ok nmX4 inlX4 rfl rfl (Nat.le_of_ble_eq_true rfl) dX4_copyFrom_21 (fun H locs hP hD hS => ?_)
  have hP : va_P G vwCl (st_W cy a vn (vf_upd (vf_upd (vf_upd vf 0 (vf2 0)) 1 (vf2 1)) 2 (vf2 2)) vs vp vq vd vo ++ st_W cy b vn2 vf2 vs2 vp2 vq2 vd2 vo2) H := hP
  have hD : va_D A (st_W cy a vn (vf_upd (vf_upd (vf_upd vf 0 (vf2 0)) 1 (vf2 1)) 2 (vf2 2)) vs vp vq vd vo ++ st_W cy b vn2 vf2 vs2 vp2 vq2 vd2 vo2) := hD
  refine lv_aload_n hx hb dX4_copyFrom_24 rfl (lv_at hl 0 rfl) ?_
  refine lv_aload_n hx hb dX4_copyFrom_25 rfl (lv_at hl 1 rfl) ?_
  refine kg (v := .float (vf2 3)) S hE hP 9 rfl rfl 3 (by decide) q_9_17 rfl rfl inlX4 dX4_copyFrom_26 ?_
  refine kp S hE hP hD hS 0 rfl rfl 3 (by decide) q_9_17 rfl rfl tyX4_ok nmX4 inlX4 rfl rfl (Nat.le_of_ble_eq_true rfl) dX4_copyFrom_29 (fun H locs hP hD hS => ?_)
  have hP : va_P G vwCl (st_W cy a vn (vf_upd (vf_upd (vf_upd (vf_upd vf 0 (vf2 0)) 1 (vf2 1)) 2 (vf2 2)) 3 (vf2 3)) vs vp vq vd vo ++ st_W cy b vn2 vf2 vs2 vp2 vq2 vd2 vo2) H := hP
  have hD : va_D A (st_W cy a vn (vf_upd (vf_upd (vf_upd (vf_upd vf 0 (vf2 0)) 1 (vf2 1)) 2 (vf2 2)) 3 (vf2 3)) vs vp vq vd vo ++ st_W cy b vn2 vf2 vs2 vp2 vq2 vd2 vo2) := hD
  refine lv_aload_n hx hb dX4_copyFrom_32 rfl (lv_at hl 0 rfl) ?_
  refine lv_aload_n hx hb dX4_copyFrom_33 rfl (lv_at hl 1 rfl) ?_
  refine kg (v := .int (vn2 0)) S hE hP 9 rfl rfl 4 (by decide) q_11_0 rfl rfl inlX4 dX4_copyFrom_34 ?_
  refine kp S hE hP hD hS 0 rfl rfl 4 (by decide) q_11_0 rfl rfl tyX4_ok nmX4 inlX4 rfl rfl (Nat.le_of_ble_eq_true rfl) dX4_copyFrom_37 (fun H locs hP hD hS => ?_)
  have hP : va_P G vwCl (st_W cy a (upd vn 0 (vn2 0)) (vf_upd (vf_upd (vf_upd (vf_upd vf 0 (vf2 0)) 1 (vf2 1)) 2 (vf2 2)) 3 (vf2 3)) vs vp vq vd vo ++ st_W cy b vn2 vf2 vs2 vp2 vq2 vd2 vo2) H := hP
  have hD : va_D A (st_W cy a (upd vn 0 (vn2 0)) (vf_upd (vf_upd (vf_upd (vf_upd vf 0 (vf2 0)) 1 (vf2 1)) 2 (vf2 2)) 3 (vf2 3)) vs vp vq vd vo ++ st_W cy b vn2 vf2 vs2 vp2 vq2 vd2 vo2) := hD
  refine lv_aload_n hx hb dX4_copyFrom_40 rfl (lv_at hl 0 rfl) ?_
  refine lv_aload_n hx hb dX4_copyFrom_41 rfl (lv_at hl 1 rfl) ?_
  refine kg (v := .int (vn2 5)) S hE hP 9 rfl rfl 5 (by decide) q_2_7 rfl rfl inlX4 dX4_copyFrom_42 ?_
  refine kp S hE hP hD hS 0 rfl rfl 5 (by decide) q_2_7 rfl rfl tyX4_ok nmX4 inlX4 rfl rfl (Nat.le_of_ble_eq_true rfl) dX4_copyFrom_45 (fun H locs hP hD hS => ?_)
  have hP : va_P G vwCl (st_W cy a (upd (upd vn 0 (vn2 0)) 5 (vn2 5)) (vf_upd (vf_upd (vf_upd (vf_upd vf 0 (vf2 0)) 1 (vf2 1)) 2 (vf2 2)) 3 (vf2 3)) vs vp vq vd vo ++ st_W cy b vn2 vf2 vs2 vp2 vq2 vd2 vo2) H := hP
  have hD : va_D A (st_W cy a (upd (upd vn 0 (vn2 0)) 5 (vn2 5)) (vf_upd (vf_upd (vf_upd (vf_upd vf 0 (vf2 0)) 1 (vf2 1)) 2 (vf2 2)) 3 (vf2 3)) vs vp vq vd vo ++ st_W cy b vn2 vf2 vs2 vp2 vq2 vd2 vo2) := hD
  refine lv_aload_n hx hb dX4_copyFrom_48 rfl (lv_at hl 0 rfl) ?_
  refine lv_aload_n hx hb dX4_copyFrom_49 rfl (lv_at hl 1 rfl) ?_
  refine kg (v := .float (vf2 4)) S hE hP 9 rfl rfl 6 (by decide) q_11_1 rfl rfl inlX4 dX4_copyFrom_50 ?_
  refine kp S hE hP hD hS 0 rfl rfl 6 (by decide) q_11_1 rfl rfl tyX4_ok nmX4 inlX4 rfl rfl (Nat.le_of_ble_eq_true rfl) dX4_copyFrom_53 (fun H locs hP hD hS => ?_)
  have hP : va_P G vwCl (st_W cy a (upd (upd vn 0 (vn2 0)) 5 (vn2 5)) (vf_upd (vf_upd (vf_upd (vf_upd (vf_upd vf 0 (vf2 0)) 1 (vf2 1)) 2 (vf2 2)) 3 (vf2 3)) 4 (vf2 4)) vs vp vq vd vo ++ st_W cy b vn2 vf2 vs2 vp2 vq2 vd2 vo2) H := hP
  have hD : va_D A (st_W cy a (upd (upd vn 0 (vn2 0)) 5 (vn2 5)) (vf_upd (vf_upd (vf_upd (vf_upd (vf_upd vf 0 (vf2 0)) 1 (vf2 1)) 2 (vf2 2)) 3 (vf2 3)) 4 (vf2 4)) vs vp vq vd vo ++ st_W cy b vn2 vf2 vs2 vp2 vq2 vd2 vo2) := hD
  refine lv_aload_n hx hb dX4_copyFrom_56 rfl (lv_at hl 0 rfl) ?_
  refine lv_aload_n hx hb dX4_copyFrom_57 rfl (lv_at hl 1 rfl) ?_
  refine kg (v := .int (vn2 2)) S hE hP 9 rfl rfl 7 (by decide) q_11_2 rfl rfl inlX4 dX4_copyFrom_58 ?_
  refine kp S hE hP hD hS 0 rfl rfl 7 (by decide) q_11_2 rfl rfl tyX4_ok nmX4 inlX4 rfl rfl (Nat.le_of_ble_eq_true rfl) dX4_copyFrom_61 (fun H locs hP hD hS => ?_)
  have hP : va_P G vwCl (st_W cy a (upd (upd (upd vn 0 (vn2 0)) 5 (vn2 5)) 2 (vn2 2)) (vf_upd (vf_upd (vf_upd (vf_upd (vf_upd vf 0 (vf2 0)) 1 (vf2 1)) 2 (vf2 2)) 3 (vf2 3)) 4 (vf2 4)) vs vp vq vd vo ++ st_W cy b vn2 vf2 vs2 vp2 vq2 vd2 vo2) H := hP
  have hD : va_D A (st_W cy a (upd (upd (upd vn 0 (vn2 0)) 5 (vn2 5)) 2 (vn2 2)) (vf_upd (vf_upd (vf_upd (vf_upd (vf_upd vf 0 (vf2 0)) 1 (vf2 1)) 2 (vf2 2)) 3 (vf2 3)) 4 (vf2 4)) vs vp vq vd vo ++ st_W cy b vn2 vf2 vs2 vp2 vq2 vd2 vo2) := hD
  refine lv_aload_n hx hb dX4_copyFrom_64 rfl (lv_at hl 0 rfl) ?_
  refine lv_aload_n hx hb dX4_copyFrom_65 rfl (lv_at hl 1 rfl) ?_
  refine kg (v := .int (vn2 1)) S hE hP 9 rfl rfl 8 (by decide) q_11_3 rfl rfl inlX4 dX4_copyFrom_66 ?_
  refine kp S hE hP hD hS 0 rfl rfl 8 (by decide) q_11_3 rfl rfl tyX4_ok nmX4 inlX4 rfl rfl (Nat.le_of_ble_eq_true rfl) dX4_copyFrom_69 (fun H locs hP hD hS => ?_)
  have hP : va_P G vwCl (st_W cy a (upd (upd (upd (upd vn 0 (vn2 0)) 5 (vn2 5)) 2 (vn2 2)) 1 (vn2 1)) (vf_upd (vf_upd (vf_upd (vf_upd (vf_upd vf 0 (vf2 0)) 1 (vf2 1)) 2 (vf2 2)) 3 (vf2 3)) 4 (vf2 4)) vs vp vq vd vo ++ st_W cy b vn2 vf2 vs2 vp2 vq2 vd2 vo2) H := hP
  have hD : va_D A (st_W cy a (upd (upd (upd (upd vn 0 (vn2 0)) 5 (vn2 5)) 2 (vn2 2)) 1 (vn2 1)) (vf_upd (vf_upd (vf_upd (vf_upd (vf_upd vf 0 (vf2 0)) 1 (vf2 1)) 2 (vf2 2)) 3 (vf2 3)) 4 (vf2 4)) vs vp vq vd vo ++ st_W cy b vn2 vf2 vs2 vp2 vq2 vd2 vo2) := hD
  refine lv_aload_n hx hb dX4_copyFrom_72 rfl (lv_at hl 0 rfl) ?_
  refine lv_aload_n hx hb dX4_copyFrom_73 rfl (lv_at hl 1 rfl) ?_
  refine kg (v := .int (vn2 8)) S hE hP 9 rfl rfl 9 (by decide) q_11_4 rfl rfl inlX4 dX4_copyFrom_74 ?_
  refine kp S hE hP hD hS 0 rfl rfl 9 (by decide) q_11_4 rfl rfl tyX4_ok nmX4 inlX4 rfl rfl (Nat.le_of_ble_eq_true rfl) dX4_copyFrom_77 (fun H locs hP hD hS => ?_)
  have hP : va_P G vwCl (st_W cy a (upd (upd (upd (upd (upd vn 0 (vn2 0)) 5 (vn2 5)) 2 (vn2 2)) 1 (vn2 1)) 8 (vn2 8)) (vf_upd (vf_upd (vf_upd (vf_upd (vf_upd vf 0 (vf2 0)) 1 (vf2 1)) 2 (vf2 2)) 3 (vf2 3)) 4 (vf2 4)) vs vp vq vd vo ++ st_W cy b vn2 vf2 vs2 vp2 vq2 vd2 vo2) H := hP
  have hD : va_D A (st_W cy a (upd (upd (upd (upd (upd vn 0 (vn2 0)) 5 (vn2 5)) 2 (vn2 2)) 1 (vn2 1)) 8 (vn2 8)) (vf_upd (vf_upd (vf_upd (vf_upd (vf_upd vf 0 (vf2 0)) 1 (vf2 1)) 2 (vf2 2)) 3 (vf2 3)) 4 (vf2 4)) vs vp vq vd vo ++ st_W cy b vn2 vf2 vs2 vp2 vq2 vd2 vo2) := hD
  refine lv_aload_n hx hb dX4_copyFrom_80 rfl (lv_at hl 1 rfl) ?_
  refine kg (v := .ref (b 1)) S hE hP 9 rfl rfl 10 (by decide) q_2_9 rfl rfl inlX4 dX4_copyFrom_81 ?_
  refine lv_iconst (v := (0 : Int32)) hx hb dX4_copyFrom_84 (by decide) ?_
  refine lv_aload_n hx hb dX4_copyFrom_85 rfl (lv_at hl 0 rfl) ?_
  refine kg (v := .ref (a 1)) S hE hP 0 rfl rfl 10 (by decide) q_2_9 rfl rfl inlX4 dX4_copyFrom_86 ?_
  refine lv_iconst (v := (0 : Int32)) hx hb dX4_copyFrom_89 (by decide) ?_
  refine lv_bipush (v := (8 : Int32)) hx hb dX4_copyFrom_90 (by decide) ?_
  refine kacp S hE hP hD hS hl.1 q_2_10 10 1 rfl rfl (by decide +kernel) tc_8 (by decide) (by decide) (Nat.le_of_ble_eq_true rfl) (Nat.le_of_ble_eq_true rfl) dX4_copyFrom_92 (fun H locs hP hD hS => ?_)
  have hP : va_P G vwCl (st_W cy a (upd (upd (upd (upd (upd vn 0 (vn2 0)) 5 (vn2 5)) 2 (vn2 2)) 1 (vn2 1)) 8 (vn2 8)) (vf_upd (vf_upd (vf_upd (vf_upd (vf_upd vf 0 (vf2 0)) 1 (vf2 1)) 2 (vf2 2)) 3 (vf2 3)) 4 (vf2 4)) (va_cpy vs2 vs 0 0 8) vp vq vd vo ++ st_W cy b vn2 vf2 vs2 vp2 vq2 vd2 vo2) H := hP
  have hD : va_D A (st_W cy a (upd (upd (upd (upd (upd vn 0 (vn2 0)) 5 (vn2 5)) 2 (vn2 2)) 1 (vn2 1)) 8 (vn2 8)) (vf_upd (vf_upd (vf_upd (vf_upd (vf_upd vf 0 (vf2 0)) 1 (vf2 1)) 2 (vf2 2)) 3 (vf2 3)) 4 (vf2 4)) (va_cpy vs2 vs 0 0 8) vp vq vd vo ++ st_W cy b vn2 vf2 vs2 vp2 vq2 vd2 vo2) := hD
  refine lv_aload_n hx hb dX4_copyFrom_95 rfl (lv_at hl 0 rfl) ?_
  refine kg (v := .ref (a 2)) S hE hP 0 rfl rfl 11 (by decide) q_2_17 rfl rfl inlX4 dX4_copyFrom_96 ?_
  refine lv_aload_n hx hb dX4_copyFrom_99 rfl (lv_at hl 1 rfl) ?_
  refine kg (v := .ref (b 2)) S hE hP 9 rfl rfl 11 (by decide) q_2_17 rfl rfl inlX4 dX4_copyFrom_100 ?_
  refine kc_Vv0 (As := [.ref (b 2)]) (rest := []) S hE (ctX2_copyFrom l G cy a b (upd (upd (upd (upd (upd vn 0 (vn2 0)) 5 (vn2 5)) 2 (vn2 2)) 1 (vn2 1)) 8 (vn2 8)) (vf_upd (vf_upd (vf_upd (vf_upd (vf_upd vf 0 (vf2 0)) 1 (vf2 1)) 2 (vf2 2)) 3 (vf2 3)) 4 (vf2 4)) (va_cpy vs2 vs 0 0 8) vp vq vd vo vn2 vf2 vs2 vp2 vq2 vd2 vo2  _ h) q_11_5 q_11_6 q_11_7 q_2_16 q_11_8 rfl 2 rfl rfl ydX2_copyFrom ⟨⟨rfl, rfl⟩, ⟨Nat.le_of_ble_eq_true rfl, Nat.le_of_ble_eq_true rfl⟩⟩ ⟨Nat.zero_le _, Nat.zero_le _⟩ hP hD hS rfl hl.1 rfl (Nat.le_of_ble_eq_true rfl) dX4_copyFrom_103 (fun u_103 H locs h hP hD hS => ?_)
  refine lv_aload_n hx hb dX4_copyFrom_106 rfl (lv_at hl 0 rfl) ?_
  refine kg (v := .ref (a 5)) S hE hP 0 rfl rfl 12 (by decide) q_2_21 rfl rfl inlX4 dX4_copyFrom_107 ?_
  refine lv_aload_n hx hb dX4_copyFrom_110 rfl (lv_at hl 1 rfl) ?_
  refine kg (v := .ref (b 5)) S hE hP 9 rfl rfl 12 (by decide) q_2_21 rfl rfl inlX4 dX4_copyFrom_111 ?_
  refine kc_Vv0 (As := [.ref (b 5)]) (rest := []) S hE (ctX5_copyFrom l G cy a b u_103.1 (vf_upd (vf_upd (vf_upd (vf_upd (vf_upd vf 0 (vf2 0)) 1 (vf2 1)) 2 (vf2 2)) 3 (vf2 3)) 4 (vf2 4)) (va_cpy vs2 vs 0 0 8) u_103.2.1 u_103.2.2 vd vo vn2 vf2 vs2 vp2 vq2 vd2 vo2  _ h) q_11_10 q_11_11 q_11_12 q_2_20 q_11_13 rfl 5 rfl rfl ydX5_copyFrom ⟨⟨rfl, rfl⟩, ⟨Nat.le_of_ble_eq_true rfl, Nat.le_of_ble_eq_true rfl⟩⟩ ⟨Nat.zero_le _, Nat.zero_le _⟩ hP hD hS rfl hl.1 rfl (Nat.le_of_ble_eq_true rfl) dX4_copyFrom_114 (fun u_114 H locs h hP hD hS => ?_)
  refine lv_aload_n hx hb dX4_copyFrom_117 rfl (lv_at hl 0 rfl) ?_
  refine kg (v := .ref (a 8)) S hE hP 0 rfl rfl 13 (by decide) q_3_1 rfl rfl inlX4 dX4_copyFrom_118 ?_
  refine lv_aload_n hx hb dX4_copyFrom_121 rfl (lv_at hl 1 rfl) ?_
  refine kg (v := .ref (b 8)) S hE hP 9 rfl rfl 13 (by decide) q_3_1 rfl rfl inlX4 dX4_copyFrom_122 ?_
  refine kc_Vv0 (As := [.ref (b 8)]) (rest := []) S hE (ctX3_copyFrom l G cy a b u_114.1 (vf_upd (vf_upd (vf_upd (vf_upd (vf_upd vf 0 (vf2 0)) 1 (vf2 1)) 2 (vf2 2)) 3 (vf2 3)) 4 (vf2 4)) (va_cpy vs2 vs 0 0 8) u_103.2.1 u_103.2.2 u_114.2.1 u_114.2.2 vn2 vf2 vs2 vp2 vq2 vd2 vo2  _ h) q_11_14 q_11_15 q_11_16 q_3_0 q_11_17 rfl 8 rfl rfl ydX3_copyFrom ⟨⟨rfl, rfl⟩, ⟨Nat.le_of_ble_eq_true rfl, Nat.le_of_ble_eq_true rfl⟩⟩ ⟨Nat.zero_le _, Nat.zero_le _⟩ hP hD hS rfl hl.1 rfl (Nat.le_of_ble_eq_true rfl) dX4_copyFrom_125 (fun u_125 H locs h hP hD hS => ?_)
  exact W.vret hx hb hr (fun t ht hW => ⟨⟨(u_125, (vf_upd (vf_upd (vf_upd (vf_upd (vf_upd vf 0 (vf2 0)) 1 (vf2 1)) 2 (vf2 2)) 3 (vf2 3)) 4 (vf2 4)), (va_cpy vs2 vs 0 0 8), u_103.2.1, u_103.2.2, u_114.2.1, u_114.2.2), rfl, h, ⟨hp_at ht hP, hD⟩⟩, hS.F ht⟩) hS.2.2 dX4_copyFrom_128
def vX4_enter (vn : Nat → Int32) (p1 : Int32) (K : (Nat → Int32) → Prop) : Prop :=
  K (upd (upd vn 0 p1) 5 (-5 : Int32))
set_option maxRecDepth 100000 in
set_option maxHeartbeats 4000000 in
theorem ctX4_enter (l : Launch) (G : va_G) (cy : Nat → ClassId) (a : Nat → Nat) (vn : Nat → Int32) (vf : Nat → UInt32) (vs : Nat → Int32) (vp : Nat → Int32) (vq : Nat → Int32) (vd : Nat → Int32) (vo : Nat → Int32) (p1 : Int32) (K : (Nat → Int32) → Prop) (h : vX4_enter vn p1 K) : Met l yX4_enter (ws_ yX4_enter cX4_enter 2 none) ({ frames := 0, cells := 0, slots := 0, locals := 0 } : Room) (CP G cy [.ref (a 0), .int p1] (st_W cy a vn vf vs vp vq vd vo)) (RV G K (fun u => st_W cy a u vf vs vp vq vd vo) (A1 (st_W cy a vn vf vs vp vq vd vo))) 0 0 (A1 (st_W cy a vn vf vs vp vq vd vo)) := by
  refine hd_go (Qf := fun A => (RV G K (fun u => st_W cy a u vf vs vp vq vd vo) A)) (by decide +kernel) (Nat.le_of_ble_eq_true rfl) ?_
  intro p e s m below meth c ls A hx hb hr hlocks S hE hP hD hS hl
  have hl : lv_has ls 2 [(0, .ref (a 0)), (1, .int p1)] := hl
  unfold vX4_enter at h
  refine lv_aload_n hx hb dX4_enter_0 rfl (lv_at hl 0 rfl) ?_
  refine lv_iload_n hx hb dX4_enter_1 rfl (lv_at hl 1 rfl) ?_
  refine kp S hE hP hD hS 0 rfl rfl 4 (by decide) q_11_0 rfl rfl tyX4_ok nmX4 inlX4 rfl rfl (Nat.le_of_ble_eq_true rfl) dX4_enter_2 (fun H locs hP hD hS => ?_)
  have hP : va_P G vwCl (st_W cy a (upd vn 0 p1) vf vs vp vq vd vo) H := hP
  have hD : va_D A (st_W cy a (upd vn 0 p1) vf vs vp vq vd vo) := hD
  refine lv_aload_n hx hb dX4_enter_5 rfl (lv_at hl 0 rfl) ?_
  refine lv_bipush (v := (-5 : Int32)) hx hb dX4_enter_6 (by decide) ?_
  refine kp S hE hP hD hS 0 rfl rfl 5 (by decide) q_2_7 rfl rfl tyX4_ok nmX4 inlX4 rfl rfl (Nat.le_of_ble_eq_true rfl) dX4_enter_8 (fun H locs hP hD hS => ?_)
  have hP : va_P G vwCl (st_W cy a (upd (upd vn 0 p1) 5 (-5 : Int32)) vf vs vp vq vd vo) H := hP
  have hD : va_D A (st_W cy a (upd (upd vn 0 p1) 5 (-5 : Int32)) vf vs vp vq vd vo) := hD
  exact W.vret hx hb hr (fun t ht hW => ⟨⟨(upd (upd vn 0 p1) 5 (-5 : Int32)), rfl, h, ⟨hp_at ht hP, hD⟩⟩, hS.F ht⟩) hS.2.2 dX4_enter_11
def vX4_putShip (vn : Nat → Int32) (vf : Nat → UInt32) (p1 : UInt32) (p2 : UInt32) (p3 : UInt32) (p4 : UInt32) (K : ((Nat → Int32) × (Nat → UInt32)) → Prop) : Prop :=
  vX4_enter vn (0 : Int32) (fun u_23 => vX3_startFar (upd u_23 2 (0 : Int32)) (fun u_35 => K (u_35, (vf_upd (vf_upd (vf_upd (vf_upd vf 0 p1) 1 p2) 2 p3) 3 p4))))
set_option maxRecDepth 100000 in
set_option maxHeartbeats 4000000 in
theorem ctX4_putShip (l : Launch) (G : va_G) (cy : Nat → ClassId) (a : Nat → Nat) (vn : Nat → Int32) (vf : Nat → UInt32) (vs : Nat → Int32) (vp : Nat → Int32) (vq : Nat → Int32) (vd : Nat → Int32) (vo : Nat → Int32) (p1 : UInt32) (p2 : UInt32) (p3 : UInt32) (p4 : UInt32) (K : ((Nat → Int32) × (Nat → UInt32)) → Prop) (h : vX4_putShip vn vf p1 p2 p3 p4 K) : Met l yX4_putShip (ws_ yX4_putShip cX4_putShip 5 none) ({ frames := 1, cells := 0, slots := 0, locals := 21 } : Room) (CP G cy [.ref (a 0), .float p1, .float p2, .float p3, .float p4] (st_W cy a vn vf vs vp vq vd vo)) (RV G K (fun u => st_W cy a u.1 u.2 vs vp vq vd vo) (A1 (st_W cy a vn vf vs vp vq vd vo))) 0 0 (A1 (st_W cy a vn vf vs vp vq vd vo)) := by
  refine hd_go (Qf := fun A => (RV G K (fun u => st_W cy a u.1 u.2 vs vp vq vd vo) A)) (by decide +kernel) (Nat.le_of_ble_eq_true rfl) ?_
  intro p e s m below meth c ls A hx hb hr hlocks S hE hP hD hS hl
  have hl : lv_has ls 5 [(0, .ref (a 0)), (1, .float p1), (2, .float p2), (3, .float p3), (4, .float p4)] := hl
  unfold vX4_putShip at h
  refine lv_aload_n hx hb dX4_putShip_0 rfl (lv_at hl 0 rfl) ?_
  refine lv_fload_n hx hb dX4_putShip_1 rfl (lv_at hl 1 rfl) ?_
  refine kp S hE hP hD hS 0 rfl rfl 0 (by decide) q_2_6 rfl rfl tyX4_ok nmX4 inlX4 rfl rfl (Nat.le_of_ble_eq_true rfl) dX4_putShip_2 (fun H locs hP hD hS => ?_)
  have hP : va_P G vwCl (st_W cy a vn (vf_upd vf 0 p1) vs vp vq vd vo) H := hP
  have hD : va_D A (st_W cy a vn (vf_upd vf 0 p1) vs vp vq vd vo) := hD
  refine lv_aload_n hx hb dX4_putShip_5 rfl (lv_at hl 0 rfl) ?_
  refine lv_fload_n hx hb dX4_putShip_6 rfl (lv_at hl 2 rfl) ?_
  refine kp S hE hP hD hS 0 rfl rfl 1 (by decide) q_9_4 rfl rfl tyX4_ok nmX4 inlX4 rfl rfl (Nat.le_of_ble_eq_true rfl) dX4_putShip_7 (fun H locs hP hD hS => ?_)
  have hP : va_P G vwCl (st_W cy a vn (vf_upd (vf_upd vf 0 p1) 1 p2) vs vp vq vd vo) H := hP
  have hD : va_D A (st_W cy a vn (vf_upd (vf_upd vf 0 p1) 1 p2) vs vp vq vd vo) := hD
  refine lv_aload_n hx hb dX4_putShip_10 rfl (lv_at hl 0 rfl) ?_
  refine lv_fload_n hx hb dX4_putShip_11 rfl (lv_at hl 3 rfl) ?_
  refine kp S hE hP hD hS 0 rfl rfl 2 (by decide) q_9_6 rfl rfl tyX4_ok nmX4 inlX4 rfl rfl (Nat.le_of_ble_eq_true rfl) dX4_putShip_12 (fun H locs hP hD hS => ?_)
  have hP : va_P G vwCl (st_W cy a vn (vf_upd (vf_upd (vf_upd vf 0 p1) 1 p2) 2 p3) vs vp vq vd vo) H := hP
  have hD : va_D A (st_W cy a vn (vf_upd (vf_upd (vf_upd vf 0 p1) 1 p2) 2 p3) vs vp vq vd vo) := hD
  refine lv_aload_n hx hb dX4_putShip_15 rfl (lv_at hl 0 rfl) ?_
  refine lv_fload hx hb dX4_putShip_16 (lv_at hl 4 rfl) ?_
  refine kp S hE hP hD hS 0 rfl rfl 3 (by decide) q_9_17 rfl rfl tyX4_ok nmX4 inlX4 rfl rfl (Nat.le_of_ble_eq_true rfl) dX4_putShip_18 (fun H locs hP hD hS => ?_)
  have hP : va_P G vwCl (st_W cy a vn (vf_upd (vf_upd (vf_upd (vf_upd vf 0 p1) 1 p2) 2 p3) 3 p4) vs vp vq vd vo) H := hP
  have hD : va_D A (st_W cy a vn (vf_upd (vf_upd (vf_upd (vf_upd vf 0 p1) 1 p2) 2 p3) 3 p4) vs vp vq vd vo) := hD
  refine lv_aload_n hx hb dX4_putShip_21 rfl (lv_at hl 0 rfl) ?_
  refine lv_iconst (v := (0 : Int32)) hx hb dX4_putShip_22 (by decide) ?_
  refine kc_Vv0 (As := [.int (0 : Int32)]) (rest := []) S hE (ctX4_enter l G cy a vn (vf_upd (vf_upd (vf_upd (vf_upd vf 0 p1) 1 p2) 2 p3) 3 p4) vs vp vq vd vo (0 : Int32) _ h) q_12_0 q_12_1 q_12_2 q_1_11 q_12_3 rfl 0 rfl rfl ydX4_enter ⟨⟨rfl, rfl⟩, ⟨Nat.le_of_ble_eq_true rfl, Nat.le_of_ble_eq_true rfl⟩⟩ ⟨Nat.zero_le _, Nat.zero_le _⟩ hP hD hS rfl hl.1 rfl (Nat.le_of_ble_eq_true rfl) dX4_putShip_23 (fun u_23 H locs h hP hD hS => ?_)
  refine lv_aload_n hx hb dX4_putShip_26 rfl (lv_at hl 0 rfl) ?_
  refine lv_iconst (v := (0 : Int32)) hx hb dX4_putShip_27 (by decide) ?_
  refine kp S hE hP hD hS 0 rfl rfl 7 (by decide) q_11_2 rfl rfl tyX4_ok nmX4 inlX4 rfl rfl (Nat.le_of_ble_eq_true rfl) dX4_putShip_28 (fun H locs hP hD hS => ?_)
  have hP : va_P G vwCl (st_W cy a (upd u_23 2 (0 : Int32)) (vf_upd (vf_upd (vf_upd (vf_upd vf 0 p1) 1 p2) 2 p3) 3 p4) vs vp vq vd vo) H := hP
  have hD : va_D A (st_W cy a (upd u_23 2 (0 : Int32)) (vf_upd (vf_upd (vf_upd (vf_upd vf 0 p1) 1 p2) 2 p3) 3 p4) vs vp vq vd vo) := hD
  refine lv_aload_n hx hb dX4_putShip_31 rfl (lv_at hl 0 rfl) ?_
  refine kg (v := .ref (a 8)) S hE hP 0 rfl rfl 13 (by decide) q_3_1 rfl rfl inlX4 dX4_putShip_32 ?_
  refine kc_Vv0 (As := []) (rest := []) S hE (ctX3_startFar l G cy a (upd u_23 2 (0 : Int32)) (vf_upd (vf_upd (vf_upd (vf_upd vf 0 p1) 1 p2) 2 p3) 3 p4) vs vp vq vd vo  _ h) q_12_4 q_12_5 q_12_6 q_3_0 q_12_7 rfl 8 rfl rfl ydX3_startFar ⟨⟨rfl, rfl⟩, ⟨Nat.le_of_ble_eq_true rfl, Nat.le_of_ble_eq_true rfl⟩⟩ ⟨Nat.zero_le _, Nat.zero_le _⟩ hP hD hS rfl hl.1 rfl (Nat.le_of_ble_eq_true rfl) dX4_putShip_35 (fun u_35 H locs h hP hD hS => ?_)
  exact W.vret hx hb hr (fun t ht hW => ⟨⟨(u_35, (vf_upd (vf_upd (vf_upd (vf_upd vf 0 p1) 1 p2) 2 p3) 3 p4)), rfl, h, ⟨hp_at ht hP, hD⟩⟩, hS.F ht⟩) hS.2.2 dX4_putShip_38
def vX4_startApproach (vn : Nat → Int32) (K : (Nat → Int32) → Prop) : Prop :=
  vX4_enter vn (1 : Int32) (fun u_2 => K (upd u_2 2 (0 : Int32)))
set_option maxRecDepth 100000 in
set_option maxHeartbeats 4000000 in
theorem ctX4_startApproach (l : Launch) (G : va_G) (cy : Nat → ClassId) (a : Nat → Nat) (vn : Nat → Int32) (vf : Nat → UInt32) (vs : Nat → Int32) (vp : Nat → Int32) (vq : Nat → Int32) (vd : Nat → Int32) (vo : Nat → Int32)  (K : (Nat → Int32) → Prop) (h : vX4_startApproach vn K) : Met l yX4_startApproach (ws_ yX4_startApproach cX4_startApproach 1 none) ({ frames := 1, cells := 0, slots := 0, locals := 21 } : Room) (CP G cy [.ref (a 0)] (st_W cy a vn vf vs vp vq vd vo)) (RV G K (fun u => st_W cy a u vf vs vp vq vd vo) (A1 (st_W cy a vn vf vs vp vq vd vo))) 0 0 (A1 (st_W cy a vn vf vs vp vq vd vo)) := by
  refine hd_go (Qf := fun A => (RV G K (fun u => st_W cy a u vf vs vp vq vd vo) A)) (by decide +kernel) (Nat.le_of_ble_eq_true rfl) ?_
  intro p e s m below meth c ls A hx hb hr hlocks S hE hP hD hS hl
  have hl : lv_has ls 1 [(0, .ref (a 0))] := hl
  unfold vX4_startApproach at h
  refine lv_aload_n hx hb dX4_startApproach_0 rfl (lv_at hl 0 rfl) ?_
  refine lv_iconst (v := (1 : Int32)) hx hb dX4_startApproach_1 (by decide) ?_
  refine kc_Vv0 (As := [.int (1 : Int32)]) (rest := []) S hE (ctX4_enter l G cy a vn vf vs vp vq vd vo (1 : Int32) _ h) q_12_0 q_12_1 q_12_2 q_1_11 q_12_3 rfl 0 rfl rfl ydX4_enter ⟨⟨rfl, rfl⟩, ⟨Nat.le_of_ble_eq_true rfl, Nat.le_of_ble_eq_true rfl⟩⟩ ⟨Nat.zero_le _, Nat.zero_le _⟩ hP hD hS rfl hl.1 rfl (Nat.le_of_ble_eq_true rfl) dX4_startApproach_2 (fun u_2 H locs h hP hD hS => ?_)
  refine lv_aload_n hx hb dX4_startApproach_5 rfl (lv_at hl 0 rfl) ?_
  refine lv_iconst (v := (0 : Int32)) hx hb dX4_startApproach_6 (by decide) ?_
  refine kp S hE hP hD hS 0 rfl rfl 7 (by decide) q_11_2 rfl rfl tyX4_ok nmX4 inlX4 rfl rfl (Nat.le_of_ble_eq_true rfl) dX4_startApproach_7 (fun H locs hP hD hS => ?_)
  have hP : va_P G vwCl (st_W cy a (upd u_2 2 (0 : Int32)) vf vs vp vq vd vo) H := hP
  have hD : va_D A (st_W cy a (upd u_2 2 (0 : Int32)) vf vs vp vq vd vo) := hD
  exact W.vret hx hb hr (fun t ht hW => ⟨⟨(upd u_2 2 (0 : Int32)), rfl, h, ⟨hp_at ht hP, hD⟩⟩, hS.F ht⟩) hS.2.2 dX4_startApproach_10
def vX4_hold (vn : Nat → Int32) (vf : Nat → UInt32) (p1 : Int32) (p2 : UInt32) (K : ((Nat → Int32) × (Nat → UInt32)) → Prop) : Prop :=
  K ((upd (upd vn 0 (2 : Int32)) 5 p1), (vf_upd vf 4 p2))
set_option maxRecDepth 100000 in
set_option maxHeartbeats 4000000 in
theorem ctX4_hold (l : Launch) (G : va_G) (cy : Nat → ClassId) (a : Nat → Nat) (vn : Nat → Int32) (vf : Nat → UInt32) (vs : Nat → Int32) (vp : Nat → Int32) (vq : Nat → Int32) (vd : Nat → Int32) (vo : Nat → Int32) (p1 : Int32) (p2 : UInt32) (K : ((Nat → Int32) × (Nat → UInt32)) → Prop) (h : vX4_hold vn vf p1 p2 K) : Met l yX4_hold (ws_ yX4_hold cX4_hold 3 none) ({ frames := 0, cells := 0, slots := 0, locals := 0 } : Room) (CP G cy [.ref (a 0), .int p1, .float p2] (st_W cy a vn vf vs vp vq vd vo)) (RV G K (fun u => st_W cy a u.1 u.2 vs vp vq vd vo) (A1 (st_W cy a vn vf vs vp vq vd vo))) 0 0 (A1 (st_W cy a vn vf vs vp vq vd vo)) := by
  refine hd_go (Qf := fun A => (RV G K (fun u => st_W cy a u.1 u.2 vs vp vq vd vo) A)) (by decide +kernel) (Nat.le_of_ble_eq_true rfl) ?_
  intro p e s m below meth c ls A hx hb hr hlocks S hE hP hD hS hl
  have hl : lv_has ls 3 [(0, .ref (a 0)), (1, .int p1), (2, .float p2)] := hl
  unfold vX4_hold at h
  refine lv_aload_n hx hb dX4_hold_0 rfl (lv_at hl 0 rfl) ?_
  refine lv_iconst (v := (2 : Int32)) hx hb dX4_hold_1 (by decide) ?_
  refine kp S hE hP hD hS 0 rfl rfl 4 (by decide) q_11_0 rfl rfl tyX4_ok nmX4 inlX4 rfl rfl (Nat.le_of_ble_eq_true rfl) dX4_hold_2 (fun H locs hP hD hS => ?_)
  have hP : va_P G vwCl (st_W cy a (upd vn 0 (2 : Int32)) vf vs vp vq vd vo) H := hP
  have hD : va_D A (st_W cy a (upd vn 0 (2 : Int32)) vf vs vp vq vd vo) := hD
  refine lv_aload_n hx hb dX4_hold_5 rfl (lv_at hl 0 rfl) ?_
  refine lv_iload_n hx hb dX4_hold_6 rfl (lv_at hl 1 rfl) ?_
  refine kp S hE hP hD hS 0 rfl rfl 5 (by decide) q_2_7 rfl rfl tyX4_ok nmX4 inlX4 rfl rfl (Nat.le_of_ble_eq_true rfl) dX4_hold_7 (fun H locs hP hD hS => ?_)
  have hP : va_P G vwCl (st_W cy a (upd (upd vn 0 (2 : Int32)) 5 p1) vf vs vp vq vd vo) H := hP
  have hD : va_D A (st_W cy a (upd (upd vn 0 (2 : Int32)) 5 p1) vf vs vp vq vd vo) := hD
  refine lv_aload_n hx hb dX4_hold_10 rfl (lv_at hl 0 rfl) ?_
  refine lv_fload_n hx hb dX4_hold_11 rfl (lv_at hl 2 rfl) ?_
  refine kp S hE hP hD hS 0 rfl rfl 6 (by decide) q_11_1 rfl rfl tyX4_ok nmX4 inlX4 rfl rfl (Nat.le_of_ble_eq_true rfl) dX4_hold_12 (fun H locs hP hD hS => ?_)
  have hP : va_P G vwCl (st_W cy a (upd (upd vn 0 (2 : Int32)) 5 p1) (vf_upd vf 4 p2) vs vp vq vd vo) H := hP
  have hD : va_D A (st_W cy a (upd (upd vn 0 (2 : Int32)) 5 p1) (vf_upd vf 4 p2) vs vp vq vd vo) := hD
  exact W.vret hx hb hr (fun t ht hW => ⟨⟨((upd (upd vn 0 (2 : Int32)) 5 p1), (vf_upd vf 4 p2)), rfl, h, ⟨hp_at ht hP, hD⟩⟩, hS.F ht⟩) hS.2.2 dX4_hold_15
def vX4_hasArrived_16 (vn : Nat → Int32) (K : Int32 → Unit → Prop)  : Prop :=
  K (1 : Int32) ()
def vX4_hasArrived (vn : Nat → Int32) (K : Int32 → Unit → Prop) : Prop :=
  ((vn 0) = (4 : Int32) → vX4_hasArrived_16 vn K ) ∧ (¬ (vn 0) = (4 : Int32) → (¬ (vn 0) = (5 : Int32) → K (0 : Int32) ()) ∧ ((vn 0) = (5 : Int32) → vX4_hasArrived_16 vn K ))
set_option maxRecDepth 100000 in
set_option maxHeartbeats 4000000 in
theorem ctX4_hasArrived (l : Launch) (G : va_G) (cy : Nat → ClassId) (a : Nat → Nat) (vn : Nat → Int32) (vf : Nat → UInt32) (vs : Nat → Int32) (vp : Nat → Int32) (vq : Nat → Int32) (vd : Nat → Int32) (vo : Nat → Int32)  (K : Int32 → Unit → Prop) (h : vX4_hasArrived vn K) : Met l yX4_hasArrived (ws_ yX4_hasArrived cX4_hasArrived 1 (some .boolean)) ({ frames := 0, cells := 0, slots := 0, locals := 0 } : Room) (CP G cy [.ref (a 0)] (st_W cy a vn vf vs vp vq vd vo)) (RI G K (fun u => st_W cy a vn vf vs vp vq vd vo) (A1 (st_W cy a vn vf vs vp vq vd vo))) 0 0 (A1 (st_W cy a vn vf vs vp vq vd vo)) := by
  refine hd_go (Qf := fun A => (RI G K (fun u => st_W cy a vn vf vs vp vq vd vo) A)) (by decide +kernel) (Nat.le_of_ble_eq_true rfl) ?_
  intro p e s m below meth c ls A hx hb hr hlocks S hE hP hD hS hl
  have hl : lv_has ls 1 [(0, .ref (a 0))] := hl
  unfold vX4_hasArrived at h
  have J_16 : ∀ (vn : Nat → Int32), vX4_hasArrived_16 vn K  → ∀ (H : Heap) (locs : List Loc) (ls : Array Slot), va_P G vwCl (st_W cy a vn vf vs vp vq vd vo) H → va_D A (st_W cy a vn vf vs vp vq vd vo) → va_S A s.heap H locs → lv_has ls 1 [] → W p l e (headSpec (ws_ yX4_hasArrived cX4_hasArrived 1 (some .boolean)) ({ frames := 0, cells := 0, slots := 0, locals := 0 } : Room)).room s m ([.ref (a 0)] : List Value).toArray below meth c H locs 0 0 (MQ below (RI G K (fun u => st_W cy a vn vf vs vp vq vd vo) A) ([.ref (a 0)] : List Value).toArray s 0 0 A) (F0 m 16 ls []) := by
    intro vn h H locs ls hP hD hS hl
    unfold vX4_hasArrived_16 at h
    refine lv_iconst (v := (1 : Int32)) hx hb dX4_hasArrived_16 (by decide) ?_
    refine lv_goto (tgt := 21) hx hb dX4_hasArrived_17 (by decide) ?_
    exact W.zret (v := (1 : Int32)) hx hb hr (by decide +kernel) (fun t ht hW => ⟨⟨(1 : Int32), (), rfl, h, ⟨hp_at ht hP, hD⟩⟩, hS.F ht⟩) hS.2.2 dX4_hasArrived_21
  refine lv_aload_n hx hb dX4_hasArrived_0 rfl (lv_at hl 0 rfl) ?_
  refine kg (v := .int (vn 0)) S hE hP 0 rfl rfl 4 (by decide) q_11_0 rfl rfl inlX4 dX4_hasArrived_1 ?_
  refine lv_iconst (v := (4 : Int32)) hx hb dX4_hasArrived_4 (by decide) ?_
  refine lv_icmp_eq (tgt := 16) hx hb dX4_hasArrived_5 (by decide) (fun c_5 => ?_) (fun c_5 => ?_)
  · have h := h.1 c_5
    exact J_16 _ h _ _ _ hP hD hS (lv_sub hl [] rfl)
  · have h := h.2 c_5
    refine lv_aload_n hx hb dX4_hasArrived_8 rfl (lv_at hl 0 rfl) ?_
    refine kg (v := .int (vn 0)) S hE hP 0 rfl rfl 4 (by decide) q_11_0 rfl rfl inlX4 dX4_hasArrived_9 ?_
    refine lv_iconst (v := (5 : Int32)) hx hb dX4_hasArrived_12 (by decide) ?_
    refine lv_icmp_ne (tgt := 20) hx hb dX4_hasArrived_13 (by decide) (fun c_13 => ?_) (fun c_13 => ?_)
    · have h := h.1 c_13
      refine lv_iconst (v := (0 : Int32)) hx hb dX4_hasArrived_20 (by decide) ?_
      exact W.zret (v := (0 : Int32)) hx hb hr (by decide +kernel) (fun t ht hW => ⟨⟨(0 : Int32), (), rfl, h, ⟨hp_at ht hP, hD⟩⟩, hS.F ht⟩) hS.2.2 dX4_hasArrived_21
    · have h := h.2 c_13
      exact J_16 _ h _ _ _ hP hD hS (lv_sub hl [] rfl)
def vX4_errorOf_130 (vn : Nat → Int32) (vo : Nat → Int32) (K : Int32 → Unit → Prop)  : Prop :=
  K (-2 : Int32) ()
def vX4_errorOf_102 (vn : Nat → Int32) (vo : Nat → Int32) (K : Int32 → Unit → Prop)  : Prop :=
  K (-3 : Int32) ()
def vX4_errorOf_80 (vn : Nat → Int32) (vo : Nat → Int32) (K : Int32 → Unit → Prop)  : Prop :=
  K (-3 : Int32) ()
def vX4_errorOf_59 (vn : Nat → Int32) (vo : Nat → Int32) (K : Int32 → Unit → Prop)  : Prop :=
  K (-3 : Int32) ()
def vX4_errorOf (vn : Nat → Int32) (vo : Nat → Int32) (p1 : Int32) (p2 : Int32) (K : Int32 → Unit → Prop) : Prop :=
  (p1 = (98 : Int32) → vX4_hasArrived vn (fun r_88 u_88 => (¬ r_88 = (0 : Int32) → vX4_errorOf_102 vn vo K ) ∧ (r_88 = (0 : Int32) → (¬ (vn 0) = (3 : Int32) → K (0 : Int32) ()) ∧ ((vn 0) = (3 : Int32) → vX4_errorOf_102 vn vo K )))) ∧ (¬ p1 = (98 : Int32) → (p1 = (102 : Int32) → vX4_hasArrived vn (fun r_67 u_67 => (¬ r_67 = (0 : Int32) → vX4_errorOf_80 vn vo K ) ∧ (r_67 = (0 : Int32) → (¬ (vn 0) = (0 : Int32) → K (0 : Int32) ()) ∧ ((vn 0) = (0 : Int32) → vX4_errorOf_80 vn vo K )))) ∧ (¬ p1 = (102 : Int32) → (p1 = (103 : Int32) → vX4_hasArrived vn (fun r_45 u_45 => (¬ r_45 = (0 : Int32) → vX4_errorOf_59 vn vo K ) ∧ (r_45 = (0 : Int32) → (¬ (vn 0) = (1 : Int32) → K (0 : Int32) ()) ∧ ((vn 0) = (1 : Int32) → vX4_errorOf_59 vn vo K )))) ∧ (¬ p1 = (103 : Int32) → (p1 = (111 : Int32) → vX5_errorOfOpening vn vo p2 (fun r_114 u_114 => K r_114 ())) ∧ (¬ p1 = (111 : Int32) → (p2 < (1 : Int32) → vX4_errorOf_130 vn vo K ) ∧ (¬ p2 < (1 : Int32) → (p2 ≤ (200 : Int32) → K (0 : Int32) ()) ∧ (¬ p2 ≤ (200 : Int32) → vX4_errorOf_130 vn vo K ))))))
set_option maxRecDepth 100000 in
set_option maxHeartbeats 4000000 in
theorem ctX4_errorOf (l : Launch) (G : va_G) (cy : Nat → ClassId) (a : Nat → Nat) (vn : Nat → Int32) (vf : Nat → UInt32) (vs : Nat → Int32) (vp : Nat → Int32) (vq : Nat → Int32) (vd : Nat → Int32) (vo : Nat → Int32) (p1 : Int32) (p2 : Int32) (K : Int32 → Unit → Prop) (h : vX4_errorOf vn vo p1 p2 K) : Met l yX4_errorOf (ws_ yX4_errorOf cX4_errorOf 3 (some .int)) ({ frames := 2, cells := 0, slots := 0, locals := 42 } : Room) (CP G cy [.ref (a 0), .int p1, .int p2] (st_W cy a vn vf vs vp vq vd vo)) (RI G K (fun u => st_W cy a vn vf vs vp vq vd vo) (A1 (st_W cy a vn vf vs vp vq vd vo))) 0 0 (A1 (st_W cy a vn vf vs vp vq vd vo)) := by
  refine hd_go (Qf := fun A => (RI G K (fun u => st_W cy a vn vf vs vp vq vd vo) A)) (by decide +kernel) (Nat.le_of_ble_eq_true rfl) ?_
  intro p e s m below meth c ls A hx hb hr hlocks S hE hP hD hS hl
  have hl : lv_has ls 3 [(0, .ref (a 0)), (1, .int p1), (2, .int p2)] := hl
  unfold vX4_errorOf at h
  have J_130 : ∀ (vn : Nat → Int32) (vo : Nat → Int32), vX4_errorOf_130 vn vo K  → ∀ (H : Heap) (locs : List Loc) (ls : Array Slot), va_P G vwCl (st_W cy a vn vf vs vp vq vd vo) H → va_D A (st_W cy a vn vf vs vp vq vd vo) → va_S A s.heap H locs → lv_has ls 3 [] → W p l e (headSpec (ws_ yX4_errorOf cX4_errorOf 3 (some .int)) ({ frames := 2, cells := 0, slots := 0, locals := 42 } : Room)).room s m ([.ref (a 0), .int p1, .int p2] : List Value).toArray below meth c H locs 0 0 (MQ below (RI G K (fun u => st_W cy a vn vf vs vp vq vd vo) A) ([.ref (a 0), .int p1, .int p2] : List Value).toArray s 0 0 A) (F0 m 130 ls []) := by
    intro vn vo h H locs ls hP hD hS hl
    unfold vX4_errorOf_130 at h
    refine lv_bipush (v := (-2 : Int32)) hx hb dX4_errorOf_130 (by decide) ?_
    refine lv_goto (tgt := 136) hx hb dX4_errorOf_132 (by decide) ?_
    exact W.iret (v := (-2 : Int32)) hx hb hr (fun t ht hW => ⟨⟨(-2 : Int32), (), rfl, h, ⟨hp_at ht hP, hD⟩⟩, hS.F ht⟩) hS.2.2 dX4_errorOf_136
  have J_102 : ∀ (vn : Nat → Int32) (vo : Nat → Int32), vX4_errorOf_102 vn vo K  → ∀ (H : Heap) (locs : List Loc) (ls : Array Slot), va_P G vwCl (st_W cy a vn vf vs vp vq vd vo) H → va_D A (st_W cy a vn vf vs vp vq vd vo) → va_S A s.heap H locs → lv_has ls 3 [] → W p l e (headSpec (ws_ yX4_errorOf cX4_errorOf 3 (some .int)) ({ frames := 2, cells := 0, slots := 0, locals := 42 } : Room)).room s m ([.ref (a 0), .int p1, .int p2] : List Value).toArray below meth c H locs 0 0 (MQ below (RI G K (fun u => st_W cy a vn vf vs vp vq vd vo) A) ([.ref (a 0), .int p1, .int p2] : List Value).toArray s 0 0 A) (F0 m 102 ls []) := by
    intro vn vo h H locs ls hP hD hS hl
    unfold vX4_errorOf_102 at h
    refine lv_bipush (v := (-3 : Int32)) hx hb dX4_errorOf_102 (by decide) ?_
    refine lv_goto (tgt := 108) hx hb dX4_errorOf_104 (by decide) ?_
    exact W.iret (v := (-3 : Int32)) hx hb hr (fun t ht hW => ⟨⟨(-3 : Int32), (), rfl, h, ⟨hp_at ht hP, hD⟩⟩, hS.F ht⟩) hS.2.2 dX4_errorOf_108
  have J_80 : ∀ (vn : Nat → Int32) (vo : Nat → Int32), vX4_errorOf_80 vn vo K  → ∀ (H : Heap) (locs : List Loc) (ls : Array Slot), va_P G vwCl (st_W cy a vn vf vs vp vq vd vo) H → va_D A (st_W cy a vn vf vs vp vq vd vo) → va_S A s.heap H locs → lv_has ls 3 [] → W p l e (headSpec (ws_ yX4_errorOf cX4_errorOf 3 (some .int)) ({ frames := 2, cells := 0, slots := 0, locals := 42 } : Room)).room s m ([.ref (a 0), .int p1, .int p2] : List Value).toArray below meth c H locs 0 0 (MQ below (RI G K (fun u => st_W cy a vn vf vs vp vq vd vo) A) ([.ref (a 0), .int p1, .int p2] : List Value).toArray s 0 0 A) (F0 m 80 ls []) := by
    intro vn vo h H locs ls hP hD hS hl
    unfold vX4_errorOf_80 at h
    refine lv_bipush (v := (-3 : Int32)) hx hb dX4_errorOf_80 (by decide) ?_
    refine lv_goto (tgt := 86) hx hb dX4_errorOf_82 (by decide) ?_
    exact W.iret (v := (-3 : Int32)) hx hb hr (fun t ht hW => ⟨⟨(-3 : Int32), (), rfl, h, ⟨hp_at ht hP, hD⟩⟩, hS.F ht⟩) hS.2.2 dX4_errorOf_86
  have J_59 : ∀ (vn : Nat → Int32) (vo : Nat → Int32), vX4_errorOf_59 vn vo K  → ∀ (H : Heap) (locs : List Loc) (ls : Array Slot), va_P G vwCl (st_W cy a vn vf vs vp vq vd vo) H → va_D A (st_W cy a vn vf vs vp vq vd vo) → va_S A s.heap H locs → lv_has ls 3 [] → W p l e (headSpec (ws_ yX4_errorOf cX4_errorOf 3 (some .int)) ({ frames := 2, cells := 0, slots := 0, locals := 42 } : Room)).room s m ([.ref (a 0), .int p1, .int p2] : List Value).toArray below meth c H locs 0 0 (MQ below (RI G K (fun u => st_W cy a vn vf vs vp vq vd vo) A) ([.ref (a 0), .int p1, .int p2] : List Value).toArray s 0 0 A) (F0 m 59 ls []) := by
    intro vn vo h H locs ls hP hD hS hl
    unfold vX4_errorOf_59 at h
    refine lv_bipush (v := (-3 : Int32)) hx hb dX4_errorOf_59 (by decide) ?_
    refine lv_goto (tgt := 65) hx hb dX4_errorOf_61 (by decide) ?_
    exact W.iret (v := (-3 : Int32)) hx hb hr (fun t ht hW => ⟨⟨(-3 : Int32), (), rfl, h, ⟨hp_at ht hP, hD⟩⟩, hS.F ht⟩) hS.2.2 dX4_errorOf_65
  refine lv_iload_n hx hb dX4_errorOf_0 rfl (lv_at hl 1 rfl) ?_
  rcases Classical.em (p1 = (98 : Int32)) with c_1_0 | c_1_0
  · have h := h.1 c_1_0
    refine lv_lookup (tgt := 87) hx hb dX4_errorOf_1 (by decide) (by rw [c_1_0]; try rfl) (by decide) ?_
    refine lv_aload_n hx hb dX4_errorOf_87 rfl (lv_at hl 0 rfl) ?_
    refine kc_Vi0 (As := []) (rest := []) S hE (ctX4_hasArrived l G cy a vn vf vs vp vq vd vo  _ h) q_14_8 q_14_9 q_14_10 q_1_11 q_14_11 rfl 0 rfl rfl ydX4_hasArrived ⟨⟨rfl, rfl⟩, ⟨Nat.le_of_ble_eq_true rfl, Nat.le_of_ble_eq_true rfl⟩⟩ ⟨Nat.zero_le _, Nat.zero_le _⟩ hP hD hS rfl hl.1 rfl (Nat.le_of_ble_eq_true rfl) dX4_errorOf_88 (fun r_88 u_88 H locs h hP hD hS => ?_)
    refine lv_if_ne (tgt := 102) hx hb dX4_errorOf_91 (by decide) (fun c_91 => ?_) (fun c_91 => ?_)
    · have h := h.1 c_91
      exact J_102 _ _ h _ _ _ hP hD hS (lv_sub hl [] rfl)
    · have h := h.2 c_91
      refine lv_aload_n hx hb dX4_errorOf_94 rfl (lv_at hl 0 rfl) ?_
      refine kg (v := .int (vn 0)) S hE hP 0 rfl rfl 4 (by decide) q_11_0 rfl rfl inlX4 dX4_errorOf_95 ?_
      refine lv_iconst (v := (3 : Int32)) hx hb dX4_errorOf_98 (by decide) ?_
      refine lv_icmp_ne (tgt := 107) hx hb dX4_errorOf_99 (by decide) (fun c_99 => ?_) (fun c_99 => ?_)
      · have h := h.1 c_99
        refine lv_iconst (v := (0 : Int32)) hx hb dX4_errorOf_107 (by decide) ?_
        exact W.iret (v := (0 : Int32)) hx hb hr (fun t ht hW => ⟨⟨(0 : Int32), (), rfl, h, ⟨hp_at ht hP, hD⟩⟩, hS.F ht⟩) hS.2.2 dX4_errorOf_108
      · have h := h.2 c_99
        exact J_102 _ _ h _ _ _ hP hD hS (lv_sub hl [] rfl)
  · have h := h.2 c_1_0
    rcases Classical.em (p1 = (102 : Int32)) with c_1_1 | c_1_1
    · have h := h.1 c_1_1
      refine lv_lookup (tgt := 66) hx hb dX4_errorOf_1 (by decide) (by rw [c_1_1]; try rfl) (by decide) ?_
      refine lv_aload_n hx hb dX4_errorOf_66 rfl (lv_at hl 0 rfl) ?_
      refine kc_Vi0 (As := []) (rest := []) S hE (ctX4_hasArrived l G cy a vn vf vs vp vq vd vo  _ h) q_14_8 q_14_9 q_14_10 q_1_11 q_14_11 rfl 0 rfl rfl ydX4_hasArrived ⟨⟨rfl, rfl⟩, ⟨Nat.le_of_ble_eq_true rfl, Nat.le_of_ble_eq_true rfl⟩⟩ ⟨Nat.zero_le _, Nat.zero_le _⟩ hP hD hS rfl hl.1 rfl (Nat.le_of_ble_eq_true rfl) dX4_errorOf_67 (fun r_67 u_67 H locs h hP hD hS => ?_)
      refine lv_if_ne (tgt := 80) hx hb dX4_errorOf_70 (by decide) (fun c_70 => ?_) (fun c_70 => ?_)
      · have h := h.1 c_70
        exact J_80 _ _ h _ _ _ hP hD hS (lv_sub hl [] rfl)
      · have h := h.2 c_70
        refine lv_aload_n hx hb dX4_errorOf_73 rfl (lv_at hl 0 rfl) ?_
        refine kg (v := .int (vn 0)) S hE hP 0 rfl rfl 4 (by decide) q_11_0 rfl rfl inlX4 dX4_errorOf_74 ?_
        refine lv_if_ne (tgt := 85) hx hb dX4_errorOf_77 (by decide) (fun c_77 => ?_) (fun c_77 => ?_)
        · have h := h.1 c_77
          refine lv_iconst (v := (0 : Int32)) hx hb dX4_errorOf_85 (by decide) ?_
          exact W.iret (v := (0 : Int32)) hx hb hr (fun t ht hW => ⟨⟨(0 : Int32), (), rfl, h, ⟨hp_at ht hP, hD⟩⟩, hS.F ht⟩) hS.2.2 dX4_errorOf_86
        · have h := h.2 c_77
          exact J_80 _ _ h _ _ _ hP hD hS (lv_sub hl [] rfl)
    · have h := h.2 c_1_1
      rcases Classical.em (p1 = (103 : Int32)) with c_1_2 | c_1_2
      · have h := h.1 c_1_2
        refine lv_lookup (tgt := 44) hx hb dX4_errorOf_1 (by decide) (by rw [c_1_2]; try rfl) (by decide) ?_
        refine lv_aload_n hx hb dX4_errorOf_44 rfl (lv_at hl 0 rfl) ?_
        refine kc_Vi0 (As := []) (rest := []) S hE (ctX4_hasArrived l G cy a vn vf vs vp vq vd vo  _ h) q_14_8 q_14_9 q_14_10 q_1_11 q_14_11 rfl 0 rfl rfl ydX4_hasArrived ⟨⟨rfl, rfl⟩, ⟨Nat.le_of_ble_eq_true rfl, Nat.le_of_ble_eq_true rfl⟩⟩ ⟨Nat.zero_le _, Nat.zero_le _⟩ hP hD hS rfl hl.1 rfl (Nat.le_of_ble_eq_true rfl) dX4_errorOf_45 (fun r_45 u_45 H locs h hP hD hS => ?_)
        refine lv_if_ne (tgt := 59) hx hb dX4_errorOf_48 (by decide) (fun c_48 => ?_) (fun c_48 => ?_)
        · have h := h.1 c_48
          exact J_59 _ _ h _ _ _ hP hD hS (lv_sub hl [] rfl)
        · have h := h.2 c_48
          refine lv_aload_n hx hb dX4_errorOf_51 rfl (lv_at hl 0 rfl) ?_
          refine kg (v := .int (vn 0)) S hE hP 0 rfl rfl 4 (by decide) q_11_0 rfl rfl inlX4 dX4_errorOf_52 ?_
          refine lv_iconst (v := (1 : Int32)) hx hb dX4_errorOf_55 (by decide) ?_
          refine lv_icmp_ne (tgt := 64) hx hb dX4_errorOf_56 (by decide) (fun c_56 => ?_) (fun c_56 => ?_)
          · have h := h.1 c_56
            refine lv_iconst (v := (0 : Int32)) hx hb dX4_errorOf_64 (by decide) ?_
            exact W.iret (v := (0 : Int32)) hx hb hr (fun t ht hW => ⟨⟨(0 : Int32), (), rfl, h, ⟨hp_at ht hP, hD⟩⟩, hS.F ht⟩) hS.2.2 dX4_errorOf_65
          · have h := h.2 c_56
            exact J_59 _ _ h _ _ _ hP hD hS (lv_sub hl [] rfl)
      · have h := h.2 c_1_2
        rcases Classical.em (p1 = (111 : Int32)) with c_1_3 | c_1_3
        · have h := h.1 c_1_3
          refine lv_lookup (tgt := 109) hx hb dX4_errorOf_1 (by decide) (by rw [c_1_3]; try rfl) (by decide) ?_
          refine lv_aload_n hx hb dX4_errorOf_109 rfl (lv_at hl 0 rfl) ?_
          refine kg (v := .ref (a 5)) S hE hP 0 rfl rfl 12 (by decide) q_2_21 rfl rfl inlX4 dX4_errorOf_110 ?_
          refine lv_iload_n hx hb dX4_errorOf_113 rfl (lv_at hl 2 rfl) ?_
          refine kc_Vi0 (As := [.int p2]) (rest := []) S hE (ctX5_errorOfOpening l G cy a vn vf vs vp vq vd vo p2 _ h) q_14_12 q_14_13 q_14_14 q_2_20 q_14_15 rfl 5 rfl rfl ydX5_errorOfOpening ⟨⟨rfl, rfl⟩, ⟨Nat.le_of_ble_eq_true rfl, Nat.le_of_ble_eq_true rfl⟩⟩ ⟨Nat.zero_le _, Nat.zero_le _⟩ hP hD hS rfl hl.1 rfl (Nat.le_of_ble_eq_true rfl) dX4_errorOf_114 (fun r_114 u_114 H locs h hP hD hS => ?_)
          exact W.iret (v := r_114) hx hb hr (fun t ht hW => ⟨⟨r_114, (), rfl, h, ⟨hp_at ht hP, hD⟩⟩, hS.F ht⟩) hS.2.2 dX4_errorOf_117
        · have h := h.2 c_1_3
          refine lv_lookup (tgt := 118) (off := 117) hx hb dX4_errorOf_1 (by decide) (by rw [show (Op.lookupswitch.offset _ _ _) = _ from lv_osw c_1_0 (by decide)]; rw [show (Op.lookupswitch.offset _ _ _) = _ from lv_osw c_1_1 (by decide)]; rw [show (Op.lookupswitch.offset _ _ _) = _ from lv_osw c_1_2 (by decide)]; rw [show (Op.lookupswitch.offset _ _ _) = _ from lv_osw c_1_3 (by decide)]; try rfl) (by decide) ?_
          refine lv_iload_n hx hb dX4_errorOf_118 rfl (lv_at hl 2 rfl) ?_
          refine lv_iconst (v := (1 : Int32)) hx hb dX4_errorOf_119 (by decide) ?_
          refine lv_icmp_lt (tgt := 130) hx hb dX4_errorOf_120 (by decide) (fun c_120 => ?_) (fun c_120 => ?_)
          · have h := h.1 c_120
            exact J_130 _ _ h _ _ _ hP hD hS (lv_sub hl [] rfl)
          · have h := h.2 c_120
            refine lv_iload_n hx hb dX4_errorOf_123 rfl (lv_at hl 2 rfl) ?_
            refine lv_sipush (v := (200 : Int32)) hx hb dX4_errorOf_124 (by decide) ?_
            refine lv_icmp_le (tgt := 135) hx hb dX4_errorOf_127 (by decide) (fun c_127 => ?_) (fun c_127 => ?_)
            · have h := h.1 c_127
              refine lv_iconst (v := (0 : Int32)) hx hb dX4_errorOf_135 (by decide) ?_
              exact W.iret (v := (0 : Int32)) hx hb hr (fun t ht hW => ⟨⟨(0 : Int32), (), rfl, h, ⟨hp_at ht hP, hD⟩⟩, hS.F ht⟩) hS.2.2 dX4_errorOf_136
            · have h := h.2 c_127
              exact J_130 _ _ h _ _ _ hP hD hS (lv_sub hl [] rfl)
def vX4_isTooFast (vn : Nat → Int32) (vf : Nat → UInt32) (vp : Nat → Int32) (vq : Nat → Int32) (p1 : UInt32) (K : Int32 → Unit → Prop) : Prop :=
  vf_n32 (FP.fsub FP.fconst0 p1) ∧ vX2_limitAt vn vp vq (vf 0) (fun r_11 u_11 => vf_n32 (FP.fadd r_11 (1008981770 : UInt32)) ∧ ((fcl (FP.fsub FP.fconst0 p1) (FP.fadd r_11 (1008981770 : UInt32))) ≤ (0 : Int32) → K (0 : Int32) ()) ∧ (¬ (fcl (FP.fsub FP.fconst0 p1) (FP.fadd r_11 (1008981770 : UInt32))) ≤ (0 : Int32) → K (1 : Int32) ()))
set_option maxRecDepth 100000 in
set_option maxHeartbeats 4000000 in
theorem ctX4_isTooFast (l : Launch) (G : va_G) (cy : Nat → ClassId) (a : Nat → Nat) (vn : Nat → Int32) (vf : Nat → UInt32) (vs : Nat → Int32) (vp : Nat → Int32) (vq : Nat → Int32) (vd : Nat → Int32) (vo : Nat → Int32) (p1 : UInt32) (K : Int32 → Unit → Prop) (h : vX4_isTooFast vn vf vp vq p1 K) : Met l yX4_isTooFast (ws_ yX4_isTooFast cX4_isTooFast 2 (some .boolean)) ({ frames := 1, cells := 0, slots := 0, locals := 26 } : Room) (CP G cy [.ref (a 0), .float p1] (st_W cy a vn vf vs vp vq vd vo)) (RI G K (fun u => st_W cy a vn vf vs vp vq vd vo) (A1 (st_W cy a vn vf vs vp vq vd vo))) 0 0 (A1 (st_W cy a vn vf vs vp vq vd vo)) := by
  refine hd_go (Qf := fun A => (RI G K (fun u => st_W cy a vn vf vs vp vq vd vo) A)) (by decide +kernel) (Nat.le_of_ble_eq_true rfl) ?_
  intro p e s m below meth c ls A hx hb hr hlocks S hE hP hD hS hl
  have hl : lv_has ls 2 [(0, .ref (a 0)), (1, .float p1)] := hl
  unfold vX4_isTooFast at h
  refine lv_fconst0 hx hb dX4_isTooFast_0 ?_
  refine lv_fload_n hx hb dX4_isTooFast_1 rfl (lv_at hl 1 rfl) ?_
  refine lv_fsub hx hb dX4_isTooFast_2 h.1 ?_
  have h := h.2
  refine lv_aload_n hx hb dX4_isTooFast_3 rfl (lv_at hl 0 rfl) ?_
  refine kg (v := .ref (a 2)) S hE hP 0 rfl rfl 11 (by decide) q_2_17 rfl rfl inlX4 dX4_isTooFast_4 ?_
  refine lv_aload_n hx hb dX4_isTooFast_7 rfl (lv_at hl 0 rfl) ?_
  refine kg (v := .float (vf 0)) S hE hP 0 rfl rfl 0 (by decide) q_2_6 rfl rfl inlX4 dX4_isTooFast_8 ?_
  refine kc_Vf0 (As := [.float (vf 0)]) (rest := [.float (FP.fsub FP.fconst0 p1)]) S hE (ctX2_limitAt l G cy a vn vf vs vp vq vd vo (vf 0) _ h) q_9_12 q_7_10 q_7_11 q_2_16 q_7_12 rfl 2 rfl rfl ydX2_limitAt ⟨⟨rfl, rfl⟩, ⟨Nat.le_of_ble_eq_true rfl, Nat.le_of_ble_eq_true rfl⟩⟩ ⟨Nat.zero_le _, Nat.zero_le _⟩ hP hD hS rfl hl.1 rfl (Nat.le_of_ble_eq_true rfl) dX4_isTooFast_11 (fun r_11 u_11 H locs h hP hD hS => ?_)
  refine lv_ldcf hx hb S.2.2.2.1 (S.2.2.2.2 _ q_9_11) dX4_isTooFast_14 ?_
  refine lv_fadd hx hb dX4_isTooFast_16 h.1 ?_
  have h := h.2
  refine lv_fcmp hx hb dX4_isTooFast_17 ?_
  refine lv_if_le (tgt := 25) hx hb dX4_isTooFast_18 (by decide) (fun c_18 => ?_) (fun c_18 => ?_)
  · have h := h.1 c_18
    refine lv_iconst (v := (0 : Int32)) hx hb dX4_isTooFast_25 (by decide) ?_
    exact W.zret (v := (0 : Int32)) hx hb hr (by decide +kernel) (fun t ht hW => ⟨⟨(0 : Int32), (), rfl, h, ⟨hp_at ht hP, hD⟩⟩, hS.F ht⟩) hS.2.2 dX4_isTooFast_26
  · have h := h.2 c_18
    refine lv_iconst (v := (1 : Int32)) hx hb dX4_isTooFast_21 (by decide) ?_
    refine lv_goto (tgt := 26) hx hb dX4_isTooFast_22 (by decide) ?_
    exact W.zret (v := (1 : Int32)) hx hb hr (by decide +kernel) (fun t ht hW => ⟨⟨(1 : Int32), (), rfl, h, ⟨hp_at ht hP, hD⟩⟩, hS.F ht⟩) hS.2.2 dX4_isTooFast_26
def vX4_hasUnsafeDrift_124 (vf : Nat → UInt32) (vs : Nat → Int32) (x1 : UInt32) (x2 : UInt32) (x3 : UInt32) (x5 : UInt32) (x6 : UInt32) (x7 : UInt32) (x8 : Int32) (K : Int32 → Unit → Prop) (B56 : UInt32 → UInt32 → Int32 → Prop) : Prop :=
  B56 x6 x7 (x8 + (1 : Int32))
def vX4_hasUnsafeDrift_56b (vf : Nat → UInt32) (vs : Nat → Int32) (x1 : UInt32) (x2 : UInt32) (x3 : UInt32) (x5 : UInt32) (K : Int32 → Unit → Prop)  (B56 : UInt32 → UInt32 → Int32 → Prop) (x6 : UInt32) (x7 : UInt32) (x8 : Int32) : Prop :=
  ((vs 6) ≤ x8 → K (0 : Int32) ()) ∧ (¬ (vs 6) ≤ x8 → vf_n32 (FP.fadd x6 x1) ∧ vf_n32 (FP.fadd x7 (vf 3)) ∧ vf_n32 (FP.fmul (FP.fadd x6 x1) (FP.fadd x6 x1)) ∧ vf_n32 (FP.fmul (FP.fadd x7 (vf 3)) (FP.fadd x7 (vf 3))) ∧ vf_n32 (FP.fadd (FP.fmul (FP.fadd x6 x1) (FP.fadd x6 x1)) (FP.fmul (FP.fadd x7 (vf 3)) (FP.fadd x7 (vf 3)))) ∧ ((0 : Int32) ≤ (fcg (FP.fadd (FP.fmul (FP.fadd x6 x1) (FP.fadd x6 x1)) (FP.fmul (FP.fadd x7 (vf 3)) (FP.fadd x7 (vf 3)))) x5) → vX4_hasUnsafeDrift_124 vf vs x1 x2 x3 x5 (FP.fadd x6 x1) (FP.fadd x7 (vf 3)) x8 K B56) ∧ (¬ (0 : Int32) ≤ (fcg (FP.fadd (FP.fmul (FP.fadd x6 x1) (FP.fadd x6 x1)) (FP.fmul (FP.fadd x7 (vf 3)) (FP.fadd x7 (vf 3)))) x5) → vX6_size (FP.fadd x7 (vf 3)) (fun r_102 u_102 => vf_n32 (FP.fmul (FP.fadd x6 x1) x2) ∧ vf_n32 (FP.fadd (FP.fmul (FP.fadd x6 x1) x2) x3) ∧ ((0 : Int32) < (fcl r_102 (FP.fadd (FP.fmul (FP.fadd x6 x1) x2) x3)) → K (1 : Int32) ()) ∧ (¬ (0 : Int32) < (fcl r_102 (FP.fadd (FP.fmul (FP.fadd x6 x1) x2) x3)) → ((0 : Int32) ≤ (fcg (FP.fadd x6 x1) FP.fconst0) → vX4_hasUnsafeDrift_124 vf vs x1 x2 x3 x5 (FP.fadd x6 x1) (FP.fadd x7 (vf 3)) x8 K B56) ∧ (¬ (0 : Int32) ≤ (fcg (FP.fadd x6 x1) FP.fconst0) → K (1 : Int32) ())))))
def vX4_hasUnsafeDrift_56F (vf : Nat → UInt32) (vs : Nat → Int32) (x1 : UInt32) (x2 : UInt32) (x3 : UInt32) (x5 : UInt32) (K : Int32 → Unit → Prop)  : ((UInt32 × UInt32 × Int32) → Prop) → (UInt32 × UInt32 × Int32) → Prop := fun B z => vX4_hasUnsafeDrift_56b vf vs x1 x2 x3 x5 K  (fun z0 z1 z2 => B (z0, z1, z2)) z.1 z.2.1 z.2.2
def vX4_hasUnsafeDrift (vf : Nat → UInt32) (vs : Nat → Int32) (p1 : UInt32) (K : Int32 → Unit → Prop) : Prop :=
  vf_n32 (FP.fdiv (FP.i2f (vs 0)) (1148846080 : UInt32)) ∧ vf_n32 (FP.fdiv (FP.i2f (vs 1)) (1120403456 : UInt32)) ∧ vf_n32 (FP.fdiv (FP.i2f (vs 2)) (1120403456 : UInt32)) ∧ vf_n32 (FP.fmul (FP.fdiv (FP.i2f (vs 2)) (1120403456 : UInt32)) (FP.fdiv (FP.i2f (vs 2)) (1120403456 : UInt32))) ∧ ∃ k, lp (vX4_hasUnsafeDrift_56F vf vs p1 (FP.fdiv (FP.i2f (vs 0)) (1148846080 : UInt32)) (FP.fdiv (FP.i2f (vs 1)) (1120403456 : UInt32)) (FP.fmul (FP.fdiv (FP.i2f (vs 2)) (1120403456 : UInt32)) (FP.fdiv (FP.i2f (vs 2)) (1120403456 : UInt32))) K ) k ((vf 0), (vf 1), (0 : Int32))
set_option maxRecDepth 100000 in
set_option maxHeartbeats 4000000 in
theorem ctX4_hasUnsafeDrift (l : Launch) (G : va_G) (cy : Nat → ClassId) (a : Nat → Nat) (vn : Nat → Int32) (vf : Nat → UInt32) (vs : Nat → Int32) (vp : Nat → Int32) (vq : Nat → Int32) (vd : Nat → Int32) (vo : Nat → Int32) (p1 : UInt32) (K : Int32 → Unit → Prop) (h : vX4_hasUnsafeDrift vf vs p1 K) : Met l yX4_hasUnsafeDrift (ws_ yX4_hasUnsafeDrift cX4_hasUnsafeDrift 9 (some .boolean)) ({ frames := 1, cells := 0, slots := 0, locals := 20 } : Room) (CP G cy [.ref (a 0), .float p1] (st_W cy a vn vf vs vp vq vd vo)) (RI G K (fun u => st_W cy a vn vf vs vp vq vd vo) (A1 (st_W cy a vn vf vs vp vq vd vo))) 0 0 (A1 (st_W cy a vn vf vs vp vq vd vo)) := by
  refine hd_go (Qf := fun A => (RI G K (fun u => st_W cy a vn vf vs vp vq vd vo) A)) (by decide +kernel) (Nat.le_of_ble_eq_true rfl) ?_
  intro p e s m below meth c ls A hx hb hr hlocks S hE hP hD hS hl
  have hl : lv_has ls 9 [(0, .ref (a 0)), (1, .float p1)] := hl
  unfold vX4_hasUnsafeDrift at h
  have L_56 : ∀ (vf : Nat → UInt32) (vs : Nat → Int32) (x1 : UInt32) (x2 : UInt32) (x3 : UInt32) (x5 : UInt32) (k_56 : Nat) (x6 : UInt32) (x7 : UInt32) (x8 : Int32), lp (vX4_hasUnsafeDrift_56F vf vs x1 x2 x3 x5 K ) k_56 (x6, x7, x8) → ∀ (H : Heap) (locs : List Loc) (ls : Array Slot), va_P G vwCl (st_W cy a vn vf vs vp vq vd vo) H → va_D A (st_W cy a vn vf vs vp vq vd vo) → va_S A s.heap H locs → lv_has ls 9 [(0, .ref (a 0)), (1, .float x1), (2, .float x2), (3, .float x3), (5, .float x5), (6, .float x6), (7, .float x7), (8, .int x8)] → W p l e (headSpec (ws_ yX4_hasUnsafeDrift cX4_hasUnsafeDrift 9 (some .boolean)) ({ frames := 1, cells := 0, slots := 0, locals := 20 } : Room)).room s m ([.ref (a 0), .float p1] : List Value).toArray below meth c H locs 0 0 (MQ below (RI G K (fun u => st_W cy a vn vf vs vp vq vd vo) A) ([.ref (a 0), .float p1] : List Value).toArray s 0 0 A) (F0 m 56 ls []) := by
    intro vf vs x1 x2 x3 x5 k_56
    induction k_56 with
    | zero => intro x6 x7 x8 h; exact h.elim
    | succ k_56 ih_56 =>
      have J_124 : ∀ (x6 : UInt32) (x7 : UInt32) (x8 : Int32), vX4_hasUnsafeDrift_124 vf vs x1 x2 x3 x5 x6 x7 x8 K (fun z0 z1 z2 => lp (vX4_hasUnsafeDrift_56F vf vs x1 x2 x3 x5 K ) k_56 (z0, z1, z2)) → ∀ (H : Heap) (locs : List Loc) (ls : Array Slot), va_P G vwCl (st_W cy a vn vf vs vp vq vd vo) H → va_D A (st_W cy a vn vf vs vp vq vd vo) → va_S A s.heap H locs → lv_has ls 9 [(0, .ref (a 0)), (1, .float x1), (2, .float x2), (3, .float x3), (5, .float x5), (6, .float x6), (7, .float x7), (8, .int x8)] → W p l e (headSpec (ws_ yX4_hasUnsafeDrift cX4_hasUnsafeDrift 9 (some .boolean)) ({ frames := 1, cells := 0, slots := 0, locals := 20 } : Room)).room s m ([.ref (a 0), .float p1] : List Value).toArray below meth c H locs 0 0 (MQ below (RI G K (fun u => st_W cy a vn vf vs vp vq vd vo) A) ([.ref (a 0), .float p1] : List Value).toArray s 0 0 A) (F0 m 124 ls []) := by
        intro x6 x7 x8 h H locs ls hP hD hS hl
        unfold vX4_hasUnsafeDrift_124 at h
        refine lv_iinc (v := (x8 + (1 : Int32))) (lv' := [(8, .int (x8 + (1 : Int32))), (0, .ref (a 0)), (1, .float x1), (2, .float x2), (3, .float x3), (5, .float x5), (6, .float x6), (7, .float x7)]) hx hb dX4_hasUnsafeDrift_124 hl (k := 7) rfl (by rfl) (by decide) rfl (fun ls hl => ?_)
        refine lv_goto (tgt := 56) hx hb dX4_hasUnsafeDrift_127 (by decide) ?_
        exact ih_56 x6 x7 (x8 + (1 : Int32)) h _ _ _ hP hD hS (lv_sub hl [1, 2, 3, 4, 5, 6, 7, 0] rfl)
      intro x6 x7 x8 h H locs ls hP hD hS hl
      have h : vX4_hasUnsafeDrift_56b vf vs x1 x2 x3 x5 K  (fun z0 z1 z2 => lp (vX4_hasUnsafeDrift_56F vf vs x1 x2 x3 x5 K ) k_56 (z0, z1, z2)) x6 x7 x8 := h
      unfold vX4_hasUnsafeDrift_56b at h
      refine lv_iload hx hb dX4_hasUnsafeDrift_56 (lv_at hl 7 rfl) ?_
      refine lv_aload_n hx hb dX4_hasUnsafeDrift_58 rfl (lv_at hl 0 rfl) ?_
      refine kg (v := .ref (a 1)) S hE hP 0 rfl rfl 10 (by decide) q_2_9 rfl rfl inlX4 dX4_hasUnsafeDrift_59 ?_
      refine lv_bipush (v := (6 : Int32)) hx hb dX4_hasUnsafeDrift_62 (by decide) ?_
      refine kail (v := (vs 6)) S hE hP 1 rfl (vi_6 (by decide)) tc_6 rfl dX4_hasUnsafeDrift_64 ?_
      refine lv_icmp_ge (tgt := 130) hx hb dX4_hasUnsafeDrift_65 (by decide) (fun c_65 => ?_) (fun c_65 => ?_)
      · have h := h.1 c_65
        refine lv_iconst (v := (0 : Int32)) hx hb dX4_hasUnsafeDrift_130 (by decide) ?_
        exact W.zret (v := (0 : Int32)) hx hb hr (by decide +kernel) (fun t ht hW => ⟨⟨(0 : Int32), (), rfl, h, ⟨hp_at ht hP, hD⟩⟩, hS.F ht⟩) hS.2.2 dX4_hasUnsafeDrift_131
      · have h := h.2 c_65
        refine lv_fload hx hb dX4_hasUnsafeDrift_68 (lv_at hl 5 rfl) ?_
        refine lv_fload_n hx hb dX4_hasUnsafeDrift_70 rfl (lv_at hl 1 rfl) ?_
        refine lv_fadd hx hb dX4_hasUnsafeDrift_71 h.1 ?_
        have h := h.2
        refine lv_fstore (lv' := [(6, .float (FP.fadd x6 x1)), (0, .ref (a 0)), (1, .float x1), (2, .float x2), (3, .float x3), (5, .float x5), (7, .float x7), (8, .int x8)]) hx hb dX4_hasUnsafeDrift_72 hl (by decide) rfl (fun ls hl => ?_)
        refine lv_fload hx hb dX4_hasUnsafeDrift_74 (lv_at hl 6 rfl) ?_
        refine lv_aload_n hx hb dX4_hasUnsafeDrift_76 rfl (lv_at hl 1 rfl) ?_
        refine kg (v := .float (vf 3)) S hE hP 0 rfl rfl 3 (by decide) q_9_17 rfl rfl inlX4 dX4_hasUnsafeDrift_77 ?_
        refine lv_fadd hx hb dX4_hasUnsafeDrift_80 h.1 ?_
        have h := h.2
        refine lv_fstore (lv' := [(7, .float (FP.fadd x7 (vf 3))), (6, .float (FP.fadd x6 x1)), (0, .ref (a 0)), (1, .float x1), (2, .float x2), (3, .float x3), (5, .float x5), (8, .int x8)]) hx hb dX4_hasUnsafeDrift_81 hl (by decide) rfl (fun ls hl => ?_)
        refine lv_fload hx hb dX4_hasUnsafeDrift_83 (lv_at hl 1 rfl) ?_
        refine lv_fload hx hb dX4_hasUnsafeDrift_85 (lv_at hl 1 rfl) ?_
        refine lv_fmul hx hb dX4_hasUnsafeDrift_87 h.1 ?_
        have h := h.2
        refine lv_fload hx hb dX4_hasUnsafeDrift_88 (lv_at hl 0 rfl) ?_
        refine lv_fload hx hb dX4_hasUnsafeDrift_90 (lv_at hl 0 rfl) ?_
        refine lv_fmul hx hb dX4_hasUnsafeDrift_92 h.1 ?_
        have h := h.2
        refine lv_fadd hx hb dX4_hasUnsafeDrift_93 h.1 ?_
        have h := h.2
        refine lv_fload hx hb dX4_hasUnsafeDrift_94 (lv_at hl 6 rfl) ?_
        refine lv_fcmp hx hb dX4_hasUnsafeDrift_96 ?_
        refine lv_if_ge (tgt := 124) hx hb dX4_hasUnsafeDrift_97 (by decide) (fun c_97 => ?_) (fun c_97 => ?_)
        · have h := h.1 c_97
          exact J_124 _ _ _ h _ _ _ hP hD hS (lv_sub hl [2, 3, 4, 5, 6, 1, 0, 7] rfl)
        · have h := h.2 c_97
          refine lv_fload hx hb dX4_hasUnsafeDrift_100 (lv_at hl 0 rfl) ?_
          refine kc_NfE (As := [.float (FP.fadd x7 (vf 3))]) (rest := []) S hE (ctX6_size l G cy   (FP.fadd x7 (vf 3)) _ h) hE.2.2.1 q_8_1 q_1_2 q_8_2 ydX6_size ⟨⟨rfl, rfl⟩, ⟨Nat.le_of_ble_eq_true rfl, Nat.le_of_ble_eq_true rfl⟩⟩ ⟨Nat.zero_le _, Nat.zero_le _⟩ hP hD hS (fun _ => rfl) rfl hl.1 rfl (Nat.le_of_ble_eq_true rfl) dX4_hasUnsafeDrift_102 (fun r_102 u_102 H locs h hP hD hS => ?_)
          refine lv_fload hx hb dX4_hasUnsafeDrift_105 (lv_at hl 1 rfl) ?_
          refine lv_fload_n hx hb dX4_hasUnsafeDrift_107 rfl (lv_at hl 4 rfl) ?_
          refine lv_fmul hx hb dX4_hasUnsafeDrift_108 h.1 ?_
          have h := h.2
          refine lv_fload_n hx hb dX4_hasUnsafeDrift_109 rfl (lv_at hl 5 rfl) ?_
          refine lv_fadd hx hb dX4_hasUnsafeDrift_110 h.1 ?_
          have h := h.2
          refine lv_fcmp hx hb dX4_hasUnsafeDrift_111 ?_
          refine lv_if_gt (tgt := 122) hx hb dX4_hasUnsafeDrift_112 (by decide) (fun c_112 => ?_) (fun c_112 => ?_)
          · have h := h.1 c_112
            refine lv_iconst (v := (1 : Int32)) hx hb dX4_hasUnsafeDrift_122 (by decide) ?_
            exact W.zret (v := (1 : Int32)) hx hb hr (by decide +kernel) (fun t ht hW => ⟨⟨(1 : Int32), (), rfl, h, ⟨hp_at ht hP, hD⟩⟩, hS.F ht⟩) hS.2.2 dX4_hasUnsafeDrift_123
          · have h := h.2 c_112
            refine lv_fload hx hb dX4_hasUnsafeDrift_115 (lv_at hl 1 rfl) ?_
            refine lv_fconst0 hx hb dX4_hasUnsafeDrift_117 ?_
            refine lv_fcmp hx hb dX4_hasUnsafeDrift_118 ?_
            refine lv_if_ge (tgt := 124) hx hb dX4_hasUnsafeDrift_119 (by decide) (fun c_119 => ?_) (fun c_119 => ?_)
            · have h := h.1 c_119
              exact J_124 _ _ _ h _ _ _ hP hD hS (lv_sub hl [2, 3, 4, 5, 6, 1, 0, 7] rfl)
            · have h := h.2 c_119
              refine lv_iconst (v := (1 : Int32)) hx hb dX4_hasUnsafeDrift_122 (by decide) ?_
              exact W.zret (v := (1 : Int32)) hx hb hr (by decide +kernel) (fun t ht hW => ⟨⟨(1 : Int32), (), rfl, h, ⟨hp_at ht hP, hD⟩⟩, hS.F ht⟩) hS.2.2 dX4_hasUnsafeDrift_123
  refine lv_aload_n hx hb dX4_hasUnsafeDrift_0 rfl (lv_at hl 0 rfl) ?_
  refine kg (v := .ref (a 1)) S hE hP 0 rfl rfl 10 (by decide) q_2_9 rfl rfl inlX4 dX4_hasUnsafeDrift_1 ?_
  refine lv_iconst (v := (0 : Int32)) hx hb dX4_hasUnsafeDrift_4 (by decide) ?_
  refine kail (v := (vs 0)) S hE hP 1 rfl (vi_0 (by decide)) tc_0 rfl dX4_hasUnsafeDrift_5 ?_
  refine lv_i2f hx hb dX4_hasUnsafeDrift_6 ?_
  refine lv_ldcf hx hb S.2.2.2.1 (S.2.2.2.2 _ q_9_5) dX4_hasUnsafeDrift_7 ?_
  refine lv_fdiv hx hb dX4_hasUnsafeDrift_9 h.1 ?_
  have h := h.2
  refine lv_fstore_n (lv' := [(2, .float (FP.fdiv (FP.i2f (vs 0)) (1148846080 : UInt32))), (0, .ref (a 0)), (1, .float p1)]) hx hb dX4_hasUnsafeDrift_10 rfl hl (by decide) rfl (fun ls hl => ?_)
  refine lv_aload_n hx hb dX4_hasUnsafeDrift_11 rfl (lv_at hl 1 rfl) ?_
  refine kg (v := .ref (a 1)) S hE hP 0 rfl rfl 10 (by decide) q_2_9 rfl rfl inlX4 dX4_hasUnsafeDrift_12 ?_
  refine lv_iconst (v := (1 : Int32)) hx hb dX4_hasUnsafeDrift_15 (by decide) ?_
  refine kail (v := (vs 1)) S hE hP 1 rfl (vi_1 (by decide)) tc_1 rfl dX4_hasUnsafeDrift_16 ?_
  refine lv_i2f hx hb dX4_hasUnsafeDrift_17 ?_
  refine lv_ldcf hx hb S.2.2.2.1 (S.2.2.2.2 _ q_2_5) dX4_hasUnsafeDrift_18 ?_
  refine lv_fdiv hx hb dX4_hasUnsafeDrift_20 h.1 ?_
  have h := h.2
  refine lv_fstore_n (lv' := [(3, .float (FP.fdiv (FP.i2f (vs 1)) (1120403456 : UInt32))), (2, .float (FP.fdiv (FP.i2f (vs 0)) (1148846080 : UInt32))), (0, .ref (a 0)), (1, .float p1)]) hx hb dX4_hasUnsafeDrift_21 rfl hl (by decide) rfl (fun ls hl => ?_)
  refine lv_aload_n hx hb dX4_hasUnsafeDrift_22 rfl (lv_at hl 2 rfl) ?_
  refine kg (v := .ref (a 1)) S hE hP 0 rfl rfl 10 (by decide) q_2_9 rfl rfl inlX4 dX4_hasUnsafeDrift_23 ?_
  refine lv_iconst (v := (2 : Int32)) hx hb dX4_hasUnsafeDrift_26 (by decide) ?_
  refine kail (v := (vs 2)) S hE hP 1 rfl (vi_2 (by decide)) tc_2 rfl dX4_hasUnsafeDrift_27 ?_
  refine lv_i2f hx hb dX4_hasUnsafeDrift_28 ?_
  refine lv_ldcf hx hb S.2.2.2.1 (S.2.2.2.2 _ q_2_5) dX4_hasUnsafeDrift_29 ?_
  refine lv_fdiv hx hb dX4_hasUnsafeDrift_31 h.1 ?_
  have h := h.2
  refine lv_fstore (lv' := [(4, .float (FP.fdiv (FP.i2f (vs 2)) (1120403456 : UInt32))), (3, .float (FP.fdiv (FP.i2f (vs 1)) (1120403456 : UInt32))), (2, .float (FP.fdiv (FP.i2f (vs 0)) (1148846080 : UInt32))), (0, .ref (a 0)), (1, .float p1)]) hx hb dX4_hasUnsafeDrift_32 hl (by decide) rfl (fun ls hl => ?_)
  refine lv_fload hx hb dX4_hasUnsafeDrift_34 (lv_at hl 0 rfl) ?_
  refine lv_fload hx hb dX4_hasUnsafeDrift_36 (lv_at hl 0 rfl) ?_
  refine lv_fmul hx hb dX4_hasUnsafeDrift_38 h.1 ?_
  have h := h.2
  refine lv_fstore (lv' := [(5, .float (FP.fmul (FP.fdiv (FP.i2f (vs 2)) (1120403456 : UInt32)) (FP.fdiv (FP.i2f (vs 2)) (1120403456 : UInt32)))), (4, .float (FP.fdiv (FP.i2f (vs 2)) (1120403456 : UInt32))), (3, .float (FP.fdiv (FP.i2f (vs 1)) (1120403456 : UInt32))), (2, .float (FP.fdiv (FP.i2f (vs 0)) (1148846080 : UInt32))), (0, .ref (a 0)), (1, .float p1)]) hx hb dX4_hasUnsafeDrift_39 hl (by decide) rfl (fun ls hl => ?_)
  refine lv_aload_n hx hb dX4_hasUnsafeDrift_41 rfl (lv_at hl 4 rfl) ?_
  refine kg (v := .float (vf 0)) S hE hP 0 rfl rfl 0 (by decide) q_2_6 rfl rfl inlX4 dX4_hasUnsafeDrift_42 ?_
  refine lv_fstore (lv' := [(6, .float (vf 0)), (5, .float (FP.fmul (FP.fdiv (FP.i2f (vs 2)) (1120403456 : UInt32)) (FP.fdiv (FP.i2f (vs 2)) (1120403456 : UInt32)))), (4, .float (FP.fdiv (FP.i2f (vs 2)) (1120403456 : UInt32))), (3, .float (FP.fdiv (FP.i2f (vs 1)) (1120403456 : UInt32))), (2, .float (FP.fdiv (FP.i2f (vs 0)) (1148846080 : UInt32))), (0, .ref (a 0)), (1, .float p1)]) hx hb dX4_hasUnsafeDrift_45 hl (by decide) rfl (fun ls hl => ?_)
  refine lv_aload_n hx hb dX4_hasUnsafeDrift_47 rfl (lv_at hl 5 rfl) ?_
  refine kg (v := .float (vf 1)) S hE hP 0 rfl rfl 1 (by decide) q_9_4 rfl rfl inlX4 dX4_hasUnsafeDrift_48 ?_
  refine lv_fstore (lv' := [(7, .float (vf 1)), (6, .float (vf 0)), (5, .float (FP.fmul (FP.fdiv (FP.i2f (vs 2)) (1120403456 : UInt32)) (FP.fdiv (FP.i2f (vs 2)) (1120403456 : UInt32)))), (4, .float (FP.fdiv (FP.i2f (vs 2)) (1120403456 : UInt32))), (3, .float (FP.fdiv (FP.i2f (vs 1)) (1120403456 : UInt32))), (2, .float (FP.fdiv (FP.i2f (vs 0)) (1148846080 : UInt32))), (0, .ref (a 0)), (1, .float p1)]) hx hb dX4_hasUnsafeDrift_51 hl (by decide) rfl (fun ls hl => ?_)
  refine lv_iconst (v := (0 : Int32)) hx hb dX4_hasUnsafeDrift_53 (by decide) ?_
  refine lv_istore (lv' := [(8, .int (0 : Int32)), (7, .float (vf 1)), (6, .float (vf 0)), (5, .float (FP.fmul (FP.fdiv (FP.i2f (vs 2)) (1120403456 : UInt32)) (FP.fdiv (FP.i2f (vs 2)) (1120403456 : UInt32)))), (4, .float (FP.fdiv (FP.i2f (vs 2)) (1120403456 : UInt32))), (3, .float (FP.fdiv (FP.i2f (vs 1)) (1120403456 : UInt32))), (2, .float (FP.fdiv (FP.i2f (vs 0)) (1148846080 : UInt32))), (0, .ref (a 0)), (1, .float p1)]) hx hb dX4_hasUnsafeDrift_54 hl (by decide) rfl (fun ls hl => ?_)
  obtain ⟨k0, h⟩ := h
  exact L_56 _ _ _ _ _ _ k0 _ _ _ h _ _ _ hP hD hS (lv_sub hl [7, 8, 6, 5, 3, 2, 1, 0] rfl)
def vX4_judge_58 (vn : Nat → Int32) (vf : Nat → UInt32) (vs : Nat → Int32) (vp : Nat → Int32) (vq : Nat → Int32) (x1 : Int32) (K : Int32 → Unit → Prop)  : Prop :=
  vX4_hasUnsafeDrift vf vs (vf 2) (fun r_63 u_63 => (r_63 = (0 : Int32) → K x1 ()) ∧ (¬ r_63 = (0 : Int32) → K (x1 + (4 : Int32)) ()))
def vX4_judge_43 (vn : Nat → Int32) (vf : Nat → UInt32) (vs : Nat → Int32) (vp : Nat → Int32) (vq : Nat → Int32) (x1 : Int32) (K : Int32 → Unit → Prop)  : Prop :=
  vX4_isTooFast vn vf vp vq (vf 2) (fun r_48 u_48 => (r_48 = (0 : Int32) → vX4_judge_58 vn vf vs vp vq x1 K ) ∧ (¬ r_48 = (0 : Int32) → vX4_judge_58 vn vf vs vp vq (x1 + (2 : Int32)) K ))
def vX4_judge (vn : Nat → Int32) (vf : Nat → UInt32) (vs : Nat → Int32) (vp : Nat → Int32) (vq : Nat → Int32) (K : Int32 → Unit → Prop) : Prop :=
  vX6_size (vf 1) (fun r_6 u_6 => vf_n32 (FP.fdiv (FP.i2f (vs 0)) (1148846080 : UInt32)) ∧ vf_n32 (FP.fmul (vf 0) (FP.fdiv (FP.i2f (vs 0)) (1148846080 : UInt32))) ∧ vf_n32 (FP.fdiv (FP.i2f (vs 1)) (1120403456 : UInt32)) ∧ vf_n32 (FP.fadd (FP.fmul (vf 0) (FP.fdiv (FP.i2f (vs 0)) (1148846080 : UInt32))) (FP.fdiv (FP.i2f (vs 1)) (1120403456 : UInt32))) ∧ ((fcl r_6 (FP.fadd (FP.fmul (vf 0) (FP.fdiv (FP.i2f (vs 0)) (1148846080 : UInt32))) (FP.fdiv (FP.i2f (vs 1)) (1120403456 : UInt32)))) ≤ (0 : Int32) → vX4_judge_43 vn vf vs vp vq (0 : Int32) K ) ∧ (¬ (fcl r_6 (FP.fadd (FP.fmul (vf 0) (FP.fdiv (FP.i2f (vs 0)) (1148846080 : UInt32))) (FP.fdiv (FP.i2f (vs 1)) (1120403456 : UInt32)))) ≤ (0 : Int32) → vX4_judge_43 vn vf vs vp vq ((0 : Int32) + (1 : Int32)) K ))
set_option maxRecDepth 100000 in
set_option maxHeartbeats 4000000 in
theorem ctX4_judge (l : Launch) (G : va_G) (cy : Nat → ClassId) (a : Nat → Nat) (vn : Nat → Int32) (vf : Nat → UInt32) (vs : Nat → Int32) (vp : Nat → Int32) (vq : Nat → Int32) (vd : Nat → Int32) (vo : Nat → Int32)  (K : Int32 → Unit → Prop) (h : vX4_judge vn vf vs vp vq K) : Met l yX4_judge (ws_ yX4_judge cX4_judge 2 (some .int)) ({ frames := 2, cells := 0, slots := 0, locals := 48 } : Room) (CP G cy [.ref (a 0)] (st_W cy a vn vf vs vp vq vd vo)) (RI G K (fun u => st_W cy a vn vf vs vp vq vd vo) (A1 (st_W cy a vn vf vs vp vq vd vo))) 0 0 (A1 (st_W cy a vn vf vs vp vq vd vo)) := by
  refine hd_go (Qf := fun A => (RI G K (fun u => st_W cy a vn vf vs vp vq vd vo) A)) (by decide +kernel) (Nat.le_of_ble_eq_true rfl) ?_
  intro p e s m below meth c ls A hx hb hr hlocks S hE hP hD hS hl
  have hl : lv_has ls 2 [(0, .ref (a 0))] := hl
  unfold vX4_judge at h
  have J_58 : ∀ (vn : Nat → Int32) (vf : Nat → UInt32) (vs : Nat → Int32) (vp : Nat → Int32) (vq : Nat → Int32) (x1 : Int32), vX4_judge_58 vn vf vs vp vq x1 K  → ∀ (H : Heap) (locs : List Loc) (ls : Array Slot), va_P G vwCl (st_W cy a vn vf vs vp vq vd vo) H → va_D A (st_W cy a vn vf vs vp vq vd vo) → va_S A s.heap H locs → lv_has ls 2 [(0, .ref (a 0)), (1, .int x1)] → W p l e (headSpec (ws_ yX4_judge cX4_judge 2 (some .int)) ({ frames := 2, cells := 0, slots := 0, locals := 48 } : Room)).room s m ([.ref (a 0)] : List Value).toArray below meth c H locs 0 0 (MQ below (RI G K (fun u => st_W cy a vn vf vs vp vq vd vo) A) ([.ref (a 0)] : List Value).toArray s 0 0 A) (F0 m 58 ls []) := by
    intro vn vf vs vp vq x1 h H locs ls hP hD hS hl
    unfold vX4_judge_58 at h
    refine lv_aload_n hx hb dX4_judge_58 rfl (lv_at hl 0 rfl) ?_
    refine lv_aload_n hx hb dX4_judge_59 rfl (lv_at hl 0 rfl) ?_
    refine kg (v := .float (vf 2)) S hE hP 0 rfl rfl 2 (by decide) q_9_6 rfl rfl inlX4 dX4_judge_60 ?_
    refine kc_Vi0 (As := [.float (vf 2)]) (rest := []) S hE (ctX4_hasUnsafeDrift l G cy a vn vf vs vp vq vd vo (vf 2) _ h) q_9_13 q_9_14 q_9_15 q_1_11 q_9_16 rfl 0 rfl rfl ydX4_hasUnsafeDrift ⟨⟨rfl, rfl⟩, ⟨Nat.le_of_ble_eq_true rfl, Nat.le_of_ble_eq_true rfl⟩⟩ ⟨Nat.zero_le _, Nat.zero_le _⟩ hP hD hS rfl hl.1 rfl (Nat.le_of_ble_eq_true rfl) dX4_judge_63 (fun r_63 u_63 H locs h hP hD hS => ?_)
    refine lv_if_eq (tgt := 73) hx hb dX4_judge_66 (by decide) (fun c_66 => ?_) (fun c_66 => ?_)
    · have h := h.1 c_66
      refine lv_iload_n hx hb dX4_judge_73 rfl (lv_at hl 1 rfl) ?_
      exact W.iret (v := x1) hx hb hr (fun t ht hW => ⟨⟨x1, (), rfl, h, ⟨hp_at ht hP, hD⟩⟩, hS.F ht⟩) hS.2.2 dX4_judge_74
    · have h := h.2 c_66
      refine lv_iload_n hx hb dX4_judge_69 rfl (lv_at hl 1 rfl) ?_
      refine lv_iconst (v := (4 : Int32)) hx hb dX4_judge_70 (by decide) ?_
      refine lv_iadd hx hb dX4_judge_71 ?_
      refine lv_istore_n (lv' := [(1, .int (x1 + (4 : Int32))), (0, .ref (a 0))]) hx hb dX4_judge_72 rfl hl (by decide) rfl (fun ls hl => ?_)
      refine lv_iload_n hx hb dX4_judge_73 rfl (lv_at hl 0 rfl) ?_
      exact W.iret (v := (x1 + (4 : Int32))) hx hb hr (fun t ht hW => ⟨⟨(x1 + (4 : Int32)), (), rfl, h, ⟨hp_at ht hP, hD⟩⟩, hS.F ht⟩) hS.2.2 dX4_judge_74
  have J_43 : ∀ (vn : Nat → Int32) (vf : Nat → UInt32) (vs : Nat → Int32) (vp : Nat → Int32) (vq : Nat → Int32) (x1 : Int32), vX4_judge_43 vn vf vs vp vq x1 K  → ∀ (H : Heap) (locs : List Loc) (ls : Array Slot), va_P G vwCl (st_W cy a vn vf vs vp vq vd vo) H → va_D A (st_W cy a vn vf vs vp vq vd vo) → va_S A s.heap H locs → lv_has ls 2 [(0, .ref (a 0)), (1, .int x1)] → W p l e (headSpec (ws_ yX4_judge cX4_judge 2 (some .int)) ({ frames := 2, cells := 0, slots := 0, locals := 48 } : Room)).room s m ([.ref (a 0)] : List Value).toArray below meth c H locs 0 0 (MQ below (RI G K (fun u => st_W cy a vn vf vs vp vq vd vo) A) ([.ref (a 0)] : List Value).toArray s 0 0 A) (F0 m 43 ls []) := by
    intro vn vf vs vp vq x1 h H locs ls hP hD hS hl
    unfold vX4_judge_43 at h
    refine lv_aload_n hx hb dX4_judge_43 rfl (lv_at hl 0 rfl) ?_
    refine lv_aload_n hx hb dX4_judge_44 rfl (lv_at hl 0 rfl) ?_
    refine kg (v := .float (vf 2)) S hE hP 0 rfl rfl 2 (by decide) q_9_6 rfl rfl inlX4 dX4_judge_45 ?_
    refine kc_Vi0 (As := [.float (vf 2)]) (rest := []) S hE (ctX4_isTooFast l G cy a vn vf vs vp vq vd vo (vf 2) _ h) q_9_7 q_9_8 q_9_9 q_1_11 q_9_10 rfl 0 rfl rfl ydX4_isTooFast ⟨⟨rfl, rfl⟩, ⟨Nat.le_of_ble_eq_true rfl, Nat.le_of_ble_eq_true rfl⟩⟩ ⟨Nat.zero_le _, Nat.zero_le _⟩ hP hD hS rfl hl.1 rfl (Nat.le_of_ble_eq_true rfl) dX4_judge_48 (fun r_48 u_48 H locs h hP hD hS => ?_)
    refine lv_if_eq (tgt := 58) hx hb dX4_judge_51 (by decide) (fun c_51 => ?_) (fun c_51 => ?_)
    · have h := h.1 c_51
      exact J_58 _ _ _ _ _ _ h _ _ _ hP hD hS (lv_sub hl [0, 1] rfl)
    · have h := h.2 c_51
      refine lv_iload_n hx hb dX4_judge_54 rfl (lv_at hl 1 rfl) ?_
      refine lv_iconst (v := (2 : Int32)) hx hb dX4_judge_55 (by decide) ?_
      refine lv_iadd hx hb dX4_judge_56 ?_
      refine lv_istore_n (lv' := [(1, .int (x1 + (2 : Int32))), (0, .ref (a 0))]) hx hb dX4_judge_57 rfl hl (by decide) rfl (fun ls hl => ?_)
      exact J_58 _ _ _ _ _ _ h _ _ _ hP hD hS (lv_sub hl [1, 0] rfl)
  refine lv_iconst (v := (0 : Int32)) hx hb dX4_judge_0 (by decide) ?_
  refine lv_istore_n (lv' := [(1, .int (0 : Int32)), (0, .ref (a 0))]) hx hb dX4_judge_1 rfl hl (by decide) rfl (fun ls hl => ?_)
  refine lv_aload_n hx hb dX4_judge_2 rfl (lv_at hl 1 rfl) ?_
  refine kg (v := .float (vf 1)) S hE hP 0 rfl rfl 1 (by decide) q_9_4 rfl rfl inlX4 dX4_judge_3 ?_
  refine kc_NfE (As := [.float (vf 1)]) (rest := []) S hE (ctX6_size l G cy   (vf 1) _ h) hE.2.2.1 q_8_1 q_1_2 q_8_2 ydX6_size ⟨⟨rfl, rfl⟩, ⟨Nat.le_of_ble_eq_true rfl, Nat.le_of_ble_eq_true rfl⟩⟩ ⟨Nat.zero_le _, Nat.zero_le _⟩ hP hD hS (fun _ => rfl) rfl hl.1 rfl (Nat.le_of_ble_eq_true rfl) dX4_judge_6 (fun r_6 u_6 H locs h hP hD hS => ?_)
  refine lv_aload_n hx hb dX4_judge_9 rfl (lv_at hl 1 rfl) ?_
  refine kg (v := .float (vf 0)) S hE hP 0 rfl rfl 0 (by decide) q_2_6 rfl rfl inlX4 dX4_judge_10 ?_
  refine lv_aload_n hx hb dX4_judge_13 rfl (lv_at hl 1 rfl) ?_
  refine kg (v := .ref (a 1)) S hE hP 0 rfl rfl 10 (by decide) q_2_9 rfl rfl inlX4 dX4_judge_14 ?_
  refine lv_iconst (v := (0 : Int32)) hx hb dX4_judge_17 (by decide) ?_
  refine kail (v := (vs 0)) S hE hP 1 rfl (vi_0 (by decide)) tc_0 rfl dX4_judge_18 ?_
  refine lv_i2f hx hb dX4_judge_19 ?_
  refine lv_ldcf hx hb S.2.2.2.1 (S.2.2.2.2 _ q_9_5) dX4_judge_20 ?_
  refine lv_fdiv hx hb dX4_judge_22 h.1 ?_
  have h := h.2
  refine lv_fmul hx hb dX4_judge_23 h.1 ?_
  have h := h.2
  refine lv_aload_n hx hb dX4_judge_24 rfl (lv_at hl 1 rfl) ?_
  refine kg (v := .ref (a 1)) S hE hP 0 rfl rfl 10 (by decide) q_2_9 rfl rfl inlX4 dX4_judge_25 ?_
  refine lv_iconst (v := (1 : Int32)) hx hb dX4_judge_28 (by decide) ?_
  refine kail (v := (vs 1)) S hE hP 1 rfl (vi_1 (by decide)) tc_1 rfl dX4_judge_29 ?_
  refine lv_i2f hx hb dX4_judge_30 ?_
  refine lv_ldcf hx hb S.2.2.2.1 (S.2.2.2.2 _ q_2_5) dX4_judge_31 ?_
  refine lv_fdiv hx hb dX4_judge_33 h.1 ?_
  have h := h.2
  refine lv_fadd hx hb dX4_judge_34 h.1 ?_
  have h := h.2
  refine lv_fcmp hx hb dX4_judge_35 ?_
  refine lv_if_le (tgt := 43) hx hb dX4_judge_36 (by decide) (fun c_36 => ?_) (fun c_36 => ?_)
  · have h := h.1 c_36
    exact J_43 _ _ _ _ _ _ h _ _ _ hP hD hS (lv_sub hl [1, 0] rfl)
  · have h := h.2 c_36
    refine lv_iload_n hx hb dX4_judge_39 rfl (lv_at hl 0 rfl) ?_
    refine lv_iconst (v := (1 : Int32)) hx hb dX4_judge_40 (by decide) ?_
    refine lv_iadd hx hb dX4_judge_41 ?_
    refine lv_istore_n (lv' := [(1, .int ((0 : Int32) + (1 : Int32))), (0, .ref (a 0))]) hx hb dX4_judge_42 rfl hl (by decide) rfl (fun ls hl => ?_)
    exact J_43 _ _ _ _ _ _ h _ _ _ hP hD hS (lv_sub hl [1, 0] rfl)
def vX4_heldToGreatest (vs : Nat → Int32) (p1 : UInt32) (K : UInt32 → Unit → Prop) : Prop :=
  vf_n32 (FP.fdiv (FP.i2f (vs 4)) (1148846080 : UInt32)) ∧ ((0 : Int32) ≤ (fcg p1 (FP.fneg (FP.fdiv (FP.i2f (vs 4)) (1148846080 : UInt32)))) → ((fcl p1 (FP.fdiv (FP.i2f (vs 4)) (1148846080 : UInt32))) ≤ (0 : Int32) → K p1 ()) ∧ (¬ (fcl p1 (FP.fdiv (FP.i2f (vs 4)) (1148846080 : UInt32))) ≤ (0 : Int32) → K (FP.fdiv (FP.i2f (vs 4)) (1148846080 : UInt32)) ())) ∧ (¬ (0 : Int32) ≤ (fcg p1 (FP.fneg (FP.fdiv (FP.i2f (vs 4)) (1148846080 : UInt32)))) → K (FP.fneg (FP.fdiv (FP.i2f (vs 4)) (1148846080 : UInt32))) ())
set_option maxRecDepth 100000 in
set_option maxHeartbeats 4000000 in
theorem ctX4_heldToGreatest (l : Launch) (G : va_G) (cy : Nat → ClassId) (a : Nat → Nat) (vn : Nat → Int32) (vf : Nat → UInt32) (vs : Nat → Int32) (vp : Nat → Int32) (vq : Nat → Int32) (vd : Nat → Int32) (vo : Nat → Int32) (p1 : UInt32) (K : UInt32 → Unit → Prop) (h : vX4_heldToGreatest vs p1 K) : Met l yX4_heldToGreatest (ws_ yX4_heldToGreatest cX4_heldToGreatest 3 (some .float)) ({ frames := 0, cells := 0, slots := 0, locals := 0 } : Room) (CP G cy [.ref (a 0), .float p1] (st_W cy a vn vf vs vp vq vd vo)) (RF G K (fun u => st_W cy a vn vf vs vp vq vd vo) (A1 (st_W cy a vn vf vs vp vq vd vo))) 0 0 (A1 (st_W cy a vn vf vs vp vq vd vo)) := by
  refine hd_go (Qf := fun A => (RF G K (fun u => st_W cy a vn vf vs vp vq vd vo) A)) (by decide +kernel) (Nat.le_of_ble_eq_true rfl) ?_
  intro p e s m below meth c ls A hx hb hr hlocks S hE hP hD hS hl
  have hl : lv_has ls 3 [(0, .ref (a 0)), (1, .float p1)] := hl
  unfold vX4_heldToGreatest at h
  refine lv_aload_n hx hb dX4_heldToGreatest_0 rfl (lv_at hl 0 rfl) ?_
  refine kg (v := .ref (a 1)) S hE hP 0 rfl rfl 10 (by decide) q_2_9 rfl rfl inlX4 dX4_heldToGreatest_1 ?_
  refine lv_iconst (v := (4 : Int32)) hx hb dX4_heldToGreatest_4 (by decide) ?_
  refine kail (v := (vs 4)) S hE hP 1 rfl (vi_4 (by decide)) tc_4 rfl dX4_heldToGreatest_5 ?_
  refine lv_i2f hx hb dX4_heldToGreatest_6 ?_
  refine lv_ldcf hx hb S.2.2.2.1 (S.2.2.2.2 _ q_9_5) dX4_heldToGreatest_7 ?_
  refine lv_fdiv hx hb dX4_heldToGreatest_9 h.1 ?_
  have h := h.2
  refine lv_fstore_n (lv' := [(2, .float (FP.fdiv (FP.i2f (vs 4)) (1148846080 : UInt32))), (0, .ref (a 0)), (1, .float p1)]) hx hb dX4_heldToGreatest_10 rfl hl (by decide) rfl (fun ls hl => ?_)
  refine lv_fload_n hx hb dX4_heldToGreatest_11 rfl (lv_at hl 2 rfl) ?_
  refine lv_fload_n hx hb dX4_heldToGreatest_12 rfl (lv_at hl 0 rfl) ?_
  refine lv_fneg hx hb dX4_heldToGreatest_13 ?_
  refine lv_fcmp hx hb dX4_heldToGreatest_14 ?_
  refine lv_if_ge (tgt := 21) hx hb dX4_heldToGreatest_15 (by decide) (fun c_15 => ?_) (fun c_15 => ?_)
  · have h := h.1 c_15
    refine lv_fload_n hx hb dX4_heldToGreatest_21 rfl (lv_at hl 2 rfl) ?_
    refine lv_fload_n hx hb dX4_heldToGreatest_22 rfl (lv_at hl 0 rfl) ?_
    refine lv_fcmp hx hb dX4_heldToGreatest_23 ?_
    refine lv_if_le (tgt := 31) hx hb dX4_heldToGreatest_24 (by decide) (fun c_24 => ?_) (fun c_24 => ?_)
    · have h := h.1 c_24
      refine lv_fload_n hx hb dX4_heldToGreatest_31 rfl (lv_at hl 2 rfl) ?_
      exact W.fret (v := p1) hx hb hr (fun t ht hW => ⟨⟨p1, (), rfl, h, ⟨hp_at ht hP, hD⟩⟩, hS.F ht⟩) hS.2.2 dX4_heldToGreatest_32
    · have h := h.2 c_24
      refine lv_fload_n hx hb dX4_heldToGreatest_27 rfl (lv_at hl 0 rfl) ?_
      refine lv_goto (tgt := 32) hx hb dX4_heldToGreatest_28 (by decide) ?_
      exact W.fret (v := (FP.fdiv (FP.i2f (vs 4)) (1148846080 : UInt32))) hx hb hr (fun t ht hW => ⟨⟨(FP.fdiv (FP.i2f (vs 4)) (1148846080 : UInt32)), (), rfl, h, ⟨hp_at ht hP, hD⟩⟩, hS.F ht⟩) hS.2.2 dX4_heldToGreatest_32
  · have h := h.2 c_15
    refine lv_fload_n hx hb dX4_heldToGreatest_18 rfl (lv_at hl 0 rfl) ?_
    refine lv_fneg hx hb dX4_heldToGreatest_19 ?_
    exact W.fret (v := (FP.fneg (FP.fdiv (FP.i2f (vs 4)) (1148846080 : UInt32)))) hx hb hr (fun t ht hW => ⟨⟨(FP.fneg (FP.fdiv (FP.i2f (vs 4)) (1148846080 : UInt32))), (), rfl, h, ⟨hp_at ht hP, hD⟩⟩, hS.F ht⟩) hS.2.2 dX4_heldToGreatest_20
def vX4_accelerationAlong (vf : Nat → UInt32) (vs : Nat → Int32) (p1 : UInt32) (K : UInt32 → Unit → Prop) : Prop :=
  vf_n32 (FP.fsub p1 (vf 2)) ∧ vX4_heldToGreatest vs (FP.fsub p1 (vf 2)) (fun r_7 u_7 => vf_n32 (FP.fdiv (FP.i2f (vs 5)) (1148846080 : UInt32)) ∧ ((fcl r_7 (FP.fdiv (FP.i2f (vs 5)) (1148846080 : UInt32))) ≤ (0 : Int32) → K r_7 ()) ∧ (¬ (fcl r_7 (FP.fdiv (FP.i2f (vs 5)) (1148846080 : UInt32))) ≤ (0 : Int32) → vf_n32 (FP.fdiv (FP.i2f (vs 3)) (1120403456 : UInt32)) ∧ ((0 : Int32) ≤ (fcg (vf 0) (FP.fdiv (FP.i2f (vs 3)) (1120403456 : UInt32))) → K r_7 ()) ∧ (¬ (0 : Int32) ≤ (fcg (vf 0) (FP.fdiv (FP.i2f (vs 3)) (1120403456 : UInt32))) → K (FP.fdiv (FP.i2f (vs 5)) (1148846080 : UInt32)) ())))
set_option maxRecDepth 100000 in
set_option maxHeartbeats 4000000 in
theorem ctX4_accelerationAlong (l : Launch) (G : va_G) (cy : Nat → ClassId) (a : Nat → Nat) (vn : Nat → Int32) (vf : Nat → UInt32) (vs : Nat → Int32) (vp : Nat → Int32) (vq : Nat → Int32) (vd : Nat → Int32) (vo : Nat → Int32) (p1 : UInt32) (K : UInt32 → Unit → Prop) (h : vX4_accelerationAlong vf vs p1 K) : Met l yX4_accelerationAlong (ws_ yX4_accelerationAlong cX4_accelerationAlong 4 (some .float)) ({ frames := 1, cells := 0, slots := 0, locals := 22 } : Room) (CP G cy [.ref (a 0), .float p1] (st_W cy a vn vf vs vp vq vd vo)) (RF G K (fun u => st_W cy a vn vf vs vp vq vd vo) (A1 (st_W cy a vn vf vs vp vq vd vo))) 0 0 (A1 (st_W cy a vn vf vs vp vq vd vo)) := by
  refine hd_go (Qf := fun A => (RF G K (fun u => st_W cy a vn vf vs vp vq vd vo) A)) (by decide +kernel) (Nat.le_of_ble_eq_true rfl) ?_
  intro p e s m below meth c ls A hx hb hr hlocks S hE hP hD hS hl
  have hl : lv_has ls 4 [(0, .ref (a 0)), (1, .float p1)] := hl
  unfold vX4_accelerationAlong at h
  refine lv_aload_n hx hb dX4_accelerationAlong_0 rfl (lv_at hl 0 rfl) ?_
  refine lv_fload_n hx hb dX4_accelerationAlong_1 rfl (lv_at hl 1 rfl) ?_
  refine lv_aload_n hx hb dX4_accelerationAlong_2 rfl (lv_at hl 0 rfl) ?_
  refine kg (v := .float (vf 2)) S hE hP 0 rfl rfl 2 (by decide) q_9_6 rfl rfl inlX4 dX4_accelerationAlong_3 ?_
  refine lv_fsub hx hb dX4_accelerationAlong_6 h.1 ?_
  have h := h.2
  refine kc_Vf0 (As := [.float (FP.fsub p1 (vf 2))]) (rest := []) S hE (ctX4_heldToGreatest l G cy a vn vf vs vp vq vd vo (FP.fsub p1 (vf 2)) _ h) q_16_1 q_16_2 q_16_3 q_1_11 q_16_4 rfl 0 rfl rfl ydX4_heldToGreatest ⟨⟨rfl, rfl⟩, ⟨Nat.le_of_ble_eq_true rfl, Nat.le_of_ble_eq_true rfl⟩⟩ ⟨Nat.zero_le _, Nat.zero_le _⟩ hP hD hS rfl hl.1 rfl (Nat.le_of_ble_eq_true rfl) dX4_accelerationAlong_7 (fun r_7 u_7 H locs h hP hD hS => ?_)
  refine lv_fstore_n (lv' := [(2, .float r_7), (0, .ref (a 0)), (1, .float p1)]) hx hb dX4_accelerationAlong_10 rfl hl (by decide) rfl (fun ls hl => ?_)
  refine lv_aload_n hx hb dX4_accelerationAlong_11 rfl (lv_at hl 1 rfl) ?_
  refine kg (v := .ref (a 1)) S hE hP 0 rfl rfl 10 (by decide) q_2_9 rfl rfl inlX4 dX4_accelerationAlong_12 ?_
  refine lv_iconst (v := (5 : Int32)) hx hb dX4_accelerationAlong_15 (by decide) ?_
  refine kail (v := (vs 5)) S hE hP 1 rfl (vi_5 (by decide)) tc_5 rfl dX4_accelerationAlong_16 ?_
  refine lv_i2f hx hb dX4_accelerationAlong_17 ?_
  refine lv_ldcf hx hb S.2.2.2.1 (S.2.2.2.2 _ q_9_5) dX4_accelerationAlong_18 ?_
  refine lv_fdiv hx hb dX4_accelerationAlong_20 h.1 ?_
  have h := h.2
  refine lv_fstore_n (lv' := [(3, .float (FP.fdiv (FP.i2f (vs 5)) (1148846080 : UInt32))), (2, .float r_7), (0, .ref (a 0)), (1, .float p1)]) hx hb dX4_accelerationAlong_21 rfl hl (by decide) rfl (fun ls hl => ?_)
  refine lv_fload_n hx hb dX4_accelerationAlong_22 rfl (lv_at hl 1 rfl) ?_
  refine lv_fload_n hx hb dX4_accelerationAlong_23 rfl (lv_at hl 0 rfl) ?_
  refine lv_fcmp hx hb dX4_accelerationAlong_24 ?_
  refine lv_if_le (tgt := 50) hx hb dX4_accelerationAlong_25 (by decide) (fun c_25 => ?_) (fun c_25 => ?_)
  · have h := h.1 c_25
    refine lv_fload_n hx hb dX4_accelerationAlong_50 rfl (lv_at hl 1 rfl) ?_
    exact W.fret (v := r_7) hx hb hr (fun t ht hW => ⟨⟨r_7, (), rfl, h, ⟨hp_at ht hP, hD⟩⟩, hS.F ht⟩) hS.2.2 dX4_accelerationAlong_51
  · have h := h.2 c_25
    refine lv_aload_n hx hb dX4_accelerationAlong_28 rfl (lv_at hl 2 rfl) ?_
    refine kg (v := .float (vf 0)) S hE hP 0 rfl rfl 0 (by decide) q_2_6 rfl rfl inlX4 dX4_accelerationAlong_29 ?_
    refine lv_aload_n hx hb dX4_accelerationAlong_32 rfl (lv_at hl 2 rfl) ?_
    refine kg (v := .ref (a 1)) S hE hP 0 rfl rfl 10 (by decide) q_2_9 rfl rfl inlX4 dX4_accelerationAlong_33 ?_
    refine lv_iconst (v := (3 : Int32)) hx hb dX4_accelerationAlong_36 (by decide) ?_
    refine kail (v := (vs 3)) S hE hP 1 rfl (vi_3 (by decide)) tc_3 rfl dX4_accelerationAlong_37 ?_
    refine lv_i2f hx hb dX4_accelerationAlong_38 ?_
    refine lv_ldcf hx hb S.2.2.2.1 (S.2.2.2.2 _ q_2_5) dX4_accelerationAlong_39 ?_
    refine lv_fdiv hx hb dX4_accelerationAlong_41 h.1 ?_
    have h := h.2
    refine lv_fcmp hx hb dX4_accelerationAlong_42 ?_
    refine lv_if_ge (tgt := 50) hx hb dX4_accelerationAlong_43 (by decide) (fun c_43 => ?_) (fun c_43 => ?_)
    · have h := h.1 c_43
      refine lv_fload_n hx hb dX4_accelerationAlong_50 rfl (lv_at hl 1 rfl) ?_
      exact W.fret (v := r_7) hx hb hr (fun t ht hW => ⟨⟨r_7, (), rfl, h, ⟨hp_at ht hP, hD⟩⟩, hS.F ht⟩) hS.2.2 dX4_accelerationAlong_51
    · have h := h.2 c_43
      refine lv_fload_n hx hb dX4_accelerationAlong_46 rfl (lv_at hl 0 rfl) ?_
      refine lv_goto (tgt := 51) hx hb dX4_accelerationAlong_47 (by decide) ?_
      exact W.fret (v := (FP.fdiv (FP.i2f (vs 5)) (1148846080 : UInt32))) hx hb hr (fun t ht hW => ⟨⟨(FP.fdiv (FP.i2f (vs 5)) (1148846080 : UInt32)), (), rfl, h, ⟨hp_at ht hP, hD⟩⟩, hS.F ht⟩) hS.2.2 dX4_accelerationAlong_51
def vX4_accelerationAcross (vf : Nat → UInt32) (vs : Nat → Int32) (K : UInt32 → Unit → Prop) : Prop :=
  vf_n32 (FP.fmul (vf 1) (1028443341 : UInt32)) ∧ vf_n32 (FP.fsub FP.fconst0 (FP.fmul (vf 1) (1028443341 : UInt32))) ∧ vf_n32 (FP.fsub (FP.fsub FP.fconst0 (FP.fmul (vf 1) (1028443341 : UInt32))) (vf 3)) ∧ vX4_heldToGreatest vs (FP.fsub (FP.fsub FP.fconst0 (FP.fmul (vf 1) (1028443341 : UInt32))) (vf 3)) (fun r_15 u_15 => K r_15 ())
set_option maxRecDepth 100000 in
set_option maxHeartbeats 4000000 in
theorem ctX4_accelerationAcross (l : Launch) (G : va_G) (cy : Nat → ClassId) (a : Nat → Nat) (vn : Nat → Int32) (vf : Nat → UInt32) (vs : Nat → Int32) (vp : Nat → Int32) (vq : Nat → Int32) (vd : Nat → Int32) (vo : Nat → Int32)  (K : UInt32 → Unit → Prop) (h : vX4_accelerationAcross vf vs K) : Met l yX4_accelerationAcross (ws_ yX4_accelerationAcross cX4_accelerationAcross 1 (some .float)) ({ frames := 1, cells := 0, slots := 0, locals := 22 } : Room) (CP G cy [.ref (a 0)] (st_W cy a vn vf vs vp vq vd vo)) (RF G K (fun u => st_W cy a vn vf vs vp vq vd vo) (A1 (st_W cy a vn vf vs vp vq vd vo))) 0 0 (A1 (st_W cy a vn vf vs vp vq vd vo)) := by
  refine hd_go (Qf := fun A => (RF G K (fun u => st_W cy a vn vf vs vp vq vd vo) A)) (by decide +kernel) (Nat.le_of_ble_eq_true rfl) ?_
  intro p e s m below meth c ls A hx hb hr hlocks S hE hP hD hS hl
  have hl : lv_has ls 1 [(0, .ref (a 0))] := hl
  unfold vX4_accelerationAcross at h
  refine lv_aload_n hx hb dX4_accelerationAcross_0 rfl (lv_at hl 0 rfl) ?_
  refine lv_fconst0 hx hb dX4_accelerationAcross_1 ?_
  refine lv_aload_n hx hb dX4_accelerationAcross_2 rfl (lv_at hl 0 rfl) ?_
  refine kg (v := .float (vf 1)) S hE hP 0 rfl rfl 1 (by decide) q_9_4 rfl rfl inlX4 dX4_accelerationAcross_3 ?_
  refine lv_ldcf hx hb S.2.2.2.1 (S.2.2.2.2 _ q_16_9) dX4_accelerationAcross_6 ?_
  refine lv_fmul hx hb dX4_accelerationAcross_8 h.1 ?_
  have h := h.2
  refine lv_fsub hx hb dX4_accelerationAcross_9 h.1 ?_
  have h := h.2
  refine lv_aload_n hx hb dX4_accelerationAcross_10 rfl (lv_at hl 0 rfl) ?_
  refine kg (v := .float (vf 3)) S hE hP 0 rfl rfl 3 (by decide) q_9_17 rfl rfl inlX4 dX4_accelerationAcross_11 ?_
  refine lv_fsub hx hb dX4_accelerationAcross_14 h.1 ?_
  have h := h.2
  refine kc_Vf0 (As := [.float (FP.fsub (FP.fsub FP.fconst0 (FP.fmul (vf 1) (1028443341 : UInt32))) (vf 3))]) (rest := []) S hE (ctX4_heldToGreatest l G cy a vn vf vs vp vq vd vo (FP.fsub (FP.fsub FP.fconst0 (FP.fmul (vf 1) (1028443341 : UInt32))) (vf 3)) _ h) q_16_1 q_16_2 q_16_3 q_1_11 q_16_4 rfl 0 rfl rfl ydX4_heldToGreatest ⟨⟨rfl, rfl⟩, ⟨Nat.le_of_ble_eq_true rfl, Nat.le_of_ble_eq_true rfl⟩⟩ ⟨Nat.zero_le _, Nat.zero_le _⟩ hP hD hS rfl hl.1 rfl (Nat.le_of_ble_eq_true rfl) dX4_accelerationAcross_15 (fun r_15 u_15 H locs h hP hD hS => ?_)
  exact W.fret (v := r_15) hx hb hr (fun t ht hW => ⟨⟨r_15, (), rfl, h, ⟨hp_at ht hP, hD⟩⟩, hS.F ht⟩) hS.2.2 dX4_accelerationAcross_18
def vX4_wantedSpeed (vn : Nat → Int32) (vf : Nat → UInt32) (vp : Nat → Int32) (vq : Nat → Int32) (vd : Nat → Int32) (vo : Nat → Int32) (K : UInt32 → Unit → Prop) : Prop :=
  (¬ (vn 0) = (2 : Int32) → vX3_measured vn (vf 0) (fun r_33 u_33 => vX2_limitAt vn vp vq r_33 (fun r_36 u_36 => (¬ (vn 0) = (3 : Int32) → vX5_nextBelow vn vd vo (vf 0) (fun r_58 u_58 => vX5_has vn r_58 (fun r_67 u_67 => (¬ r_67 = (0 : Int32) → vX5_metres vd r_58 (fun r_86 u_86 => vf_n32 (FP.fsub (vf 0) r_86) ∧ vf_n32 (FP.fmul (FP.fsub (vf 0) r_86) (1036831949 : UInt32)) ∧ vf_n32 (FP.fsub FP.fconst0 (FP.fmul (FP.fsub (vf 0) r_86) (1036831949 : UInt32))) ∧ ((fcl (FP.fsub FP.fconst0 (FP.fmul (FP.fsub (vf 0) r_86) (1036831949 : UInt32))) (FP.fneg r_36)) ≤ (0 : Int32) → K (FP.fneg r_36) ()) ∧ (¬ (fcl (FP.fsub FP.fconst0 (FP.fmul (FP.fsub (vf 0) r_86) (1036831949 : UInt32))) (FP.fneg r_36)) ≤ (0 : Int32) → K (FP.fsub FP.fconst0 (FP.fmul (FP.fsub (vf 0) r_86) (1036831949 : UInt32))) ()))) ∧ (r_67 = (0 : Int32) → K (FP.fneg r_36) ())))) ∧ ((vn 0) = (3 : Int32) → K r_36 ())))) ∧ ((vn 0) = (2 : Int32) → vf_n32 (FP.fsub (vf 4) (vf 0)) ∧ vf_n32 (FP.fmul (FP.fsub (vf 4) (vf 0)) (1036831949 : UInt32)) ∧ K (FP.fmul (FP.fsub (vf 4) (vf 0)) (1036831949 : UInt32)) ())
set_option maxRecDepth 100000 in
set_option maxHeartbeats 4000000 in
theorem ctX4_wantedSpeed (l : Launch) (G : va_G) (cy : Nat → ClassId) (a : Nat → Nat) (vn : Nat → Int32) (vf : Nat → UInt32) (vs : Nat → Int32) (vp : Nat → Int32) (vq : Nat → Int32) (vd : Nat → Int32) (vo : Nat → Int32)  (K : UInt32 → Unit → Prop) (h : vX4_wantedSpeed vn vf vp vq vd vo K) : Met l yX4_wantedSpeed (ws_ yX4_wantedSpeed cX4_wantedSpeed 4 (some .float)) ({ frames := 2, cells := 0, slots := 0, locals := 45 } : Room) (CP G cy [.ref (a 0)] (st_W cy a vn vf vs vp vq vd vo)) (RF G K (fun u => st_W cy a vn vf vs vp vq vd vo) (A1 (st_W cy a vn vf vs vp vq vd vo))) 0 0 (A1 (st_W cy a vn vf vs vp vq vd vo)) := by
  refine hd_go (Qf := fun A => (RF G K (fun u => st_W cy a vn vf vs vp vq vd vo) A)) (by decide +kernel) (Nat.le_of_ble_eq_true rfl) ?_
  intro p e s m below meth c ls A hx hb hr hlocks S hE hP hD hS hl
  have hl : lv_has ls 4 [(0, .ref (a 0))] := hl
  unfold vX4_wantedSpeed at h
  refine lv_aload_n hx hb dX4_wantedSpeed_0 rfl (lv_at hl 0 rfl) ?_
  refine kg (v := .int (vn 0)) S hE hP 0 rfl rfl 4 (by decide) q_11_0 rfl rfl inlX4 dX4_wantedSpeed_1 ?_
  refine lv_iconst (v := (2 : Int32)) hx hb dX4_wantedSpeed_4 (by decide) ?_
  refine lv_icmp_ne (tgt := 21) hx hb dX4_wantedSpeed_5 (by decide) (fun c_5 => ?_) (fun c_5 => ?_)
  · have h := h.1 c_5
    refine lv_aload_n hx hb dX4_wantedSpeed_21 rfl (lv_at hl 0 rfl) ?_
    refine kg (v := .ref (a 2)) S hE hP 0 rfl rfl 11 (by decide) q_2_17 rfl rfl inlX4 dX4_wantedSpeed_22 ?_
    refine lv_aload_n hx hb dX4_wantedSpeed_25 rfl (lv_at hl 0 rfl) ?_
    refine kg (v := .ref (a 8)) S hE hP 0 rfl rfl 13 (by decide) q_3_1 rfl rfl inlX4 dX4_wantedSpeed_26 ?_
    refine lv_aload_n hx hb dX4_wantedSpeed_29 rfl (lv_at hl 0 rfl) ?_
    refine kg (v := .float (vf 0)) S hE hP 0 rfl rfl 0 (by decide) q_2_6 rfl rfl inlX4 dX4_wantedSpeed_30 ?_
    refine kc_Vf0 (As := [.float (vf 0)]) (rest := [.ref (a 2)]) S hE (ctX3_measured l G cy a vn vf vs vp vq vd vo (vf 0) _ h) q_15_17 q_6_18 q_6_19 q_3_0 q_6_20 rfl 8 rfl rfl ydX3_measured ⟨⟨rfl, rfl⟩, ⟨Nat.le_of_ble_eq_true rfl, Nat.le_of_ble_eq_true rfl⟩⟩ ⟨Nat.zero_le _, Nat.zero_le _⟩ hP hD hS rfl hl.1 rfl (Nat.le_of_ble_eq_true rfl) dX4_wantedSpeed_33 (fun r_33 u_33 H locs h hP hD hS => ?_)
    refine kc_Vf0 (As := [.float r_33]) (rest := []) S hE (ctX2_limitAt l G cy a vn vf vs vp vq vd vo r_33 _ h) q_9_12 q_7_10 q_7_11 q_2_16 q_7_12 rfl 2 rfl rfl ydX2_limitAt ⟨⟨rfl, rfl⟩, ⟨Nat.le_of_ble_eq_true rfl, Nat.le_of_ble_eq_true rfl⟩⟩ ⟨Nat.zero_le _, Nat.zero_le _⟩ hP hD hS rfl hl.1 rfl (Nat.le_of_ble_eq_true rfl) dX4_wantedSpeed_36 (fun r_36 u_36 H locs h hP hD hS => ?_)
    refine lv_fstore_n (lv' := [(1, .float r_36), (0, .ref (a 0))]) hx hb dX4_wantedSpeed_39 rfl hl (by decide) rfl (fun ls hl => ?_)
    refine lv_aload_n hx hb dX4_wantedSpeed_40 rfl (lv_at hl 1 rfl) ?_
    refine kg (v := .int (vn 0)) S hE hP 0 rfl rfl 4 (by decide) q_11_0 rfl rfl inlX4 dX4_wantedSpeed_41 ?_
    refine lv_iconst (v := (3 : Int32)) hx hb dX4_wantedSpeed_44 (by decide) ?_
    refine lv_icmp_ne (tgt := 50) hx hb dX4_wantedSpeed_45 (by decide) (fun c_45 => ?_) (fun c_45 => ?_)
    · have h := h.1 c_45
      refine lv_aload_n hx hb dX4_wantedSpeed_50 rfl (lv_at hl 1 rfl) ?_
      refine kg (v := .ref (a 5)) S hE hP 0 rfl rfl 12 (by decide) q_2_21 rfl rfl inlX4 dX4_wantedSpeed_51 ?_
      refine lv_aload_n hx hb dX4_wantedSpeed_54 rfl (lv_at hl 1 rfl) ?_
      refine kg (v := .float (vf 0)) S hE hP 0 rfl rfl 0 (by decide) q_2_6 rfl rfl inlX4 dX4_wantedSpeed_55 ?_
      refine kc_Vi0 (As := [.float (vf 0)]) (rest := []) S hE (ctX5_nextBelow l G cy a vn vf vs vp vq vd vo (vf 0) _ h) q_15_18 q_5_12 q_5_13 q_2_20 q_5_14 rfl 5 rfl rfl ydX5_nextBelow ⟨⟨rfl, rfl⟩, ⟨Nat.le_of_ble_eq_true rfl, Nat.le_of_ble_eq_true rfl⟩⟩ ⟨Nat.zero_le _, Nat.zero_le _⟩ hP hD hS rfl hl.1 rfl (Nat.le_of_ble_eq_true rfl) dX4_wantedSpeed_58 (fun r_58 u_58 H locs h hP hD hS => ?_)
      refine lv_istore_n (lv' := [(2, .int r_58), (1, .float r_36), (0, .ref (a 0))]) hx hb dX4_wantedSpeed_61 rfl hl (by decide) rfl (fun ls hl => ?_)
      refine lv_aload_n hx hb dX4_wantedSpeed_62 rfl (lv_at hl 2 rfl) ?_
      refine kg (v := .ref (a 5)) S hE hP 0 rfl rfl 12 (by decide) q_2_21 rfl rfl inlX4 dX4_wantedSpeed_63 ?_
      refine lv_iload_n hx hb dX4_wantedSpeed_66 rfl (lv_at hl 0 rfl) ?_
      refine kc_Vi0 (As := [.int r_58]) (rest := []) S hE (ctX5_has l G cy a vn vf vs vp vq vd vo r_58 _ h) q_15_19 q_8_11 q_8_12 q_2_20 q_8_13 rfl 5 rfl rfl ydX5_has ⟨⟨rfl, rfl⟩, ⟨Nat.le_of_ble_eq_true rfl, Nat.le_of_ble_eq_true rfl⟩⟩ ⟨Nat.zero_le _, Nat.zero_le _⟩ hP hD hS rfl hl.1 rfl (Nat.le_of_ble_eq_true rfl) dX4_wantedSpeed_67 (fun r_67 u_67 H locs h hP hD hS => ?_)
      refine lv_if_ne (tgt := 76) hx hb dX4_wantedSpeed_70 (by decide) (fun c_70 => ?_) (fun c_70 => ?_)
      · have h := h.1 c_70
        refine lv_fconst0 hx hb dX4_wantedSpeed_76 ?_
        refine lv_aload_n hx hb dX4_wantedSpeed_77 rfl (lv_at hl 2 rfl) ?_
        refine kg (v := .float (vf 0)) S hE hP 0 rfl rfl 0 (by decide) q_2_6 rfl rfl inlX4 dX4_wantedSpeed_78 ?_
        refine lv_aload_n hx hb dX4_wantedSpeed_81 rfl (lv_at hl 2 rfl) ?_
        refine kg (v := .ref (a 5)) S hE hP 0 rfl rfl 12 (by decide) q_2_21 rfl rfl inlX4 dX4_wantedSpeed_82 ?_
        refine lv_iload_n hx hb dX4_wantedSpeed_85 rfl (lv_at hl 0 rfl) ?_
        refine kc_Vf0 (As := [.int r_58]) (rest := [.float (vf 0), .float FP.fconst0]) S hE (ctX5_metres l G cy a vn vf vs vp vq vd vo r_58 _ h) q_15_20 q_5_17 q_5_18 q_2_20 q_5_19 rfl 5 rfl rfl ydX5_metres ⟨⟨rfl, rfl⟩, ⟨Nat.le_of_ble_eq_true rfl, Nat.le_of_ble_eq_true rfl⟩⟩ ⟨Nat.zero_le _, Nat.zero_le _⟩ hP hD hS rfl hl.1 rfl (Nat.le_of_ble_eq_true rfl) dX4_wantedSpeed_86 (fun r_86 u_86 H locs h hP hD hS => ?_)
        refine lv_fsub hx hb dX4_wantedSpeed_89 h.1 ?_
        have h := h.2
        refine lv_ldcf hx hb S.2.2.2.1 (S.2.2.2.2 _ q_15_16) dX4_wantedSpeed_90 ?_
        refine lv_fmul hx hb dX4_wantedSpeed_92 h.1 ?_
        have h := h.2
        refine lv_fsub hx hb dX4_wantedSpeed_93 h.1 ?_
        have h := h.2
        refine lv_fstore_n (lv' := [(3, .float (FP.fsub FP.fconst0 (FP.fmul (FP.fsub (vf 0) r_86) (1036831949 : UInt32)))), (2, .int r_58), (1, .float r_36), (0, .ref (a 0))]) hx hb dX4_wantedSpeed_94 rfl hl (by decide) rfl (fun ls hl => ?_)
        refine lv_fload_n hx hb dX4_wantedSpeed_95 rfl (lv_at hl 0 rfl) ?_
        refine lv_fload_n hx hb dX4_wantedSpeed_96 rfl (lv_at hl 2 rfl) ?_
        refine lv_fneg hx hb dX4_wantedSpeed_97 ?_
        refine lv_fcmp hx hb dX4_wantedSpeed_98 ?_
        refine lv_if_le (tgt := 106) hx hb dX4_wantedSpeed_99 (by decide) (fun c_99 => ?_) (fun c_99 => ?_)
        · have h := h.1 c_99
          refine lv_fload_n hx hb dX4_wantedSpeed_106 rfl (lv_at hl 2 rfl) ?_
          refine lv_fneg hx hb dX4_wantedSpeed_107 ?_
          exact W.fret (v := (FP.fneg r_36)) hx hb hr (fun t ht hW => ⟨⟨(FP.fneg r_36), (), rfl, h, ⟨hp_at ht hP, hD⟩⟩, hS.F ht⟩) hS.2.2 dX4_wantedSpeed_108
        · have h := h.2 c_99
          refine lv_fload_n hx hb dX4_wantedSpeed_102 rfl (lv_at hl 0 rfl) ?_
          refine lv_goto (tgt := 108) hx hb dX4_wantedSpeed_103 (by decide) ?_
          exact W.fret (v := (FP.fsub FP.fconst0 (FP.fmul (FP.fsub (vf 0) r_86) (1036831949 : UInt32)))) hx hb hr (fun t ht hW => ⟨⟨(FP.fsub FP.fconst0 (FP.fmul (FP.fsub (vf 0) r_86) (1036831949 : UInt32))), (), rfl, h, ⟨hp_at ht hP, hD⟩⟩, hS.F ht⟩) hS.2.2 dX4_wantedSpeed_108
      · have h := h.2 c_70
        refine lv_fload_n hx hb dX4_wantedSpeed_73 rfl (lv_at hl 1 rfl) ?_
        refine lv_fneg hx hb dX4_wantedSpeed_74 ?_
        exact W.fret (v := (FP.fneg r_36)) hx hb hr (fun t ht hW => ⟨⟨(FP.fneg r_36), (), rfl, h, ⟨hp_at ht hP, hD⟩⟩, hS.F ht⟩) hS.2.2 dX4_wantedSpeed_75
    · have h := h.2 c_45
      refine lv_fload_n hx hb dX4_wantedSpeed_48 rfl (lv_at hl 0 rfl) ?_
      exact W.fret (v := r_36) hx hb hr (fun t ht hW => ⟨⟨r_36, (), rfl, h, ⟨hp_at ht hP, hD⟩⟩, hS.F ht⟩) hS.2.2 dX4_wantedSpeed_49
  · have h := h.2 c_5
    refine lv_aload_n hx hb dX4_wantedSpeed_8 rfl (lv_at hl 0 rfl) ?_
    refine kg (v := .float (vf 4)) S hE hP 0 rfl rfl 6 (by decide) q_11_1 rfl rfl inlX4 dX4_wantedSpeed_9 ?_
    refine lv_aload_n hx hb dX4_wantedSpeed_12 rfl (lv_at hl 0 rfl) ?_
    refine kg (v := .float (vf 0)) S hE hP 0 rfl rfl 0 (by decide) q_2_6 rfl rfl inlX4 dX4_wantedSpeed_13 ?_
    refine lv_fsub hx hb dX4_wantedSpeed_16 h.1 ?_
    have h := h.2
    refine lv_ldcf hx hb S.2.2.2.1 (S.2.2.2.2 _ q_15_16) dX4_wantedSpeed_17 ?_
    refine lv_fmul hx hb dX4_wantedSpeed_19 h.1 ?_
    have h := h.2
    exact W.fret (v := (FP.fmul (FP.fsub (vf 4) (vf 0)) (1036831949 : UInt32))) hx hb hr (fun t ht hW => ⟨⟨(FP.fmul (FP.fsub (vf 4) (vf 0)) (1036831949 : UInt32)), (), rfl, h, ⟨hp_at ht hP, hD⟩⟩, hS.F ht⟩) hS.2.2 dX4_wantedSpeed_20
def vX4_arrive_59 (vn : Nat → Int32) (vf : Nat → UInt32) (vs : Nat → Int32) (y1 : Int32) (K : ((Nat → Int32) × (Nat → UInt32)) → Prop)  : Prop :=
  vX4_enter vn y1 (fun u_59 => K (u_59, (vf_upd (vf_upd (vf_upd vf 0 FP.fconst0) 2 FP.fconst0) 3 FP.fconst0)))
def vX4_arrive_48 (vn : Nat → Int32) (vf : Nat → UInt32) (vs : Nat → Int32) (y0 : Int32) (K : ((Nat → Int32) × (Nat → UInt32)) → Prop)  : Prop :=
  (y0 = (0 : Int32) → vX4_arrive_59 vn vf vs (5 : Int32) K ) ∧ (¬ y0 = (0 : Int32) → vX4_arrive_59 vn vf vs (4 : Int32) K )
def vX4_arrive_47 (vn : Nat → Int32) (vf : Nat → UInt32) (vs : Nat → Int32) (K : ((Nat → Int32) × (Nat → UInt32)) → Prop)  : Prop :=
  vX4_arrive_48 vn vf vs (0 : Int32) K 
def vX4_arrive (vn : Nat → Int32) (vf : Nat → UInt32) (vs : Nat → Int32) (K : ((Nat → Int32) × (Nat → UInt32)) → Prop) : Prop :=
  vX6_size (vf 2) (fun r_4 u_4 => vf_n32 (FP.fdiv (FP.i2f (vs 7)) (1148846080 : UInt32)) ∧ ((0 : Int32) < (fcg r_4 (FP.fdiv (FP.i2f (vs 7)) (1148846080 : UInt32))) → vX4_arrive_47 vn vf vs K ) ∧ (¬ (0 : Int32) < (fcg r_4 (FP.fdiv (FP.i2f (vs 7)) (1148846080 : UInt32))) → vX6_size (vf 1) (fun r_26 u_26 => vf_n32 (FP.fdiv (FP.i2f (vs 1)) (1120403456 : UInt32)) ∧ ((0 : Int32) < (fcg r_26 (FP.fdiv (FP.i2f (vs 1)) (1120403456 : UInt32))) → vX4_arrive_47 vn vf vs K ) ∧ (¬ (0 : Int32) < (fcg r_26 (FP.fdiv (FP.i2f (vs 1)) (1120403456 : UInt32))) → vX4_arrive_48 vn vf vs (1 : Int32) K ))))
set_option maxRecDepth 100000 in
set_option maxHeartbeats 4000000 in
theorem ctX4_arrive (l : Launch) (G : va_G) (cy : Nat → ClassId) (a : Nat → Nat) (vn : Nat → Int32) (vf : Nat → UInt32) (vs : Nat → Int32) (vp : Nat → Int32) (vq : Nat → Int32) (vd : Nat → Int32) (vo : Nat → Int32)  (K : ((Nat → Int32) × (Nat → UInt32)) → Prop) (h : vX4_arrive vn vf vs K) : Met l yX4_arrive (ws_ yX4_arrive cX4_arrive 2 none) ({ frames := 1, cells := 0, slots := 0, locals := 21 } : Room) (CP G cy [.ref (a 0)] (st_W cy a vn vf vs vp vq vd vo)) (RV G K (fun u => st_W cy a u.1 u.2 vs vp vq vd vo) (A1 (st_W cy a vn vf vs vp vq vd vo))) 0 0 (A1 (st_W cy a vn vf vs vp vq vd vo)) := by
  refine hd_go (Qf := fun A => (RV G K (fun u => st_W cy a u.1 u.2 vs vp vq vd vo) A)) (by decide +kernel) (Nat.le_of_ble_eq_true rfl) ?_
  intro p e s m below meth c ls A hx hb hr hlocks S hE hP hD hS hl
  have hl : lv_has ls 2 [(0, .ref (a 0))] := hl
  unfold vX4_arrive at h
  have J_59 : ∀ (vn : Nat → Int32) (vf : Nat → UInt32) (vs : Nat → Int32) (y1 : Int32), vX4_arrive_59 vn vf vs y1 K  → ∀ (H : Heap) (locs : List Loc) (ls : Array Slot), va_P G vwCl (st_W cy a vn vf vs vp vq vd vo) H → va_D A (st_W cy a vn vf vs vp vq vd vo) → va_S A s.heap H locs → lv_has ls 2 [(0, .ref (a 0))] → W p l e (headSpec (ws_ yX4_arrive cX4_arrive 2 none) ({ frames := 1, cells := 0, slots := 0, locals := 21 } : Room)).room s m ([.ref (a 0)] : List Value).toArray below meth c H locs 0 0 (MQ below (RV G K (fun u => st_W cy a u.1 u.2 vs vp vq vd vo) A) ([.ref (a 0)] : List Value).toArray s 0 0 A) (F0 m 59 ls [.int y1, .ref (a 0)]) := by
    intro vn vf vs y1 h H locs ls hP hD hS hl
    unfold vX4_arrive_59 at h
    refine kc_Vv0 (As := [.int y1]) (rest := []) S hE (ctX4_enter l G cy a vn vf vs vp vq vd vo y1 _ h) q_12_0 q_12_1 q_12_2 q_1_11 q_12_3 rfl 0 rfl rfl ydX4_enter ⟨⟨rfl, rfl⟩, ⟨Nat.le_of_ble_eq_true rfl, Nat.le_of_ble_eq_true rfl⟩⟩ ⟨Nat.zero_le _, Nat.zero_le _⟩ hP hD hS rfl hl.1 rfl (Nat.le_of_ble_eq_true rfl) dX4_arrive_59 (fun u_59 H locs h hP hD hS => ?_)
    refine lv_aload_n hx hb dX4_arrive_62 rfl (lv_at hl 0 rfl) ?_
    refine lv_fconst0 hx hb dX4_arrive_63 ?_
    refine kp S hE hP hD hS 0 rfl rfl 0 (by decide) q_2_6 rfl rfl tyX4_ok nmX4 inlX4 rfl rfl (Nat.le_of_ble_eq_true rfl) dX4_arrive_64 (fun H locs hP hD hS => ?_)
    have hP : va_P G vwCl (st_W cy a u_59 (vf_upd vf 0 FP.fconst0) vs vp vq vd vo) H := hP
    have hD : va_D A (st_W cy a u_59 (vf_upd vf 0 FP.fconst0) vs vp vq vd vo) := hD
    refine lv_aload_n hx hb dX4_arrive_67 rfl (lv_at hl 0 rfl) ?_
    refine lv_fconst0 hx hb dX4_arrive_68 ?_
    refine kp S hE hP hD hS 0 rfl rfl 2 (by decide) q_9_6 rfl rfl tyX4_ok nmX4 inlX4 rfl rfl (Nat.le_of_ble_eq_true rfl) dX4_arrive_69 (fun H locs hP hD hS => ?_)
    have hP : va_P G vwCl (st_W cy a u_59 (vf_upd (vf_upd vf 0 FP.fconst0) 2 FP.fconst0) vs vp vq vd vo) H := hP
    have hD : va_D A (st_W cy a u_59 (vf_upd (vf_upd vf 0 FP.fconst0) 2 FP.fconst0) vs vp vq vd vo) := hD
    refine lv_aload_n hx hb dX4_arrive_72 rfl (lv_at hl 0 rfl) ?_
    refine lv_fconst0 hx hb dX4_arrive_73 ?_
    refine kp S hE hP hD hS 0 rfl rfl 3 (by decide) q_9_17 rfl rfl tyX4_ok nmX4 inlX4 rfl rfl (Nat.le_of_ble_eq_true rfl) dX4_arrive_74 (fun H locs hP hD hS => ?_)
    have hP : va_P G vwCl (st_W cy a u_59 (vf_upd (vf_upd (vf_upd vf 0 FP.fconst0) 2 FP.fconst0) 3 FP.fconst0) vs vp vq vd vo) H := hP
    have hD : va_D A (st_W cy a u_59 (vf_upd (vf_upd (vf_upd vf 0 FP.fconst0) 2 FP.fconst0) 3 FP.fconst0) vs vp vq vd vo) := hD
    exact W.vret hx hb hr (fun t ht hW => ⟨⟨(u_59, (vf_upd (vf_upd (vf_upd vf 0 FP.fconst0) 2 FP.fconst0) 3 FP.fconst0)), rfl, h, ⟨hp_at ht hP, hD⟩⟩, hS.F ht⟩) hS.2.2 dX4_arrive_77
  have J_48 : ∀ (vn : Nat → Int32) (vf : Nat → UInt32) (vs : Nat → Int32) (y0 : Int32), vX4_arrive_48 vn vf vs y0 K  → ∀ (H : Heap) (locs : List Loc) (ls : Array Slot), va_P G vwCl (st_W cy a vn vf vs vp vq vd vo) H → va_D A (st_W cy a vn vf vs vp vq vd vo) → va_S A s.heap H locs → lv_has ls 2 [(0, .ref (a 0))] → W p l e (headSpec (ws_ yX4_arrive cX4_arrive 2 none) ({ frames := 1, cells := 0, slots := 0, locals := 21 } : Room)).room s m ([.ref (a 0)] : List Value).toArray below meth c H locs 0 0 (MQ below (RV G K (fun u => st_W cy a u.1 u.2 vs vp vq vd vo) A) ([.ref (a 0)] : List Value).toArray s 0 0 A) (F0 m 48 ls [.int y0]) := by
    intro vn vf vs y0 h H locs ls hP hD hS hl
    unfold vX4_arrive_48 at h
    refine lv_istore_n (lv' := [(1, .int y0), (0, .ref (a 0))]) hx hb dX4_arrive_48 rfl hl (by decide) rfl (fun ls hl => ?_)
    refine lv_aload_n hx hb dX4_arrive_49 rfl (lv_at hl 1 rfl) ?_
    refine lv_iload_n hx hb dX4_arrive_50 rfl (lv_at hl 0 rfl) ?_
    refine lv_if_eq (tgt := 58) hx hb dX4_arrive_51 (by decide) (fun c_51 => ?_) (fun c_51 => ?_)
    · have h := h.1 c_51
      refine lv_iconst (v := (5 : Int32)) hx hb dX4_arrive_58 (by decide) ?_
      exact J_59 _ _ _ _ h _ _ _ hP hD hS (lv_sub hl [1] rfl)
    · have h := h.2 c_51
      refine lv_iconst (v := (4 : Int32)) hx hb dX4_arrive_54 (by decide) ?_
      refine lv_goto (tgt := 59) hx hb dX4_arrive_55 (by decide) ?_
      exact J_59 _ _ _ _ h _ _ _ hP hD hS (lv_sub hl [1] rfl)
  have J_47 : ∀ (vn : Nat → Int32) (vf : Nat → UInt32) (vs : Nat → Int32), vX4_arrive_47 vn vf vs K  → ∀ (H : Heap) (locs : List Loc) (ls : Array Slot), va_P G vwCl (st_W cy a vn vf vs vp vq vd vo) H → va_D A (st_W cy a vn vf vs vp vq vd vo) → va_S A s.heap H locs → lv_has ls 2 [(0, .ref (a 0))] → W p l e (headSpec (ws_ yX4_arrive cX4_arrive 2 none) ({ frames := 1, cells := 0, slots := 0, locals := 21 } : Room)).room s m ([.ref (a 0)] : List Value).toArray below meth c H locs 0 0 (MQ below (RV G K (fun u => st_W cy a u.1 u.2 vs vp vq vd vo) A) ([.ref (a 0)] : List Value).toArray s 0 0 A) (F0 m 47 ls []) := by
    intro vn vf vs h H locs ls hP hD hS hl
    unfold vX4_arrive_47 at h
    refine lv_iconst (v := (0 : Int32)) hx hb dX4_arrive_47 (by decide) ?_
    exact J_48 _ _ _ _ h _ _ _ hP hD hS (lv_sub hl [0] rfl)
  refine lv_aload_n hx hb dX4_arrive_0 rfl (lv_at hl 0 rfl) ?_
  refine kg (v := .float (vf 2)) S hE hP 0 rfl rfl 2 (by decide) q_9_6 rfl rfl inlX4 dX4_arrive_1 ?_
  refine kc_NfE (As := [.float (vf 2)]) (rest := []) S hE (ctX6_size l G cy   (vf 2) _ h) hE.2.2.1 q_8_1 q_1_2 q_8_2 ydX6_size ⟨⟨rfl, rfl⟩, ⟨Nat.le_of_ble_eq_true rfl, Nat.le_of_ble_eq_true rfl⟩⟩ ⟨Nat.zero_le _, Nat.zero_le _⟩ hP hD hS (fun _ => rfl) rfl hl.1 rfl (Nat.le_of_ble_eq_true rfl) dX4_arrive_4 (fun r_4 u_4 H locs h hP hD hS => ?_)
  refine lv_aload_n hx hb dX4_arrive_7 rfl (lv_at hl 0 rfl) ?_
  refine kg (v := .ref (a 1)) S hE hP 0 rfl rfl 10 (by decide) q_2_9 rfl rfl inlX4 dX4_arrive_8 ?_
  refine lv_bipush (v := (7 : Int32)) hx hb dX4_arrive_11 (by decide) ?_
  refine kail (v := (vs 7)) S hE hP 1 rfl (vi_7 (by decide)) tc_7 rfl dX4_arrive_13 ?_
  refine lv_i2f hx hb dX4_arrive_14 ?_
  refine lv_ldcf hx hb S.2.2.2.1 (S.2.2.2.2 _ q_9_5) dX4_arrive_15 ?_
  refine lv_fdiv hx hb dX4_arrive_17 h.1 ?_
  have h := h.2
  refine lv_fcmp hx hb dX4_arrive_18 ?_
  refine lv_if_gt (tgt := 47) hx hb dX4_arrive_19 (by decide) (fun c_19 => ?_) (fun c_19 => ?_)
  · have h := h.1 c_19
    exact J_47 _ _ _ h _ _ _ hP hD hS (lv_sub hl [0] rfl)
  · have h := h.2 c_19
    refine lv_aload_n hx hb dX4_arrive_22 rfl (lv_at hl 0 rfl) ?_
    refine kg (v := .float (vf 1)) S hE hP 0 rfl rfl 1 (by decide) q_9_4 rfl rfl inlX4 dX4_arrive_23 ?_
    refine kc_NfE (As := [.float (vf 1)]) (rest := []) S hE (ctX6_size l G cy   (vf 1) _ h) hE.2.2.1 q_8_1 q_1_2 q_8_2 ydX6_size ⟨⟨rfl, rfl⟩, ⟨Nat.le_of_ble_eq_true rfl, Nat.le_of_ble_eq_true rfl⟩⟩ ⟨Nat.zero_le _, Nat.zero_le _⟩ hP hD hS (fun _ => rfl) rfl hl.1 rfl (Nat.le_of_ble_eq_true rfl) dX4_arrive_26 (fun r_26 u_26 H locs h hP hD hS => ?_)
    refine lv_aload_n hx hb dX4_arrive_29 rfl (lv_at hl 0 rfl) ?_
    refine kg (v := .ref (a 1)) S hE hP 0 rfl rfl 10 (by decide) q_2_9 rfl rfl inlX4 dX4_arrive_30 ?_
    refine lv_iconst (v := (1 : Int32)) hx hb dX4_arrive_33 (by decide) ?_
    refine kail (v := (vs 1)) S hE hP 1 rfl (vi_1 (by decide)) tc_1 rfl dX4_arrive_34 ?_
    refine lv_i2f hx hb dX4_arrive_35 ?_
    refine lv_ldcf hx hb S.2.2.2.1 (S.2.2.2.2 _ q_2_5) dX4_arrive_36 ?_
    refine lv_fdiv hx hb dX4_arrive_38 h.1 ?_
    have h := h.2
    refine lv_fcmp hx hb dX4_arrive_39 ?_
    refine lv_if_gt (tgt := 47) hx hb dX4_arrive_40 (by decide) (fun c_40 => ?_) (fun c_40 => ?_)
    · have h := h.1 c_40
      exact J_47 _ _ _ h _ _ _ hP hD hS (lv_sub hl [0] rfl)
    · have h := h.2 c_40
      refine lv_iconst (v := (1 : Int32)) hx hb dX4_arrive_43 (by decide) ?_
      refine lv_goto (tgt := 48) hx hb dX4_arrive_44 (by decide) ?_
      exact J_48 _ _ _ _ h _ _ _ hP hD hS (lv_sub hl [0] rfl)
def vX4_holdAtStopReached_29 (vn : Nat → Int32) (vf : Nat → UInt32) (vd : Nat → Int32) (vo : Nat → Int32) (y0 : Int32) (K : ((Nat → Int32) × (Nat → UInt32)) → Prop)  : Prop :=
  vX5_has vn y0 (fun r_35 u_35 => (r_35 = (0 : Int32) → K (vn, vf)) ∧ (¬ r_35 = (0 : Int32) → vX5_metres vd y0 (fun r_48 u_48 => vX4_hold vn vf y0 r_48 (fun u_51 => K (u_51.1, u_51.2)))))
def vX4_holdAtStopReached (vn : Nat → Int32) (vf : Nat → UInt32) (vd : Nat → Int32) (vo : Nat → Int32) (K : ((Nat → Int32) × (Nat → UInt32)) → Prop) : Prop :=
  vX6_size (vf 2) (fun r_4 u_4 => ((0 : Int32) ≤ (fcg r_4 (1028443341 : UInt32)) → vX4_holdAtStopReached_29 vn vf vd vo (-5 : Int32) K ) ∧ (¬ (0 : Int32) ≤ (fcg r_4 (1028443341 : UInt32)) → vX5_closedNear vn vd vo (vf 0) (fun r_21 u_21 => vX4_holdAtStopReached_29 vn vf vd vo r_21 K )))
set_option maxRecDepth 100000 in
set_option maxHeartbeats 4000000 in
theorem ctX4_holdAtStopReached (l : Launch) (G : va_G) (cy : Nat → ClassId) (a : Nat → Nat) (vn : Nat → Int32) (vf : Nat → UInt32) (vs : Nat → Int32) (vp : Nat → Int32) (vq : Nat → Int32) (vd : Nat → Int32) (vo : Nat → Int32)  (K : ((Nat → Int32) × (Nat → UInt32)) → Prop) (h : vX4_holdAtStopReached vn vf vd vo K) : Met l yX4_holdAtStopReached (ws_ yX4_holdAtStopReached cX4_holdAtStopReached 2 none) ({ frames := 2, cells := 0, slots := 0, locals := 43 } : Room) (CP G cy [.ref (a 0)] (st_W cy a vn vf vs vp vq vd vo)) (RV G K (fun u => st_W cy a u.1 u.2 vs vp vq vd vo) (A1 (st_W cy a vn vf vs vp vq vd vo))) 0 0 (A1 (st_W cy a vn vf vs vp vq vd vo)) := by
  refine hd_go (Qf := fun A => (RV G K (fun u => st_W cy a u.1 u.2 vs vp vq vd vo) A)) (by decide +kernel) (Nat.le_of_ble_eq_true rfl) ?_
  intro p e s m below meth c ls A hx hb hr hlocks S hE hP hD hS hl
  have hl : lv_has ls 2 [(0, .ref (a 0))] := hl
  unfold vX4_holdAtStopReached at h
  have J_29 : ∀ (vn : Nat → Int32) (vf : Nat → UInt32) (vd : Nat → Int32) (vo : Nat → Int32) (y0 : Int32), vX4_holdAtStopReached_29 vn vf vd vo y0 K  → ∀ (H : Heap) (locs : List Loc) (ls : Array Slot), va_P G vwCl (st_W cy a vn vf vs vp vq vd vo) H → va_D A (st_W cy a vn vf vs vp vq vd vo) → va_S A s.heap H locs → lv_has ls 2 [(0, .ref (a 0))] → W p l e (headSpec (ws_ yX4_holdAtStopReached cX4_holdAtStopReached 2 none) ({ frames := 2, cells := 0, slots := 0, locals := 43 } : Room)).room s m ([.ref (a 0)] : List Value).toArray below meth c H locs 0 0 (MQ below (RV G K (fun u => st_W cy a u.1 u.2 vs vp vq vd vo) A) ([.ref (a 0)] : List Value).toArray s 0 0 A) (F0 m 29 ls [.int y0]) := by
    intro vn vf vd vo y0 h H locs ls hP hD hS hl
    unfold vX4_holdAtStopReached_29 at h
    refine lv_istore_n (lv' := [(1, .int y0), (0, .ref (a 0))]) hx hb dX4_holdAtStopReached_29 rfl hl (by decide) rfl (fun ls hl => ?_)
    refine lv_aload_n hx hb dX4_holdAtStopReached_30 rfl (lv_at hl 1 rfl) ?_
    refine kg (v := .ref (a 5)) S hE hP 0 rfl rfl 12 (by decide) q_2_21 rfl rfl inlX4 dX4_holdAtStopReached_31 ?_
    refine lv_iload_n hx hb dX4_holdAtStopReached_34 rfl (lv_at hl 0 rfl) ?_
    refine kc_Vi0 (As := [.int y0]) (rest := []) S hE (ctX5_has l G cy a vn vf vs vp vq vd vo y0 _ h) q_15_19 q_8_11 q_8_12 q_2_20 q_8_13 rfl 5 rfl rfl ydX5_has ⟨⟨rfl, rfl⟩, ⟨Nat.le_of_ble_eq_true rfl, Nat.le_of_ble_eq_true rfl⟩⟩ ⟨Nat.zero_le _, Nat.zero_le _⟩ hP hD hS rfl hl.1 rfl (Nat.le_of_ble_eq_true rfl) dX4_holdAtStopReached_35 (fun r_35 u_35 H locs h hP hD hS => ?_)
    refine lv_if_eq (tgt := 54) hx hb dX4_holdAtStopReached_38 (by decide) (fun c_38 => ?_) (fun c_38 => ?_)
    · have h := h.1 c_38
      exact W.vret hx hb hr (fun t ht hW => ⟨⟨(vn, vf), rfl, h, ⟨hp_at ht hP, hD⟩⟩, hS.F ht⟩) hS.2.2 dX4_holdAtStopReached_54
    · have h := h.2 c_38
      refine lv_aload_n hx hb dX4_holdAtStopReached_41 rfl (lv_at hl 1 rfl) ?_
      refine lv_iload_n hx hb dX4_holdAtStopReached_42 rfl (lv_at hl 0 rfl) ?_
      refine lv_aload_n hx hb dX4_holdAtStopReached_43 rfl (lv_at hl 1 rfl) ?_
      refine kg (v := .ref (a 5)) S hE hP 0 rfl rfl 12 (by decide) q_2_21 rfl rfl inlX4 dX4_holdAtStopReached_44 ?_
      refine lv_iload_n hx hb dX4_holdAtStopReached_47 rfl (lv_at hl 0 rfl) ?_
      refine kc_Vf0 (As := [.int y0]) (rest := [.int y0, .ref (a 0)]) S hE (ctX5_metres l G cy a vn vf vs vp vq vd vo y0 _ h) q_15_20 q_5_17 q_5_18 q_2_20 q_5_19 rfl 5 rfl rfl ydX5_metres ⟨⟨rfl, rfl⟩, ⟨Nat.le_of_ble_eq_true rfl, Nat.le_of_ble_eq_true rfl⟩⟩ ⟨Nat.zero_le _, Nat.zero_le _⟩ hP hD hS rfl hl.1 rfl (Nat.le_of_ble_eq_true rfl) dX4_holdAtStopReached_48 (fun r_48 u_48 H locs h hP hD hS => ?_)
      refine kc_Vv0 (As := [.int y0, .float r_48]) (rest := []) S hE (ctX4_hold l G cy a vn vf vs vp vq vd vo y0 r_48 _ h) q_17_5 q_17_6 q_17_7 q_1_11 q_17_8 rfl 0 rfl rfl ydX4_hold ⟨⟨rfl, rfl⟩, ⟨Nat.le_of_ble_eq_true rfl, Nat.le_of_ble_eq_true rfl⟩⟩ ⟨Nat.zero_le _, Nat.zero_le _⟩ hP hD hS rfl hl.1 rfl (Nat.le_of_ble_eq_true rfl) dX4_holdAtStopReached_51 (fun u_51 H locs h hP hD hS => ?_)
      exact W.vret hx hb hr (fun t ht hW => ⟨⟨(u_51.1, u_51.2), rfl, h, ⟨hp_at ht hP, hD⟩⟩, hS.F ht⟩) hS.2.2 dX4_holdAtStopReached_54
  refine lv_aload_n hx hb dX4_holdAtStopReached_0 rfl (lv_at hl 0 rfl) ?_
  refine kg (v := .float (vf 2)) S hE hP 0 rfl rfl 2 (by decide) q_9_6 rfl rfl inlX4 dX4_holdAtStopReached_1 ?_
  refine kc_NfE (As := [.float (vf 2)]) (rest := []) S hE (ctX6_size l G cy   (vf 2) _ h) hE.2.2.1 q_8_1 q_1_2 q_8_2 ydX6_size ⟨⟨rfl, rfl⟩, ⟨Nat.le_of_ble_eq_true rfl, Nat.le_of_ble_eq_true rfl⟩⟩ ⟨Nat.zero_le _, Nat.zero_le _⟩ hP hD hS (fun _ => rfl) rfl hl.1 rfl (Nat.le_of_ble_eq_true rfl) dX4_holdAtStopReached_4 (fun r_4 u_4 H locs h hP hD hS => ?_)
  refine lv_ldcf hx hb S.2.2.2.1 (S.2.2.2.2 _ q_16_9) dX4_holdAtStopReached_7 ?_
  refine lv_fcmp hx hb dX4_holdAtStopReached_9 ?_
  refine lv_if_ge (tgt := 27) hx hb dX4_holdAtStopReached_10 (by decide) (fun c_10 => ?_) (fun c_10 => ?_)
  · have h := h.1 c_10
    refine lv_bipush (v := (-5 : Int32)) hx hb dX4_holdAtStopReached_27 (by decide) ?_
    exact J_29 _ _ _ _ _ h _ _ _ hP hD hS (lv_sub hl [0] rfl)
  · have h := h.2 c_10
    refine lv_aload_n hx hb dX4_holdAtStopReached_13 rfl (lv_at hl 0 rfl) ?_
    refine kg (v := .ref (a 5)) S hE hP 0 rfl rfl 12 (by decide) q_2_21 rfl rfl inlX4 dX4_holdAtStopReached_14 ?_
    refine lv_aload_n hx hb dX4_holdAtStopReached_17 rfl (lv_at hl 0 rfl) ?_
    refine kg (v := .float (vf 0)) S hE hP 0 rfl rfl 0 (by decide) q_2_6 rfl rfl inlX4 dX4_holdAtStopReached_18 ?_
    refine kc_Vi0 (As := [.float (vf 0)]) (rest := []) S hE (ctX5_closedNear l G cy a vn vf vs vp vq vd vo (vf 0) _ h) q_17_0 q_17_1 q_17_2 q_2_20 q_17_3 rfl 5 rfl rfl ydX5_closedNear ⟨⟨rfl, rfl⟩, ⟨Nat.le_of_ble_eq_true rfl, Nat.le_of_ble_eq_true rfl⟩⟩ ⟨Nat.zero_le _, Nat.zero_le _⟩ hP hD hS rfl hl.1 rfl (Nat.le_of_ble_eq_true rfl) dX4_holdAtStopReached_21 (fun r_21 u_21 H locs h hP hD hS => ?_)
    refine lv_goto (tgt := 29) hx hb dX4_holdAtStopReached_24 (by decide) ?_
    exact J_29 _ _ _ _ _ h _ _ _ hP hD hS (lv_sub hl [0] rfl)
def vX4_countStrikes_15 (vn : Nat → Int32) (y1 : Int32) (K : (Nat → Int32) → Prop)  : Prop :=
  (¬ y1 = (2 : Int32) → K (upd vn 2 y1)) ∧ (y1 = (2 : Int32) → vX4_enter (upd vn 2 y1) (3 : Int32) (fun u_28 => K (upd (upd u_28 2 (0 : Int32)) 8 ((u_28 8) + (1 : Int32)))))
def vX4_countStrikes (vn : Nat → Int32) (p1 : Int32) (K : (Nat → Int32) → Prop) : Prop :=
  (¬ p1 = (0 : Int32) → vX4_countStrikes_15 vn ((vn 2) + (1 : Int32)) K ) ∧ (p1 = (0 : Int32) → vX4_countStrikes_15 vn (0 : Int32) K )
set_option maxRecDepth 100000 in
set_option maxHeartbeats 4000000 in
theorem ctX4_countStrikes (l : Launch) (G : va_G) (cy : Nat → ClassId) (a : Nat → Nat) (vn : Nat → Int32) (vf : Nat → UInt32) (vs : Nat → Int32) (vp : Nat → Int32) (vq : Nat → Int32) (vd : Nat → Int32) (vo : Nat → Int32) (p1 : Int32) (K : (Nat → Int32) → Prop) (h : vX4_countStrikes vn p1 K) : Met l yX4_countStrikes (ws_ yX4_countStrikes cX4_countStrikes 2 none) ({ frames := 1, cells := 0, slots := 0, locals := 21 } : Room) (CP G cy [.ref (a 0), .int p1] (st_W cy a vn vf vs vp vq vd vo)) (RV G K (fun u => st_W cy a u vf vs vp vq vd vo) (A1 (st_W cy a vn vf vs vp vq vd vo))) 0 0 (A1 (st_W cy a vn vf vs vp vq vd vo)) := by
  refine hd_go (Qf := fun A => (RV G K (fun u => st_W cy a u vf vs vp vq vd vo) A)) (by decide +kernel) (Nat.le_of_ble_eq_true rfl) ?_
  intro p e s m below meth c ls A hx hb hr hlocks S hE hP hD hS hl
  have hl : lv_has ls 2 [(0, .ref (a 0)), (1, .int p1)] := hl
  unfold vX4_countStrikes at h
  have J_15 : ∀ (vn : Nat → Int32) (y1 : Int32), vX4_countStrikes_15 vn y1 K  → ∀ (H : Heap) (locs : List Loc) (ls : Array Slot), va_P G vwCl (st_W cy a vn vf vs vp vq vd vo) H → va_D A (st_W cy a vn vf vs vp vq vd vo) → va_S A s.heap H locs → lv_has ls 2 [(0, .ref (a 0))] → W p l e (headSpec (ws_ yX4_countStrikes cX4_countStrikes 2 none) ({ frames := 1, cells := 0, slots := 0, locals := 21 } : Room)).room s m ([.ref (a 0), .int p1] : List Value).toArray below meth c H locs 0 0 (MQ below (RV G K (fun u => st_W cy a u vf vs vp vq vd vo) A) ([.ref (a 0), .int p1] : List Value).toArray s 0 0 A) (F0 m 15 ls [.int y1, .ref (a 0)]) := by
    intro vn y1 h H locs ls hP hD hS hl
    unfold vX4_countStrikes_15 at h
    refine kp S hE hP hD hS 0 rfl rfl 7 (by decide) q_11_2 rfl rfl tyX4_ok nmX4 inlX4 rfl rfl (Nat.le_of_ble_eq_true rfl) dX4_countStrikes_15 (fun H locs hP hD hS => ?_)
    have hP : va_P G vwCl (st_W cy a (upd vn 2 y1) vf vs vp vq vd vo) H := hP
    have hD : va_D A (st_W cy a (upd vn 2 y1) vf vs vp vq vd vo) := hD
    refine lv_aload_n hx hb dX4_countStrikes_18 rfl (lv_at hl 0 rfl) ?_
    refine kg (v := .int y1) S hE hP 0 rfl rfl 7 (by decide) q_11_2 rfl rfl inlX4 dX4_countStrikes_19 ?_
    refine lv_iconst (v := (2 : Int32)) hx hb dX4_countStrikes_22 (by decide) ?_
    refine lv_icmp_ne (tgt := 46) hx hb dX4_countStrikes_23 (by decide) (fun c_23 => ?_) (fun c_23 => ?_)
    · have h := h.1 c_23
      exact W.vret hx hb hr (fun t ht hW => ⟨⟨(upd vn 2 y1), rfl, h, ⟨hp_at ht hP, hD⟩⟩, hS.F ht⟩) hS.2.2 dX4_countStrikes_46
    · have h := h.2 c_23
      refine lv_aload_n hx hb dX4_countStrikes_26 rfl (lv_at hl 0 rfl) ?_
      refine lv_iconst (v := (3 : Int32)) hx hb dX4_countStrikes_27 (by decide) ?_
      refine kc_Vv0 (As := [.int (3 : Int32)]) (rest := []) S hE (ctX4_enter l G cy a (upd vn 2 y1) vf vs vp vq vd vo (3 : Int32) _ h) q_12_0 q_12_1 q_12_2 q_1_11 q_12_3 rfl 0 rfl rfl ydX4_enter ⟨⟨rfl, rfl⟩, ⟨Nat.le_of_ble_eq_true rfl, Nat.le_of_ble_eq_true rfl⟩⟩ ⟨Nat.zero_le _, Nat.zero_le _⟩ hP hD hS rfl hl.1 rfl (Nat.le_of_ble_eq_true rfl) dX4_countStrikes_28 (fun u_28 H locs h hP hD hS => ?_)
      refine lv_aload_n hx hb dX4_countStrikes_31 rfl (lv_at hl 0 rfl) ?_
      refine lv_iconst (v := (0 : Int32)) hx hb dX4_countStrikes_32 (by decide) ?_
      refine kp S hE hP hD hS 0 rfl rfl 7 (by decide) q_11_2 rfl rfl tyX4_ok nmX4 inlX4 rfl rfl (Nat.le_of_ble_eq_true rfl) dX4_countStrikes_33 (fun H locs hP hD hS => ?_)
      have hP : va_P G vwCl (st_W cy a (upd u_28 2 (0 : Int32)) vf vs vp vq vd vo) H := hP
      have hD : va_D A (st_W cy a (upd u_28 2 (0 : Int32)) vf vs vp vq vd vo) := hD
      refine lv_aload_n hx hb dX4_countStrikes_36 rfl (lv_at hl 0 rfl) ?_
      refine lv_dup hx hb dX4_countStrikes_37 rfl ?_
      refine kg (v := .int (u_28 8)) S hE hP 0 rfl rfl 9 (by decide) q_11_4 rfl rfl inlX4 dX4_countStrikes_38 ?_
      refine lv_iconst (v := (1 : Int32)) hx hb dX4_countStrikes_41 (by decide) ?_
      refine lv_iadd hx hb dX4_countStrikes_42 ?_
      refine kp S hE hP hD hS 0 rfl rfl 9 (by decide) q_11_4 rfl rfl tyX4_ok nmX4 inlX4 rfl rfl (Nat.le_of_ble_eq_true rfl) dX4_countStrikes_43 (fun H locs hP hD hS => ?_)
      have hP : va_P G vwCl (st_W cy a (upd (upd u_28 2 (0 : Int32)) 8 ((u_28 8) + (1 : Int32))) vf vs vp vq vd vo) H := hP
      have hD : va_D A (st_W cy a (upd (upd u_28 2 (0 : Int32)) 8 ((u_28 8) + (1 : Int32))) vf vs vp vq vd vo) := hD
      exact W.vret hx hb hr (fun t ht hW => ⟨⟨(upd (upd u_28 2 (0 : Int32)) 8 ((u_28 8) + (1 : Int32))), rfl, h, ⟨hp_at ht hP, hD⟩⟩, hS.F ht⟩) hS.2.2 dX4_countStrikes_46
  refine lv_aload_n hx hb dX4_countStrikes_0 rfl (lv_at hl 0 rfl) ?_
  refine lv_iload_n hx hb dX4_countStrikes_1 rfl (lv_at hl 1 rfl) ?_
  refine lv_if_ne (tgt := 9) hx hb dX4_countStrikes_2 (by decide) (fun c_2 => ?_) (fun c_2 => ?_)
  · have h := h.1 c_2
    refine lv_aload_n hx hb dX4_countStrikes_9 rfl (lv_at hl 0 rfl) ?_
    refine kg (v := .int (vn 2)) S hE hP 0 rfl rfl 7 (by decide) q_11_2 rfl rfl inlX4 dX4_countStrikes_10 ?_
    refine lv_iconst (v := (1 : Int32)) hx hb dX4_countStrikes_13 (by decide) ?_
    refine lv_iadd hx hb dX4_countStrikes_14 ?_
    exact J_15 _ _ h _ _ _ hP hD hS (lv_sub hl [0] rfl)
  · have h := h.2 c_2
    refine lv_iconst (v := (0 : Int32)) hx hb dX4_countStrikes_5 (by decide) ?_
    refine lv_goto (tgt := 15) hx hb dX4_countStrikes_6 (by decide) ?_
    exact J_15 _ _ h _ _ _ hP hD hS (lv_sub hl [0] rfl)
def vX4_passSecond_137 (vn : Nat → Int32) (vf : Nat → UInt32) (vs : Nat → Int32) (vp : Nat → Int32) (vq : Nat → Int32) (vd : Nat → Int32) (vo : Nat → Int32) (K : ((Nat → Int32) × (Nat → UInt32)) → Prop)  : Prop :=
  (¬ (vn 0) = (1 : Int32) → (¬ (vn 0) = (3 : Int32) → K (vn, vf)) ∧ ((vn 0) = (3 : Int32) → ((fcl (vf 0) (1112014848 : UInt32)) ≤ (0 : Int32) → K (vn, vf)) ∧ (¬ (fcl (vf 0) (1112014848 : UInt32)) ≤ (0 : Int32) → vX4_judge vn vf vs vp vq (fun r_175 u_175 => (¬ r_175 = (0 : Int32) → K (vn, vf)) ∧ (r_175 = (0 : Int32) → vX4_hold vn vf (-5 : Int32) (vf 0) (fun u_188 => K (u_188.1, u_188.2))))))) ∧ ((vn 0) = (1 : Int32) → vX4_judge vn vf vs vp vq (fun r_147 u_147 => vX4_countStrikes vn r_147 (fun u_150 => K (u_150, vf))))
def vX4_passSecond_53 (vn : Nat → Int32) (vf : Nat → UInt32) (vs : Nat → Int32) (vp : Nat → Int32) (vq : Nat → Int32) (vd : Nat → Int32) (vo : Nat → Int32) (x1 : UInt32) (y0 : UInt32) (K : ((Nat → Int32) × (Nat → UInt32)) → Prop)  : Prop :=
  vf_n32 (FP.fadd (vf 2) x1) ∧ vf_n32 (FP.fadd (vf 3) y0) ∧ vf_n32 (FP.fadd (vf 0) (FP.fadd (vf 2) x1)) ∧ vf_n32 (FP.fadd (vf 1) (FP.fadd (vf 3) y0)) ∧ ((0 : Int32) < (fcg (FP.fadd (vf 0) (FP.fadd (vf 2) x1)) FP.fconst0) → vX3_compare vn (FP.fadd (vf 0) (FP.fadd (vf 2) x1)) (fun u_122 => (¬ (u_122 0) = (1 : Int32) → vX4_passSecond_137 u_122 (vf_upd (vf_upd (vf_upd (vf_upd vf 2 (FP.fadd (vf 2) x1)) 3 (FP.fadd (vf 3) y0)) 0 (FP.fadd (vf 0) (FP.fadd (vf 2) x1))) 1 (FP.fadd (vf 1) (FP.fadd (vf 3) y0))) vs vp vq vd vo K ) ∧ ((u_122 0) = (1 : Int32) → vX4_holdAtStopReached u_122 (vf_upd (vf_upd (vf_upd (vf_upd vf 2 (FP.fadd (vf 2) x1)) 3 (FP.fadd (vf 3) y0)) 0 (FP.fadd (vf 0) (FP.fadd (vf 2) x1))) 1 (FP.fadd (vf 1) (FP.fadd (vf 3) y0))) vd vo (fun u_134 => vX4_passSecond_137 u_134.1 u_134.2 vs vp vq vd vo K )))) ∧ (¬ (0 : Int32) < (fcg (FP.fadd (vf 0) (FP.fadd (vf 2) x1)) FP.fconst0) → vX4_arrive vn (vf_upd (vf_upd (vf_upd (vf_upd vf 2 (FP.fadd (vf 2) x1)) 3 (FP.fadd (vf 3) y0)) 0 (FP.fadd (vf 0) (FP.fadd (vf 2) x1))) 1 (FP.fadd (vf 1) (FP.fadd (vf 3) y0))) vs (fun u_110 => K (u_110.1, u_110.2)))
def vX4_passSecond_37 (vn : Nat → Int32) (vf : Nat → UInt32) (vs : Nat → Int32) (vp : Nat → Int32) (vq : Nat → Int32) (vd : Nat → Int32) (vo : Nat → Int32) (y0 : UInt32) (K : ((Nat → Int32) × (Nat → UInt32)) → Prop)  : Prop :=
  (¬ (vn 0) = (0 : Int32) → vX4_accelerationAcross vf vs (fun r_50 u_50 => vX4_passSecond_53 vn vf vs vp vq vd vo y0 r_50 K )) ∧ ((vn 0) = (0 : Int32) → vX4_passSecond_53 vn vf vs vp vq vd vo y0 FP.fconst0 K )
def vX4_passSecond (vn : Nat → Int32) (vf : Nat → UInt32) (vs : Nat → Int32) (vp : Nat → Int32) (vq : Nat → Int32) (vd : Nat → Int32) (vo : Nat → Int32) (K : ((Nat → Int32) × (Nat → UInt32)) → Prop) : Prop :=
  vX4_hasArrived (upd vn 1 ((vn 1) + (1 : Int32))) (fun r_11 u_11 => (r_11 = (0 : Int32) → (¬ (vn 0) = (0 : Int32) → vX4_wantedSpeed (upd vn 1 ((vn 1) + (1 : Int32))) vf vp vq vd vo (fun r_31 u_31 => vX4_accelerationAlong vf vs r_31 (fun r_34 u_34 => vX4_passSecond_37 (upd vn 1 ((vn 1) + (1 : Int32))) vf vs vp vq vd vo r_34 K ))) ∧ ((vn 0) = (0 : Int32) → vX4_passSecond_37 (upd vn 1 ((vn 1) + (1 : Int32))) vf vs vp vq vd vo FP.fconst0 K )) ∧ (¬ r_11 = (0 : Int32) → K ((upd vn 1 ((vn 1) + (1 : Int32))), vf)))
set_option maxRecDepth 100000 in
set_option maxHeartbeats 4000000 in
theorem ctX4_passSecond (l : Launch) (G : va_G) (cy : Nat → ClassId) (a : Nat → Nat) (vn : Nat → Int32) (vf : Nat → UInt32) (vs : Nat → Int32) (vp : Nat → Int32) (vq : Nat → Int32) (vd : Nat → Int32) (vo : Nat → Int32)  (K : ((Nat → Int32) × (Nat → UInt32)) → Prop) (h : vX4_passSecond vn vf vs vp vq vd vo K) : Met l yX4_passSecond (ws_ yX4_passSecond cX4_passSecond 3 none) ({ frames := 3, cells := 0, slots := 0, locals := 69 } : Room) (CP G cy [.ref (a 0)] (st_W cy a vn vf vs vp vq vd vo)) (RV G K (fun u => st_W cy a u.1 u.2 vs vp vq vd vo) (A1 (st_W cy a vn vf vs vp vq vd vo))) 0 0 (A1 (st_W cy a vn vf vs vp vq vd vo)) := by
  refine hd_go (Qf := fun A => (RV G K (fun u => st_W cy a u.1 u.2 vs vp vq vd vo) A)) (by decide +kernel) (Nat.le_of_ble_eq_true rfl) ?_
  intro p e s m below meth c ls A hx hb hr hlocks S hE hP hD hS hl
  have hl : lv_has ls 3 [(0, .ref (a 0))] := hl
  unfold vX4_passSecond at h
  have J_137 : ∀ (vn : Nat → Int32) (vf : Nat → UInt32) (vs : Nat → Int32) (vp : Nat → Int32) (vq : Nat → Int32) (vd : Nat → Int32) (vo : Nat → Int32), vX4_passSecond_137 vn vf vs vp vq vd vo K  → ∀ (H : Heap) (locs : List Loc) (ls : Array Slot), va_P G vwCl (st_W cy a vn vf vs vp vq vd vo) H → va_D A (st_W cy a vn vf vs vp vq vd vo) → va_S A s.heap H locs → lv_has ls 3 [(0, .ref (a 0))] → W p l e (headSpec (ws_ yX4_passSecond cX4_passSecond 3 none) ({ frames := 3, cells := 0, slots := 0, locals := 69 } : Room)).room s m ([.ref (a 0)] : List Value).toArray below meth c H locs 0 0 (MQ below (RV G K (fun u => st_W cy a u.1 u.2 vs vp vq vd vo) A) ([.ref (a 0)] : List Value).toArray s 0 0 A) (F0 m 137 ls []) := by
    intro vn vf vs vp vq vd vo h H locs ls hP hD hS hl
    unfold vX4_passSecond_137 at h
    refine lv_aload_n hx hb dX4_passSecond_137 rfl (lv_at hl 0 rfl) ?_
    refine kg (v := .int (vn 0)) S hE hP 0 rfl rfl 4 (by decide) q_11_0 rfl rfl inlX4 dX4_passSecond_138 ?_
    refine lv_iconst (v := (1 : Int32)) hx hb dX4_passSecond_141 (by decide) ?_
    refine lv_icmp_ne (tgt := 156) hx hb dX4_passSecond_142 (by decide) (fun c_142 => ?_) (fun c_142 => ?_)
    · have h := h.1 c_142
      refine lv_aload_n hx hb dX4_passSecond_156 rfl (lv_at hl 0 rfl) ?_
      refine kg (v := .int (vn 0)) S hE hP 0 rfl rfl 4 (by decide) q_11_0 rfl rfl inlX4 dX4_passSecond_157 ?_
      refine lv_iconst (v := (3 : Int32)) hx hb dX4_passSecond_160 (by decide) ?_
      refine lv_icmp_ne (tgt := 191) hx hb dX4_passSecond_161 (by decide) (fun c_161 => ?_) (fun c_161 => ?_)
      · have h := h.1 c_161
        exact W.vret hx hb hr (fun t ht hW => ⟨⟨(vn, vf), rfl, h, ⟨hp_at ht hP, hD⟩⟩, hS.F ht⟩) hS.2.2 dX4_passSecond_191
      · have h := h.2 c_161
        refine lv_aload_n hx hb dX4_passSecond_164 rfl (lv_at hl 0 rfl) ?_
        refine kg (v := .float (vf 0)) S hE hP 0 rfl rfl 0 (by decide) q_2_6 rfl rfl inlX4 dX4_passSecond_165 ?_
        refine lv_ldcf hx hb S.2.2.2.1 (S.2.2.2.2 _ q_15_11) dX4_passSecond_168 ?_
        refine lv_fcmp hx hb dX4_passSecond_170 ?_
        refine lv_if_le (tgt := 191) hx hb dX4_passSecond_171 (by decide) (fun c_171 => ?_) (fun c_171 => ?_)
        · have h := h.1 c_171
          exact W.vret hx hb hr (fun t ht hW => ⟨⟨(vn, vf), rfl, h, ⟨hp_at ht hP, hD⟩⟩, hS.F ht⟩) hS.2.2 dX4_passSecond_191
        · have h := h.2 c_171
          refine lv_aload_n hx hb dX4_passSecond_174 rfl (lv_at hl 0 rfl) ?_
          refine kc_Vi0 (As := []) (rest := []) S hE (ctX4_judge l G cy a vn vf vs vp vq vd vo  _ h) q_15_1 q_9_1 q_9_2 q_1_11 q_9_3 rfl 0 rfl rfl ydX4_judge ⟨⟨rfl, rfl⟩, ⟨Nat.le_of_ble_eq_true rfl, Nat.le_of_ble_eq_true rfl⟩⟩ ⟨Nat.zero_le _, Nat.zero_le _⟩ hP hD hS rfl hl.1 rfl (Nat.le_of_ble_eq_true rfl) dX4_passSecond_175 (fun r_175 u_175 H locs h hP hD hS => ?_)
          refine lv_if_ne (tgt := 191) hx hb dX4_passSecond_178 (by decide) (fun c_178 => ?_) (fun c_178 => ?_)
          · have h := h.1 c_178
            exact W.vret hx hb hr (fun t ht hW => ⟨⟨(vn, vf), rfl, h, ⟨hp_at ht hP, hD⟩⟩, hS.F ht⟩) hS.2.2 dX4_passSecond_191
          · have h := h.2 c_178
            refine lv_aload_n hx hb dX4_passSecond_181 rfl (lv_at hl 0 rfl) ?_
            refine lv_bipush (v := (-5 : Int32)) hx hb dX4_passSecond_182 (by decide) ?_
            refine lv_aload_n hx hb dX4_passSecond_184 rfl (lv_at hl 0 rfl) ?_
            refine kg (v := .float (vf 0)) S hE hP 0 rfl rfl 0 (by decide) q_2_6 rfl rfl inlX4 dX4_passSecond_185 ?_
            refine kc_Vv0 (As := [.int (-5 : Int32), .float (vf 0)]) (rest := []) S hE (ctX4_hold l G cy a vn vf vs vp vq vd vo (-5 : Int32) (vf 0) _ h) q_17_5 q_17_6 q_17_7 q_1_11 q_17_8 rfl 0 rfl rfl ydX4_hold ⟨⟨rfl, rfl⟩, ⟨Nat.le_of_ble_eq_true rfl, Nat.le_of_ble_eq_true rfl⟩⟩ ⟨Nat.zero_le _, Nat.zero_le _⟩ hP hD hS rfl hl.1 rfl (Nat.le_of_ble_eq_true rfl) dX4_passSecond_188 (fun u_188 H locs h hP hD hS => ?_)
            exact W.vret hx hb hr (fun t ht hW => ⟨⟨(u_188.1, u_188.2), rfl, h, ⟨hp_at ht hP, hD⟩⟩, hS.F ht⟩) hS.2.2 dX4_passSecond_191
    · have h := h.2 c_142
      refine lv_aload_n hx hb dX4_passSecond_145 rfl (lv_at hl 0 rfl) ?_
      refine lv_aload_n hx hb dX4_passSecond_146 rfl (lv_at hl 0 rfl) ?_
      refine kc_Vi0 (As := []) (rest := [.ref (a 0)]) S hE (ctX4_judge l G cy a vn vf vs vp vq vd vo  _ h) q_15_1 q_9_1 q_9_2 q_1_11 q_9_3 rfl 0 rfl rfl ydX4_judge ⟨⟨rfl, rfl⟩, ⟨Nat.le_of_ble_eq_true rfl, Nat.le_of_ble_eq_true rfl⟩⟩ ⟨Nat.zero_le _, Nat.zero_le _⟩ hP hD hS rfl hl.1 rfl (Nat.le_of_ble_eq_true rfl) dX4_passSecond_147 (fun r_147 u_147 H locs h hP hD hS => ?_)
      refine kc_Vv0 (As := [.int r_147]) (rest := []) S hE (ctX4_countStrikes l G cy a vn vf vs vp vq vd vo r_147 _ h) q_17_9 q_17_10 q_17_11 q_1_11 q_17_12 rfl 0 rfl rfl ydX4_countStrikes ⟨⟨rfl, rfl⟩, ⟨Nat.le_of_ble_eq_true rfl, Nat.le_of_ble_eq_true rfl⟩⟩ ⟨Nat.zero_le _, Nat.zero_le _⟩ hP hD hS rfl hl.1 rfl (Nat.le_of_ble_eq_true rfl) dX4_passSecond_150 (fun u_150 H locs h hP hD hS => ?_)
      refine lv_goto (tgt := 191) hx hb dX4_passSecond_153 (by decide) ?_
      exact W.vret hx hb hr (fun t ht hW => ⟨⟨(u_150, vf), rfl, h, ⟨hp_at ht hP, hD⟩⟩, hS.F ht⟩) hS.2.2 dX4_passSecond_191
  have J_53 : ∀ (vn : Nat → Int32) (vf : Nat → UInt32) (vs : Nat → Int32) (vp : Nat → Int32) (vq : Nat → Int32) (vd : Nat → Int32) (vo : Nat → Int32) (x1 : UInt32) (y0 : UInt32), vX4_passSecond_53 vn vf vs vp vq vd vo x1 y0 K  → ∀ (H : Heap) (locs : List Loc) (ls : Array Slot), va_P G vwCl (st_W cy a vn vf vs vp vq vd vo) H → va_D A (st_W cy a vn vf vs vp vq vd vo) → va_S A s.heap H locs → lv_has ls 3 [(0, .ref (a 0)), (1, .float x1)] → W p l e (headSpec (ws_ yX4_passSecond cX4_passSecond 3 none) ({ frames := 3, cells := 0, slots := 0, locals := 69 } : Room)).room s m ([.ref (a 0)] : List Value).toArray below meth c H locs 0 0 (MQ below (RV G K (fun u => st_W cy a u.1 u.2 vs vp vq vd vo) A) ([.ref (a 0)] : List Value).toArray s 0 0 A) (F0 m 53 ls [.float y0]) := by
    intro vn vf vs vp vq vd vo x1 y0 h H locs ls hP hD hS hl
    unfold vX4_passSecond_53 at h
    refine lv_fstore_n (lv' := [(2, .float y0), (0, .ref (a 0)), (1, .float x1)]) hx hb dX4_passSecond_53 rfl hl (by decide) rfl (fun ls hl => ?_)
    refine lv_aload_n hx hb dX4_passSecond_54 rfl (lv_at hl 1 rfl) ?_
    refine lv_aload_n hx hb dX4_passSecond_55 rfl (lv_at hl 1 rfl) ?_
    refine kg (v := .float (vf 2)) S hE hP 0 rfl rfl 2 (by decide) q_9_6 rfl rfl inlX4 dX4_passSecond_56 ?_
    refine lv_fload_n hx hb dX4_passSecond_59 rfl (lv_at hl 2 rfl) ?_
    refine lv_fadd hx hb dX4_passSecond_60 h.1 ?_
    have h := h.2
    refine kp S hE hP hD hS 0 rfl rfl 2 (by decide) q_9_6 rfl rfl tyX4_ok nmX4 inlX4 rfl rfl (Nat.le_of_ble_eq_true rfl) dX4_passSecond_61 (fun H locs hP hD hS => ?_)
    have hP : va_P G vwCl (st_W cy a vn (vf_upd vf 2 (FP.fadd (vf 2) x1)) vs vp vq vd vo) H := hP
    have hD : va_D A (st_W cy a vn (vf_upd vf 2 (FP.fadd (vf 2) x1)) vs vp vq vd vo) := hD
    refine lv_aload_n hx hb dX4_passSecond_64 rfl (lv_at hl 1 rfl) ?_
    refine lv_aload_n hx hb dX4_passSecond_65 rfl (lv_at hl 1 rfl) ?_
    refine kg (v := .float (vf 3)) S hE hP 0 rfl rfl 3 (by decide) q_9_17 rfl rfl inlX4 dX4_passSecond_66 ?_
    refine lv_fload_n hx hb dX4_passSecond_69 rfl (lv_at hl 0 rfl) ?_
    refine lv_fadd hx hb dX4_passSecond_70 h.1 ?_
    have h := h.2
    refine kp S hE hP hD hS 0 rfl rfl 3 (by decide) q_9_17 rfl rfl tyX4_ok nmX4 inlX4 rfl rfl (Nat.le_of_ble_eq_true rfl) dX4_passSecond_71 (fun H locs hP hD hS => ?_)
    have hP : va_P G vwCl (st_W cy a vn (vf_upd (vf_upd vf 2 (FP.fadd (vf 2) x1)) 3 (FP.fadd (vf 3) y0)) vs vp vq vd vo) H := hP
    have hD : va_D A (st_W cy a vn (vf_upd (vf_upd vf 2 (FP.fadd (vf 2) x1)) 3 (FP.fadd (vf 3) y0)) vs vp vq vd vo) := hD
    refine lv_aload_n hx hb dX4_passSecond_74 rfl (lv_at hl 1 rfl) ?_
    refine lv_aload_n hx hb dX4_passSecond_75 rfl (lv_at hl 1 rfl) ?_
    refine kg (v := .float (vf 0)) S hE hP 0 rfl rfl 0 (by decide) q_2_6 rfl rfl inlX4 dX4_passSecond_76 ?_
    refine lv_aload_n hx hb dX4_passSecond_79 rfl (lv_at hl 1 rfl) ?_
    refine kg (v := .float (FP.fadd (vf 2) x1)) S hE hP 0 rfl rfl 2 (by decide) q_9_6 rfl rfl inlX4 dX4_passSecond_80 ?_
    refine lv_fadd hx hb dX4_passSecond_83 h.1 ?_
    have h := h.2
    refine kp S hE hP hD hS 0 rfl rfl 0 (by decide) q_2_6 rfl rfl tyX4_ok nmX4 inlX4 rfl rfl (Nat.le_of_ble_eq_true rfl) dX4_passSecond_84 (fun H locs hP hD hS => ?_)
    have hP : va_P G vwCl (st_W cy a vn (vf_upd (vf_upd (vf_upd vf 2 (FP.fadd (vf 2) x1)) 3 (FP.fadd (vf 3) y0)) 0 (FP.fadd (vf 0) (FP.fadd (vf 2) x1))) vs vp vq vd vo) H := hP
    have hD : va_D A (st_W cy a vn (vf_upd (vf_upd (vf_upd vf 2 (FP.fadd (vf 2) x1)) 3 (FP.fadd (vf 3) y0)) 0 (FP.fadd (vf 0) (FP.fadd (vf 2) x1))) vs vp vq vd vo) := hD
    refine lv_aload_n hx hb dX4_passSecond_87 rfl (lv_at hl 1 rfl) ?_
    refine lv_aload_n hx hb dX4_passSecond_88 rfl (lv_at hl 1 rfl) ?_
    refine kg (v := .float (vf 1)) S hE hP 0 rfl rfl 1 (by decide) q_9_4 rfl rfl inlX4 dX4_passSecond_89 ?_
    refine lv_aload_n hx hb dX4_passSecond_92 rfl (lv_at hl 1 rfl) ?_
    refine kg (v := .float (FP.fadd (vf 3) y0)) S hE hP 0 rfl rfl 3 (by decide) q_9_17 rfl rfl inlX4 dX4_passSecond_93 ?_
    refine lv_fadd hx hb dX4_passSecond_96 h.1 ?_
    have h := h.2
    refine kp S hE hP hD hS 0 rfl rfl 1 (by decide) q_9_4 rfl rfl tyX4_ok nmX4 inlX4 rfl rfl (Nat.le_of_ble_eq_true rfl) dX4_passSecond_97 (fun H locs hP hD hS => ?_)
    have hP : va_P G vwCl (st_W cy a vn (vf_upd (vf_upd (vf_upd (vf_upd vf 2 (FP.fadd (vf 2) x1)) 3 (FP.fadd (vf 3) y0)) 0 (FP.fadd (vf 0) (FP.fadd (vf 2) x1))) 1 (FP.fadd (vf 1) (FP.fadd (vf 3) y0))) vs vp vq vd vo) H := hP
    have hD : va_D A (st_W cy a vn (vf_upd (vf_upd (vf_upd (vf_upd vf 2 (FP.fadd (vf 2) x1)) 3 (FP.fadd (vf 3) y0)) 0 (FP.fadd (vf 0) (FP.fadd (vf 2) x1))) 1 (FP.fadd (vf 1) (FP.fadd (vf 3) y0))) vs vp vq vd vo) := hD
    refine lv_aload_n hx hb dX4_passSecond_100 rfl (lv_at hl 1 rfl) ?_
    refine kg (v := .float (FP.fadd (vf 0) (FP.fadd (vf 2) x1))) S hE hP 0 rfl rfl 0 (by decide) q_2_6 rfl rfl inlX4 dX4_passSecond_101 ?_
    refine lv_fconst0 hx hb dX4_passSecond_104 ?_
    refine lv_fcmp hx hb dX4_passSecond_105 ?_
    refine lv_if_gt (tgt := 114) hx hb dX4_passSecond_106 (by decide) (fun c_106 => ?_) (fun c_106 => ?_)
    · have h := h.1 c_106
      refine lv_aload_n hx hb dX4_passSecond_114 rfl (lv_at hl 1 rfl) ?_
      refine kg (v := .ref (a 8)) S hE hP 0 rfl rfl 13 (by decide) q_3_1 rfl rfl inlX4 dX4_passSecond_115 ?_
      refine lv_aload_n hx hb dX4_passSecond_118 rfl (lv_at hl 1 rfl) ?_
      refine kg (v := .float (FP.fadd (vf 0) (FP.fadd (vf 2) x1))) S hE hP 0 rfl rfl 0 (by decide) q_2_6 rfl rfl inlX4 dX4_passSecond_119 ?_
      refine kc_Vv0 (As := [.float (FP.fadd (vf 0) (FP.fadd (vf 2) x1))]) (rest := []) S hE (ctX3_compare l G cy a vn (vf_upd (vf_upd (vf_upd (vf_upd vf 2 (FP.fadd (vf 2) x1)) 3 (FP.fadd (vf 3) y0)) 0 (FP.fadd (vf 0) (FP.fadd (vf 2) x1))) 1 (FP.fadd (vf 1) (FP.fadd (vf 3) y0))) vs vp vq vd vo (FP.fadd (vf 0) (FP.fadd (vf 2) x1)) _ h) q_16_14 q_16_15 q_16_16 q_3_0 q_16_17 rfl 8 rfl rfl ydX3_compare ⟨⟨rfl, rfl⟩, ⟨Nat.le_of_ble_eq_true rfl, Nat.le_of_ble_eq_true rfl⟩⟩ ⟨Nat.zero_le _, Nat.zero_le _⟩ hP hD hS rfl hl.1 rfl (Nat.le_of_ble_eq_true rfl) dX4_passSecond_122 (fun u_122 H locs h hP hD hS => ?_)
      refine lv_aload_n hx hb dX4_passSecond_125 rfl (lv_at hl 1 rfl) ?_
      refine kg (v := .int (u_122 0)) S hE hP 0 rfl rfl 4 (by decide) q_11_0 rfl rfl inlX4 dX4_passSecond_126 ?_
      refine lv_iconst (v := (1 : Int32)) hx hb dX4_passSecond_129 (by decide) ?_
      refine lv_icmp_ne (tgt := 137) hx hb dX4_passSecond_130 (by decide) (fun c_130 => ?_) (fun c_130 => ?_)
      · have h := h.1 c_130
        exact J_137 _ _ _ _ _ _ _ h _ _ _ hP hD hS (lv_sub hl [1] rfl)
      · have h := h.2 c_130
        refine lv_aload_n hx hb dX4_passSecond_133 rfl (lv_at hl 1 rfl) ?_
        refine kc_Vv0 (As := []) (rest := []) S hE (ctX4_holdAtStopReached l G cy a u_122 (vf_upd (vf_upd (vf_upd (vf_upd vf 2 (FP.fadd (vf 2) x1)) 3 (FP.fadd (vf 3) y0)) 0 (FP.fadd (vf 0) (FP.fadd (vf 2) x1))) 1 (FP.fadd (vf 1) (FP.fadd (vf 3) y0))) vs vp vq vd vo  _ h) q_16_20 q_16_21 q_16_22 q_1_11 q_16_23 rfl 0 rfl rfl ydX4_holdAtStopReached ⟨⟨rfl, rfl⟩, ⟨Nat.le_of_ble_eq_true rfl, Nat.le_of_ble_eq_true rfl⟩⟩ ⟨Nat.zero_le _, Nat.zero_le _⟩ hP hD hS rfl hl.1 rfl (Nat.le_of_ble_eq_true rfl) dX4_passSecond_134 (fun u_134 H locs h hP hD hS => ?_)
        exact J_137 _ _ _ _ _ _ _ h _ _ _ hP hD hS (lv_sub hl [1] rfl)
    · have h := h.2 c_106
      refine lv_aload_n hx hb dX4_passSecond_109 rfl (lv_at hl 1 rfl) ?_
      refine kc_Vv0 (As := []) (rest := []) S hE (ctX4_arrive l G cy a vn (vf_upd (vf_upd (vf_upd (vf_upd vf 2 (FP.fadd (vf 2) x1)) 3 (FP.fadd (vf 3) y0)) 0 (FP.fadd (vf 0) (FP.fadd (vf 2) x1))) 1 (FP.fadd (vf 1) (FP.fadd (vf 3) y0))) vs vp vq vd vo  _ h) q_16_10 q_16_11 q_16_12 q_1_11 q_16_13 rfl 0 rfl rfl ydX4_arrive ⟨⟨rfl, rfl⟩, ⟨Nat.le_of_ble_eq_true rfl, Nat.le_of_ble_eq_true rfl⟩⟩ ⟨Nat.zero_le _, Nat.zero_le _⟩ hP hD hS rfl hl.1 rfl (Nat.le_of_ble_eq_true rfl) dX4_passSecond_110 (fun u_110 H locs h hP hD hS => ?_)
      exact W.vret hx hb hr (fun t ht hW => ⟨⟨(u_110.1, u_110.2), rfl, h, ⟨hp_at ht hP, hD⟩⟩, hS.F ht⟩) hS.2.2 dX4_passSecond_113
  have J_37 : ∀ (vn : Nat → Int32) (vf : Nat → UInt32) (vs : Nat → Int32) (vp : Nat → Int32) (vq : Nat → Int32) (vd : Nat → Int32) (vo : Nat → Int32) (y0 : UInt32), vX4_passSecond_37 vn vf vs vp vq vd vo y0 K  → ∀ (H : Heap) (locs : List Loc) (ls : Array Slot), va_P G vwCl (st_W cy a vn vf vs vp vq vd vo) H → va_D A (st_W cy a vn vf vs vp vq vd vo) → va_S A s.heap H locs → lv_has ls 3 [(0, .ref (a 0))] → W p l e (headSpec (ws_ yX4_passSecond cX4_passSecond 3 none) ({ frames := 3, cells := 0, slots := 0, locals := 69 } : Room)).room s m ([.ref (a 0)] : List Value).toArray below meth c H locs 0 0 (MQ below (RV G K (fun u => st_W cy a u.1 u.2 vs vp vq vd vo) A) ([.ref (a 0)] : List Value).toArray s 0 0 A) (F0 m 37 ls [.float y0]) := by
    intro vn vf vs vp vq vd vo y0 h H locs ls hP hD hS hl
    unfold vX4_passSecond_37 at h
    refine lv_fstore_n (lv' := [(1, .float y0), (0, .ref (a 0))]) hx hb dX4_passSecond_37 rfl hl (by decide) rfl (fun ls hl => ?_)
    refine lv_aload_n hx hb dX4_passSecond_38 rfl (lv_at hl 1 rfl) ?_
    refine kg (v := .int (vn 0)) S hE hP 0 rfl rfl 4 (by decide) q_11_0 rfl rfl inlX4 dX4_passSecond_39 ?_
    refine lv_if_ne (tgt := 49) hx hb dX4_passSecond_42 (by decide) (fun c_42 => ?_) (fun c_42 => ?_)
    · have h := h.1 c_42
      refine lv_aload_n hx hb dX4_passSecond_49 rfl (lv_at hl 1 rfl) ?_
      refine kc_Vf0 (As := []) (rest := []) S hE (ctX4_accelerationAcross l G cy a vn vf vs vp vq vd vo  _ h) q_16_5 q_16_6 q_16_7 q_1_11 q_16_8 rfl 0 rfl rfl ydX4_accelerationAcross ⟨⟨rfl, rfl⟩, ⟨Nat.le_of_ble_eq_true rfl, Nat.le_of_ble_eq_true rfl⟩⟩ ⟨Nat.zero_le _, Nat.zero_le _⟩ hP hD hS rfl hl.1 rfl (Nat.le_of_ble_eq_true rfl) dX4_passSecond_50 (fun r_50 u_50 H locs h hP hD hS => ?_)
      exact J_53 _ _ _ _ _ _ _ _ _ h _ _ _ hP hD hS (lv_sub hl [1, 0] rfl)
    · have h := h.2 c_42
      refine lv_fconst0 hx hb dX4_passSecond_45 ?_
      refine lv_goto (tgt := 53) hx hb dX4_passSecond_46 (by decide) ?_
      exact J_53 _ _ _ _ _ _ _ _ _ h _ _ _ hP hD hS (lv_sub hl [1, 0] rfl)
  refine lv_aload_n hx hb dX4_passSecond_0 rfl (lv_at hl 0 rfl) ?_
  refine lv_dup hx hb dX4_passSecond_1 rfl ?_
  refine kg (v := .int (vn 1)) S hE hP 0 rfl rfl 8 (by decide) q_11_3 rfl rfl inlX4 dX4_passSecond_2 ?_
  refine lv_iconst (v := (1 : Int32)) hx hb dX4_passSecond_5 (by decide) ?_
  refine lv_iadd hx hb dX4_passSecond_6 ?_
  refine kp S hE hP hD hS 0 rfl rfl 8 (by decide) q_11_3 rfl rfl tyX4_ok nmX4 inlX4 rfl rfl (Nat.le_of_ble_eq_true rfl) dX4_passSecond_7 (fun H locs hP hD hS => ?_)
  have hP : va_P G vwCl (st_W cy a (upd vn 1 ((vn 1) + (1 : Int32))) vf vs vp vq vd vo) H := hP
  have hD : va_D A (st_W cy a (upd vn 1 ((vn 1) + (1 : Int32))) vf vs vp vq vd vo) := hD
  refine lv_aload_n hx hb dX4_passSecond_10 rfl (lv_at hl 0 rfl) ?_
  refine kc_Vi0 (As := []) (rest := []) S hE (ctX4_hasArrived l G cy a (upd vn 1 ((vn 1) + (1 : Int32))) vf vs vp vq vd vo  _ h) q_14_8 q_14_9 q_14_10 q_1_11 q_14_11 rfl 0 rfl rfl ydX4_hasArrived ⟨⟨rfl, rfl⟩, ⟨Nat.le_of_ble_eq_true rfl, Nat.le_of_ble_eq_true rfl⟩⟩ ⟨Nat.zero_le _, Nat.zero_le _⟩ hP hD hS rfl hl.1 rfl (Nat.le_of_ble_eq_true rfl) dX4_passSecond_11 (fun r_11 u_11 H locs h hP hD hS => ?_)
  refine lv_if_eq (tgt := 18) hx hb dX4_passSecond_14 (by decide) (fun c_14 => ?_) (fun c_14 => ?_)
  · have h := h.1 c_14
    refine lv_aload_n hx hb dX4_passSecond_18 rfl (lv_at hl 0 rfl) ?_
    refine kg (v := .int (vn 0)) S hE hP 0 rfl rfl 4 (by decide) q_11_0 rfl rfl inlX4 dX4_passSecond_19 ?_
    refine lv_if_ne (tgt := 29) hx hb dX4_passSecond_22 (by decide) (fun c_22 => ?_) (fun c_22 => ?_)
    · have h := h.1 c_22
      refine lv_aload_n hx hb dX4_passSecond_29 rfl (lv_at hl 0 rfl) ?_
      refine lv_aload_n hx hb dX4_passSecond_30 rfl (lv_at hl 0 rfl) ?_
      refine kc_Vf0 (As := []) (rest := [.ref (a 0)]) S hE (ctX4_wantedSpeed l G cy a (upd vn 1 ((vn 1) + (1 : Int32))) vf vs vp vq vd vo  _ h) q_15_12 q_15_13 q_15_14 q_1_11 q_15_15 rfl 0 rfl rfl ydX4_wantedSpeed ⟨⟨rfl, rfl⟩, ⟨Nat.le_of_ble_eq_true rfl, Nat.le_of_ble_eq_true rfl⟩⟩ ⟨Nat.zero_le _, Nat.zero_le _⟩ hP hD hS rfl hl.1 rfl (Nat.le_of_ble_eq_true rfl) dX4_passSecond_31 (fun r_31 u_31 H locs h hP hD hS => ?_)
      refine kc_Vf0 (As := [.float r_31]) (rest := []) S hE (ctX4_accelerationAlong l G cy a (upd vn 1 ((vn 1) + (1 : Int32))) vf vs vp vq vd vo r_31 _ h) q_15_21 q_15_22 q_15_23 q_1_11 q_16_0 rfl 0 rfl rfl ydX4_accelerationAlong ⟨⟨rfl, rfl⟩, ⟨Nat.le_of_ble_eq_true rfl, Nat.le_of_ble_eq_true rfl⟩⟩ ⟨Nat.zero_le _, Nat.zero_le _⟩ hP hD hS rfl hl.1 rfl (Nat.le_of_ble_eq_true rfl) dX4_passSecond_34 (fun r_34 u_34 H locs h hP hD hS => ?_)
      exact J_37 _ _ _ _ _ _ _ _ h _ _ _ hP hD hS (lv_sub hl [0] rfl)
    · have h := h.2 c_22
      refine lv_fconst0 hx hb dX4_passSecond_25 ?_
      refine lv_goto (tgt := 37) hx hb dX4_passSecond_26 (by decide) ?_
      exact J_37 _ _ _ _ _ _ _ _ h _ _ _ hP hD hS (lv_sub hl [0] rfl)
  · have h := h.2 c_14
    exact W.vret hx hb hr (fun t ht hW => ⟨⟨((upd vn 1 ((vn 1) + (1 : Int32))), vf), rfl, h, ⟨hp_at ht hP, hD⟩⟩, hS.F ht⟩) hS.2.2 dX4_passSecond_17
def vX4_carryOut_103b (vs : Nat → Int32) (vp : Nat → Int32) (vq : Nat → Int32) (vd : Nat → Int32) (vo : Nat → Int32) (x2 : Int32) (K : Int32 → ((Nat → Int32) × (Nat → UInt32) × (Nat → Int32)) → Prop)  (B103 : (Nat → Int32) → (Nat → UInt32) → Int32 → Prop) (vn : Nat → Int32) (vf : Nat → UInt32) (x3 : Int32) : Prop :=
  (x2 ≤ x3 → K (vn 0) (vn, vf, vo)) ∧ (¬ x2 ≤ x3 → vX4_passSecond vn vf vs vp vq vd vo (fun u_109 => B103 u_109.1 u_109.2 (x3 + (1 : Int32))))
def vX4_carryOut_103F (vs : Nat → Int32) (vp : Nat → Int32) (vq : Nat → Int32) (vd : Nat → Int32) (vo : Nat → Int32) (x2 : Int32) (K : Int32 → ((Nat → Int32) × (Nat → UInt32) × (Nat → Int32)) → Prop)  : (((Nat → Int32) × (Nat → UInt32) × Int32) → Prop) → ((Nat → Int32) × (Nat → UInt32) × Int32) → Prop := fun B z => vX4_carryOut_103b vs vp vq vd vo x2 K  (fun z0 z1 z2 => B (z0, z1, z2)) z.1 z.2.1 z.2.2
def vX4_carryOut_93 (vn : Nat → Int32) (vf : Nat → UInt32) (vs : Nat → Int32) (vp : Nat → Int32) (vq : Nat → Int32) (vd : Nat → Int32) (vo : Nat → Int32) (K : Int32 → ((Nat → Int32) × (Nat → UInt32) × (Nat → Int32)) → Prop)  : Prop :=
  vX5_countClosed vn vo (fun r_97 u_97 => K r_97 (vn, vf, vo))
def vX4_carryOut (vn : Nat → Int32) (vf : Nat → UInt32) (vs : Nat → Int32) (vp : Nat → Int32) (vq : Nat → Int32) (vd : Nat → Int32) (vo : Nat → Int32) (p1 : Int32) (p2 : Int32) (K : Int32 → ((Nat → Int32) × (Nat → UInt32) × (Nat → Int32)) → Prop) : Prop :=
  (p1 = (98 : Int32) → vX4_enter vn (3 : Int32) (fun u_65 => vX4_judge u_65 vf vs vp vq (fun r_69 u_69 => K r_69 (u_65, vf, vo)))) ∧ (¬ p1 = (98 : Int32) → (p1 = (102 : Int32) → vX4_enter vn (0 : Int32) (fun u_55 => vX4_judge u_55 vf vs vp vq (fun r_59 u_59 => K r_59 (u_55, vf, vo)))) ∧ (¬ p1 = (102 : Int32) → (p1 = (103 : Int32) → vX4_startApproach vn (fun u_45 => vX4_judge u_45 vf vs vp vq (fun r_49 u_49 => K r_49 (u_45, vf, vo)))) ∧ (¬ p1 = (103 : Int32) → (p1 = (111 : Int32) → vX5_markOpen vo p2 (fun u_78 => (¬ (vn 5) = p2 → vX4_carryOut_93 vn vf vs vp vq vd u_78 K ) ∧ ((vn 5) = p2 → vX4_startApproach vn (fun u_90 => vX4_carryOut_93 u_90 vf vs vp vq vd u_78 K )))) ∧ (¬ p1 = (111 : Int32) → ∃ k, lp (vX4_carryOut_103F vs vp vq vd vo p2 K ) k (vn, vf, (0 : Int32))))))
set_option maxRecDepth 100000 in
set_option maxHeartbeats 4000000 in
theorem ctX4_carryOut (l : Launch) (G : va_G) (cy : Nat → ClassId) (a : Nat → Nat) (vn : Nat → Int32) (vf : Nat → UInt32) (vs : Nat → Int32) (vp : Nat → Int32) (vq : Nat → Int32) (vd : Nat → Int32) (vo : Nat → Int32) (p1 : Int32) (p2 : Int32) (K : Int32 → ((Nat → Int32) × (Nat → UInt32) × (Nat → Int32)) → Prop) (h : vX4_carryOut vn vf vs vp vq vd vo p1 p2 K) : Met l yX4_carryOut (ws_ yX4_carryOut cX4_carryOut 4 (some .int)) ({ frames := 4, cells := 0, slots := 0, locals := 91 } : Room) (CP G cy [.ref (a 0), .int p1, .int p2] (st_W cy a vn vf vs vp vq vd vo)) (RI G K (fun u => st_W cy a u.1 u.2.1 vs vp vq vd u.2.2) (A1 (st_W cy a vn vf vs vp vq vd vo))) 0 0 (A1 (st_W cy a vn vf vs vp vq vd vo)) := by
  refine hd_go (Qf := fun A => (RI G K (fun u => st_W cy a u.1 u.2.1 vs vp vq vd u.2.2) A)) (by decide +kernel) (Nat.le_of_ble_eq_true rfl) ?_
  intro p e s m below meth c ls A hx hb hr hlocks S hE hP hD hS hl
  have hl : lv_has ls 4 [(0, .ref (a 0)), (1, .int p1), (2, .int p2)] := hl
  unfold vX4_carryOut at h
  have L_103 : ∀ (vs : Nat → Int32) (vp : Nat → Int32) (vq : Nat → Int32) (vd : Nat → Int32) (vo : Nat → Int32) (x2 : Int32) (k_103 : Nat) (vn : Nat → Int32) (vf : Nat → UInt32) (x3 : Int32), lp (vX4_carryOut_103F vs vp vq vd vo x2 K ) k_103 (vn, vf, x3) → ∀ (H : Heap) (locs : List Loc) (ls : Array Slot), va_P G vwCl (st_W cy a vn vf vs vp vq vd vo) H → va_D A (st_W cy a vn vf vs vp vq vd vo) → va_S A s.heap H locs → lv_has ls 4 [(0, .ref (a 0)), (2, .int x2), (3, .int x3)] → W p l e (headSpec (ws_ yX4_carryOut cX4_carryOut 4 (some .int)) ({ frames := 4, cells := 0, slots := 0, locals := 91 } : Room)).room s m ([.ref (a 0), .int p1, .int p2] : List Value).toArray below meth c H locs 0 0 (MQ below (RI G K (fun u => st_W cy a u.1 u.2.1 vs vp vq vd u.2.2) A) ([.ref (a 0), .int p1, .int p2] : List Value).toArray s 0 0 A) (F0 m 103 ls []) := by
    intro vs vp vq vd vo x2 k_103
    induction k_103 with
    | zero => intro vn vf x3 h; exact h.elim
    | succ k_103 ih_103 =>
      intro vn vf x3 h H locs ls hP hD hS hl
      have h : vX4_carryOut_103b vs vp vq vd vo x2 K  (fun z0 z1 z2 => lp (vX4_carryOut_103F vs vp vq vd vo x2 K ) k_103 (z0, z1, z2)) vn vf x3 := h
      unfold vX4_carryOut_103b at h
      refine lv_iload_n hx hb dX4_carryOut_103 rfl (lv_at hl 2 rfl) ?_
      refine lv_iload_n hx hb dX4_carryOut_104 rfl (lv_at hl 1 rfl) ?_
      refine lv_icmp_ge (tgt := 118) hx hb dX4_carryOut_105 (by decide) (fun c_105 => ?_) (fun c_105 => ?_)
      · have h := h.1 c_105
        refine lv_aload_n hx hb dX4_carryOut_118 rfl (lv_at hl 0 rfl) ?_
        refine kg (v := .int (vn 0)) S hE hP 0 rfl rfl 4 (by decide) q_11_0 rfl rfl inlX4 dX4_carryOut_119 ?_
        exact W.iret (v := (vn 0)) hx hb hr (fun t ht hW => ⟨⟨(vn 0), (vn, vf, vo), rfl, h, ⟨hp_at ht hP, hD⟩⟩, hS.F ht⟩) hS.2.2 dX4_carryOut_122
      · have h := h.2 c_105
        refine lv_aload_n hx hb dX4_carryOut_108 rfl (lv_at hl 0 rfl) ?_
        refine kc_Vv0 (As := []) (rest := []) S hE (ctX4_passSecond l G cy a vn vf vs vp vq vd vo  _ h) q_15_7 q_15_8 q_15_9 q_1_11 q_15_10 rfl 0 rfl rfl ydX4_passSecond ⟨⟨rfl, rfl⟩, ⟨Nat.le_of_ble_eq_true rfl, Nat.le_of_ble_eq_true rfl⟩⟩ ⟨Nat.zero_le _, Nat.zero_le _⟩ hP hD hS rfl hl.1 rfl (Nat.le_of_ble_eq_true rfl) dX4_carryOut_109 (fun u_109 H locs h hP hD hS => ?_)
        refine lv_iinc (v := (x3 + (1 : Int32))) (lv' := [(3, .int (x3 + (1 : Int32))), (0, .ref (a 0)), (2, .int x2)]) hx hb dX4_carryOut_112 hl (k := 2) rfl (by rfl) (by decide) rfl (fun ls hl => ?_)
        refine lv_goto (tgt := 103) hx hb dX4_carryOut_115 (by decide) ?_
        exact ih_103 _ _ _ h _ _ _ hP hD hS (lv_sub hl [1, 2, 0] rfl)
  have J_93 : ∀ (vn : Nat → Int32) (vf : Nat → UInt32) (vs : Nat → Int32) (vp : Nat → Int32) (vq : Nat → Int32) (vd : Nat → Int32) (vo : Nat → Int32), vX4_carryOut_93 vn vf vs vp vq vd vo K  → ∀ (H : Heap) (locs : List Loc) (ls : Array Slot), va_P G vwCl (st_W cy a vn vf vs vp vq vd vo) H → va_D A (st_W cy a vn vf vs vp vq vd vo) → va_S A s.heap H locs → lv_has ls 4 [(0, .ref (a 0))] → W p l e (headSpec (ws_ yX4_carryOut cX4_carryOut 4 (some .int)) ({ frames := 4, cells := 0, slots := 0, locals := 91 } : Room)).room s m ([.ref (a 0), .int p1, .int p2] : List Value).toArray below meth c H locs 0 0 (MQ below (RI G K (fun u => st_W cy a u.1 u.2.1 vs vp vq vd u.2.2) A) ([.ref (a 0), .int p1, .int p2] : List Value).toArray s 0 0 A) (F0 m 93 ls []) := by
    intro vn vf vs vp vq vd vo h H locs ls hP hD hS hl
    unfold vX4_carryOut_93 at h
    refine lv_aload_n hx hb dX4_carryOut_93 rfl (lv_at hl 0 rfl) ?_
    refine kg (v := .ref (a 5)) S hE hP 0 rfl rfl 12 (by decide) q_2_21 rfl rfl inlX4 dX4_carryOut_94 ?_
    refine kc_Vi0 (As := []) (rest := []) S hE (ctX5_countClosed l G cy a vn vf vs vp vq vd vo  _ h) q_15_6 q_5_22 q_5_23 q_2_20 q_6_0 rfl 5 rfl rfl ydX5_countClosed ⟨⟨rfl, rfl⟩, ⟨Nat.le_of_ble_eq_true rfl, Nat.le_of_ble_eq_true rfl⟩⟩ ⟨Nat.zero_le _, Nat.zero_le _⟩ hP hD hS rfl hl.1 rfl (Nat.le_of_ble_eq_true rfl) dX4_carryOut_97 (fun r_97 u_97 H locs h hP hD hS => ?_)
    exact W.iret (v := r_97) hx hb hr (fun t ht hW => ⟨⟨r_97, (vn, vf, vo), rfl, h, ⟨hp_at ht hP, hD⟩⟩, hS.F ht⟩) hS.2.2 dX4_carryOut_100
  refine lv_iload_n hx hb dX4_carryOut_0 rfl (lv_at hl 1 rfl) ?_
  rcases Classical.em (p1 = (98 : Int32)) with c_1_0 | c_1_0
  · have h := h.1 c_1_0
    refine lv_lookup (tgt := 63) hx hb dX4_carryOut_1 (by decide) (by rw [c_1_0]; try rfl) (by decide) ?_
    refine lv_aload_n hx hb dX4_carryOut_63 rfl (lv_at hl 0 rfl) ?_
    refine lv_iconst (v := (3 : Int32)) hx hb dX4_carryOut_64 (by decide) ?_
    refine kc_Vv0 (As := [.int (3 : Int32)]) (rest := []) S hE (ctX4_enter l G cy a vn vf vs vp vq vd vo (3 : Int32) _ h) q_12_0 q_12_1 q_12_2 q_1_11 q_12_3 rfl 0 rfl rfl ydX4_enter ⟨⟨rfl, rfl⟩, ⟨Nat.le_of_ble_eq_true rfl, Nat.le_of_ble_eq_true rfl⟩⟩ ⟨Nat.zero_le _, Nat.zero_le _⟩ hP hD hS rfl hl.1 rfl (Nat.le_of_ble_eq_true rfl) dX4_carryOut_65 (fun u_65 H locs h hP hD hS => ?_)
    refine lv_aload_n hx hb dX4_carryOut_68 rfl (lv_at hl 0 rfl) ?_
    refine kc_Vi0 (As := []) (rest := []) S hE (ctX4_judge l G cy a u_65 vf vs vp vq vd vo  _ h) q_15_1 q_9_1 q_9_2 q_1_11 q_9_3 rfl 0 rfl rfl ydX4_judge ⟨⟨rfl, rfl⟩, ⟨Nat.le_of_ble_eq_true rfl, Nat.le_of_ble_eq_true rfl⟩⟩ ⟨Nat.zero_le _, Nat.zero_le _⟩ hP hD hS rfl hl.1 rfl (Nat.le_of_ble_eq_true rfl) dX4_carryOut_69 (fun r_69 u_69 H locs h hP hD hS => ?_)
    exact W.iret (v := r_69) hx hb hr (fun t ht hW => ⟨⟨r_69, (u_65, vf, vo), rfl, h, ⟨hp_at ht hP, hD⟩⟩, hS.F ht⟩) hS.2.2 dX4_carryOut_72
  · have h := h.2 c_1_0
    rcases Classical.em (p1 = (102 : Int32)) with c_1_1 | c_1_1
    · have h := h.1 c_1_1
      refine lv_lookup (tgt := 53) hx hb dX4_carryOut_1 (by decide) (by rw [c_1_1]; try rfl) (by decide) ?_
      refine lv_aload_n hx hb dX4_carryOut_53 rfl (lv_at hl 0 rfl) ?_
      refine lv_iconst (v := (0 : Int32)) hx hb dX4_carryOut_54 (by decide) ?_
      refine kc_Vv0 (As := [.int (0 : Int32)]) (rest := []) S hE (ctX4_enter l G cy a vn vf vs vp vq vd vo (0 : Int32) _ h) q_12_0 q_12_1 q_12_2 q_1_11 q_12_3 rfl 0 rfl rfl ydX4_enter ⟨⟨rfl, rfl⟩, ⟨Nat.le_of_ble_eq_true rfl, Nat.le_of_ble_eq_true rfl⟩⟩ ⟨Nat.zero_le _, Nat.zero_le _⟩ hP hD hS rfl hl.1 rfl (Nat.le_of_ble_eq_true rfl) dX4_carryOut_55 (fun u_55 H locs h hP hD hS => ?_)
      refine lv_aload_n hx hb dX4_carryOut_58 rfl (lv_at hl 0 rfl) ?_
      refine kc_Vi0 (As := []) (rest := []) S hE (ctX4_judge l G cy a u_55 vf vs vp vq vd vo  _ h) q_15_1 q_9_1 q_9_2 q_1_11 q_9_3 rfl 0 rfl rfl ydX4_judge ⟨⟨rfl, rfl⟩, ⟨Nat.le_of_ble_eq_true rfl, Nat.le_of_ble_eq_true rfl⟩⟩ ⟨Nat.zero_le _, Nat.zero_le _⟩ hP hD hS rfl hl.1 rfl (Nat.le_of_ble_eq_true rfl) dX4_carryOut_59 (fun r_59 u_59 H locs h hP hD hS => ?_)
      exact W.iret (v := r_59) hx hb hr (fun t ht hW => ⟨⟨r_59, (u_55, vf, vo), rfl, h, ⟨hp_at ht hP, hD⟩⟩, hS.F ht⟩) hS.2.2 dX4_carryOut_62
    · have h := h.2 c_1_1
      rcases Classical.em (p1 = (103 : Int32)) with c_1_2 | c_1_2
      · have h := h.1 c_1_2
        refine lv_lookup (tgt := 44) hx hb dX4_carryOut_1 (by decide) (by rw [c_1_2]; try rfl) (by decide) ?_
        refine lv_aload_n hx hb dX4_carryOut_44 rfl (lv_at hl 0 rfl) ?_
        refine kc_Vv0 (As := []) (rest := []) S hE (ctX4_startApproach l G cy a vn vf vs vp vq vd vo  _ h) q_14_21 q_14_22 q_14_23 q_1_11 q_15_0 rfl 0 rfl rfl ydX4_startApproach ⟨⟨rfl, rfl⟩, ⟨Nat.le_of_ble_eq_true rfl, Nat.le_of_ble_eq_true rfl⟩⟩ ⟨Nat.zero_le _, Nat.zero_le _⟩ hP hD hS rfl hl.1 rfl (Nat.le_of_ble_eq_true rfl) dX4_carryOut_45 (fun u_45 H locs h hP hD hS => ?_)
        refine lv_aload_n hx hb dX4_carryOut_48 rfl (lv_at hl 0 rfl) ?_
        refine kc_Vi0 (As := []) (rest := []) S hE (ctX4_judge l G cy a u_45 vf vs vp vq vd vo  _ h) q_15_1 q_9_1 q_9_2 q_1_11 q_9_3 rfl 0 rfl rfl ydX4_judge ⟨⟨rfl, rfl⟩, ⟨Nat.le_of_ble_eq_true rfl, Nat.le_of_ble_eq_true rfl⟩⟩ ⟨Nat.zero_le _, Nat.zero_le _⟩ hP hD hS rfl hl.1 rfl (Nat.le_of_ble_eq_true rfl) dX4_carryOut_49 (fun r_49 u_49 H locs h hP hD hS => ?_)
        exact W.iret (v := r_49) hx hb hr (fun t ht hW => ⟨⟨r_49, (u_45, vf, vo), rfl, h, ⟨hp_at ht hP, hD⟩⟩, hS.F ht⟩) hS.2.2 dX4_carryOut_52
      · have h := h.2 c_1_2
        rcases Classical.em (p1 = (111 : Int32)) with c_1_3 | c_1_3
        · have h := h.1 c_1_3
          refine lv_lookup (tgt := 73) hx hb dX4_carryOut_1 (by decide) (by rw [c_1_3]; try rfl) (by decide) ?_
          refine lv_aload_n hx hb dX4_carryOut_73 rfl (lv_at hl 0 rfl) ?_
          refine kg (v := .ref (a 5)) S hE hP 0 rfl rfl 12 (by decide) q_2_21 rfl rfl inlX4 dX4_carryOut_74 ?_
          refine lv_iload_n hx hb dX4_carryOut_77 rfl (lv_at hl 2 rfl) ?_
          refine kc_Vv0 (As := [.int p2]) (rest := []) S hE (ctX5_markOpen l G cy a vn vf vs vp vq vd vo p2 _ h) q_15_2 q_15_3 q_15_4 q_2_20 q_15_5 rfl 5 rfl rfl ydX5_markOpen ⟨⟨rfl, rfl⟩, ⟨Nat.le_of_ble_eq_true rfl, Nat.le_of_ble_eq_true rfl⟩⟩ ⟨Nat.zero_le _, Nat.zero_le _⟩ hP hD hS rfl hl.1 rfl (Nat.le_of_ble_eq_true rfl) dX4_carryOut_78 (fun u_78 H locs h hP hD hS => ?_)
          refine lv_aload_n hx hb dX4_carryOut_81 rfl (lv_at hl 0 rfl) ?_
          refine kg (v := .int (vn 5)) S hE hP 0 rfl rfl 5 (by decide) q_2_7 rfl rfl inlX4 dX4_carryOut_82 ?_
          refine lv_iload_n hx hb dX4_carryOut_85 rfl (lv_at hl 2 rfl) ?_
          refine lv_icmp_ne (tgt := 93) hx hb dX4_carryOut_86 (by decide) (fun c_86 => ?_) (fun c_86 => ?_)
          · have h := h.1 c_86
            exact J_93 _ _ _ _ _ _ _ h _ _ _ hP hD hS (lv_sub hl [0] rfl)
          · have h := h.2 c_86
            refine lv_aload_n hx hb dX4_carryOut_89 rfl (lv_at hl 0 rfl) ?_
            refine kc_Vv0 (As := []) (rest := []) S hE (ctX4_startApproach l G cy a vn vf vs vp vq vd u_78  _ h) q_14_21 q_14_22 q_14_23 q_1_11 q_15_0 rfl 0 rfl rfl ydX4_startApproach ⟨⟨rfl, rfl⟩, ⟨Nat.le_of_ble_eq_true rfl, Nat.le_of_ble_eq_true rfl⟩⟩ ⟨Nat.zero_le _, Nat.zero_le _⟩ hP hD hS rfl hl.1 rfl (Nat.le_of_ble_eq_true rfl) dX4_carryOut_90 (fun u_90 H locs h hP hD hS => ?_)
            exact J_93 _ _ _ _ _ _ _ h _ _ _ hP hD hS (lv_sub hl [0] rfl)
        · have h := h.2 c_1_3
          refine lv_lookup (tgt := 101) (off := 100) hx hb dX4_carryOut_1 (by decide) (by rw [show (Op.lookupswitch.offset _ _ _) = _ from lv_osw c_1_0 (by decide)]; rw [show (Op.lookupswitch.offset _ _ _) = _ from lv_osw c_1_1 (by decide)]; rw [show (Op.lookupswitch.offset _ _ _) = _ from lv_osw c_1_2 (by decide)]; rw [show (Op.lookupswitch.offset _ _ _) = _ from lv_osw c_1_3 (by decide)]; try rfl) (by decide) ?_
          refine lv_iconst (v := (0 : Int32)) hx hb dX4_carryOut_101 (by decide) ?_
          refine lv_istore_n (lv' := [(3, .int (0 : Int32)), (0, .ref (a 0)), (1, .int p1), (2, .int p2)]) hx hb dX4_carryOut_102 rfl hl (by decide) rfl (fun ls hl => ?_)
          obtain ⟨k0, h⟩ := h
          exact L_103 _ _ _ _ _ _ k0 _ _ _ h _ _ _ hP hD hS (lv_sub hl [1, 3, 0] rfl)
