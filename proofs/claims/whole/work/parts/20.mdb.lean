def vX7_isOff (mn : Nat → Int32) (p1 : UInt32) (p2 : UInt32) (K : Int32 → Unit → Prop) : Prop :=
  vX7_sizeOf p2 (fun r_1 u_1 => vX7_thousandth (mn 12) (fun r_12 u_12 => vf_n32 (FP.fmul p1 r_12) ∧ vX7_metres (mn 13) (fun r_23 u_23 => vf_n32 (FP.fadd (FP.fmul p1 r_12) r_23) ∧ ((fcl r_1 (FP.fadd (FP.fmul p1 r_12) r_23)) ≤ (0 : Int32) → K (0 : Int32) ()) ∧ (¬ (fcl r_1 (FP.fadd (FP.fmul p1 r_12) r_23)) ≤ (0 : Int32) → K (1 : Int32) ()))))
set_option maxRecDepth 100000 in
set_option maxHeartbeats 4000000 in
theorem ctX7_isOff (l : Launch) (G : va_G) (cy : Nat → ClassId) (a : Nat → Nat) (mn : Nat → Int32) (mf : Nat → UInt32) (mk : Nat → Int32) (mg : Nat → UInt32) (mv : Nat → Int32) (mt : Nat → Int32) (mm : Nat → Int32) (p1 : UInt32) (p2 : UInt32) (K : Int32 → Unit → Prop) (h : vX7_isOff mn p1 p2 K) : Met l yX7_isOff (ws_ yX7_isOff cX7_isOff 3 (some .boolean)) ({ frames := 1, cells := 0, slots := 0, locals := 20 } : Room) (CP G cy [.ref (a 0), .float p1, .float p2] (md_W cy a mn mf mk mg mv mt mm)) (RI G K (fun u => md_W cy a mn mf mk mg mv mt mm) (A1 (md_W cy a mn mf mk mg mv mt mm))) 0 0 (A1 (md_W cy a mn mf mk mg mv mt mm)) := by
  refine hd_go (Qf := fun A => (RI G K (fun u => md_W cy a mn mf mk mg mv mt mm) A)) (by decide +kernel) (Nat.le_of_ble_eq_true rfl) ?_
  intro p e s m below meth c ls A hx hb hr hlocks S hE hP hD hS hl
  have hl : lv_has ls 3 [(0, .ref (a 0)), (1, .float p1), (2, .float p2)] := hl
  unfold vX7_isOff at h
  refine lv_fload_n hx hb dX7_isOff_0 rfl (lv_at hl 2 rfl) ?_
  refine kc_SfE (As := [.float p2]) (rest := []) S hE (ctX7_sizeOf l G cy   p2 _ h) q_9_20 q_9_21 q_1_5 q_9_22 ydX7_sizeOf ⟨⟨rfl, rfl⟩, ⟨Nat.le_of_ble_eq_true rfl, Nat.le_of_ble_eq_true rfl⟩⟩ ⟨Nat.zero_le _, Nat.zero_le _⟩ hP hD hS (fun _ => rfl) rfl hl.1 rfl (Nat.le_of_ble_eq_true rfl) dX7_isOff_1 (fun r_1 u_1 H locs h hP hD hS => ?_)
  refine lv_fload_n hx hb dX7_isOff_4 rfl (lv_at hl 1 rfl) ?_
  refine lv_aload_n hx hb dX7_isOff_5 rfl (lv_at hl 0 rfl) ?_
  refine kg (v := .ref (a 1)) S hE hP 0 rfl rfl 0 (by decide) q_4_13 rfl rfl inlX7 dX7_isOff_6 ?_
  refine lv_bipush (v := (12 : Int32)) hx hb dX7_isOff_9 (by decide) ?_
  refine kail (v := (mn 12)) S hE hP 1 rfl (vi_12 (by decide)) tc_12 rfl dX7_isOff_11 ?_
  refine kc_SfE (As := [.int (mn 12)]) (rest := [.float p1, .float r_1]) S hE (ctX7_thousandth l G cy   (mn 12) _ h) q_9_8 q_9_9 q_1_5 q_9_10 ydX7_thousandth ⟨⟨rfl, rfl⟩, ⟨Nat.le_of_ble_eq_true rfl, Nat.le_of_ble_eq_true rfl⟩⟩ ⟨Nat.zero_le _, Nat.zero_le _⟩ hP hD hS (fun _ => rfl) rfl hl.1 rfl (Nat.le_of_ble_eq_true rfl) dX7_isOff_12 (fun r_12 u_12 H locs h hP hD hS => ?_)
  refine lv_fmul hx hb dX7_isOff_15 h.1 ?_
  have h := h.2
  refine lv_aload_n hx hb dX7_isOff_16 rfl (lv_at hl 0 rfl) ?_
  refine kg (v := .ref (a 1)) S hE hP 0 rfl rfl 0 (by decide) q_4_13 rfl rfl inlX7 dX7_isOff_17 ?_
  refine lv_bipush (v := (13 : Int32)) hx hb dX7_isOff_20 (by decide) ?_
  refine kail (v := (mn 13)) S hE hP 1 rfl (vi_13 (by decide)) tc_13 rfl dX7_isOff_22 ?_
  refine kc_SfE (As := [.int (mn 13)]) (rest := [.float (FP.fmul p1 r_12), .float r_1]) S hE (ctX7_metres l G cy   (mn 13) _ h) q_9_5 q_9_6 q_1_5 q_9_7 ydX7_metres ⟨⟨rfl, rfl⟩, ⟨Nat.le_of_ble_eq_true rfl, Nat.le_of_ble_eq_true rfl⟩⟩ ⟨Nat.zero_le _, Nat.zero_le _⟩ hP hD hS (fun _ => rfl) rfl hl.1 rfl (Nat.le_of_ble_eq_true rfl) dX7_isOff_23 (fun r_23 u_23 H locs h hP hD hS => ?_)
  refine lv_fadd hx hb dX7_isOff_26 h.1 ?_
  have h := h.2
  refine lv_fcmp hx hb dX7_isOff_27 ?_
  refine lv_if_le (tgt := 35) hx hb dX7_isOff_28 (by decide) (fun c_28 => ?_) (fun c_28 => ?_)
  · have h := h.1 c_28
    refine lv_iconst (v := (0 : Int32)) hx hb dX7_isOff_35 (by decide) ?_
    exact W.zret (v := (0 : Int32)) hx hb hr (by decide +kernel) (fun t ht hW => ⟨⟨(0 : Int32), (), rfl, h, ⟨hp_at ht hP, hD⟩⟩, hS.F ht⟩) hS.2.2 dX7_isOff_36
  · have h := h.2 c_28
    refine lv_iconst (v := (1 : Int32)) hx hb dX7_isOff_31 (by decide) ?_
    refine lv_goto (tgt := 36) hx hb dX7_isOff_32 (by decide) ?_
    exact W.zret (v := (1 : Int32)) hx hb hr (by decide +kernel) (fun t ht hW => ⟨⟨(1 : Int32), (), rfl, h, ⟨hp_at ht hP, hD⟩⟩, hS.F ht⟩) hS.2.2 dX7_isOff_36
def vX7_isTooFast (mn : Nat → Int32) (mf : Nat → UInt32) (p1 : UInt32) (K : Int32 → Unit → Prop) : Prop :=
  vf_n32 (FP.fsub FP.fconst0 p1) ∧ vX7_limitAt mn (mf 0) (fun r_10 u_10 => vf_n32 (FP.fadd r_10 (1008981770 : UInt32)) ∧ ((fcl (FP.fsub FP.fconst0 p1) (FP.fadd r_10 (1008981770 : UInt32))) ≤ (0 : Int32) → K (0 : Int32) ()) ∧ (¬ (fcl (FP.fsub FP.fconst0 p1) (FP.fadd r_10 (1008981770 : UInt32))) ≤ (0 : Int32) → K (1 : Int32) ()))
set_option maxRecDepth 100000 in
set_option maxHeartbeats 4000000 in
theorem ctX7_isTooFast (l : Launch) (G : va_G) (cy : Nat → ClassId) (a : Nat → Nat) (mn : Nat → Int32) (mf : Nat → UInt32) (mk : Nat → Int32) (mg : Nat → UInt32) (mv : Nat → Int32) (mt : Nat → Int32) (mm : Nat → Int32) (p1 : UInt32) (K : Int32 → Unit → Prop) (h : vX7_isTooFast mn mf p1 K) : Met l yX7_isTooFast (ws_ yX7_isTooFast cX7_isTooFast 2 (some .boolean)) ({ frames := 3, cells := 0, slots := 0, locals := 68 } : Room) (CP G cy [.ref (a 0), .float p1] (md_W cy a mn mf mk mg mv mt mm)) (RI G K (fun u => md_W cy a mn mf mk mg mv mt mm) (A1 (md_W cy a mn mf mk mg mv mt mm))) 0 0 (A1 (md_W cy a mn mf mk mg mv mt mm)) := by
  refine hd_go (Qf := fun A => (RI G K (fun u => md_W cy a mn mf mk mg mv mt mm) A)) (by decide +kernel) (Nat.le_of_ble_eq_true rfl) ?_
  intro p e s m below meth c ls A hx hb hr hlocks S hE hP hD hS hl
  have hl : lv_has ls 2 [(0, .ref (a 0)), (1, .float p1)] := hl
  unfold vX7_isTooFast at h
  refine lv_fconst0 hx hb dX7_isTooFast_0 ?_
  refine lv_fload_n hx hb dX7_isTooFast_1 rfl (lv_at hl 1 rfl) ?_
  refine lv_fsub hx hb dX7_isTooFast_2 h.1 ?_
  have h := h.2
  refine lv_aload_n hx hb dX7_isTooFast_3 rfl (lv_at hl 0 rfl) ?_
  refine lv_aload_n hx hb dX7_isTooFast_4 rfl (lv_at hl 0 rfl) ?_
  refine kg (v := .ref (a 2)) S hE hP 0 rfl rfl 1 (by decide) q_4_15 rfl rfl inlX7 dX7_isTooFast_5 ?_
  refine lv_iconst (v := (0 : Int32)) hx hb dX7_isTooFast_8 (by decide) ?_
  refine kafl (v := (mf 0)) S hE hP 2 rfl (vi_0 (by decide)) tc_0 rfl dX7_isTooFast_9 ?_
  refine kc_Vf0 (As := [.float (mf 0)]) (rest := [.float (FP.fsub FP.fconst0 p1)]) S hE (ctX7_limitAt l G cy a mn mf mk mg mv mt mm (mf 0) _ h) q_10_4 q_10_5 q_10_6 q_1_5 q_10_7 rfl 0 rfl rfl ydX7_limitAt ⟨⟨rfl, rfl⟩, ⟨Nat.le_of_ble_eq_true rfl, Nat.le_of_ble_eq_true rfl⟩⟩ ⟨Nat.zero_le _, Nat.zero_le _⟩ hP hD hS rfl hl.1 rfl (Nat.le_of_ble_eq_true rfl) dX7_isTooFast_10 (fun r_10 u_10 H locs h hP hD hS => ?_)
  refine lv_ldcf hx hb S.2.2.2.1 (S.2.2.2.2 _ q_10_3) dX7_isTooFast_13 ?_
  refine lv_fadd hx hb dX7_isTooFast_15 h.1 ?_
  have h := h.2
  refine lv_fcmp hx hb dX7_isTooFast_16 ?_
  refine lv_if_le (tgt := 24) hx hb dX7_isTooFast_17 (by decide) (fun c_17 => ?_) (fun c_17 => ?_)
  · have h := h.1 c_17
    refine lv_iconst (v := (0 : Int32)) hx hb dX7_isTooFast_24 (by decide) ?_
    exact W.zret (v := (0 : Int32)) hx hb hr (by decide +kernel) (fun t ht hW => ⟨⟨(0 : Int32), (), rfl, h, ⟨hp_at ht hP, hD⟩⟩, hS.F ht⟩) hS.2.2 dX7_isTooFast_25
  · have h := h.2 c_17
    refine lv_iconst (v := (1 : Int32)) hx hb dX7_isTooFast_20 (by decide) ?_
    refine lv_goto (tgt := 25) hx hb dX7_isTooFast_21 (by decide) ?_
    exact W.zret (v := (1 : Int32)) hx hb hr (by decide +kernel) (fun t ht hW => ⟨⟨(1 : Int32), (), rfl, h, ⟨hp_at ht hP, hD⟩⟩, hS.F ht⟩) hS.2.2 dX7_isTooFast_25
def vX7_isUnsafe_101 (mn : Nat → Int32) (mf : Nat → UInt32) (x1 : UInt32) (x2 : UInt32) (x3 : UInt32) (x4 : UInt32) (x6 : Int32) (y0 : Int32) (K : Int32 → Unit → Prop) (B32 : UInt32 → UInt32 → Int32 → Int32 → Prop) : Prop :=
  B32 x3 x4 y0 (x6 + (1 : Int32))
def vX7_isUnsafe_96 (mn : Nat → Int32) (mf : Nat → UInt32) (x1 : UInt32) (x2 : UInt32) (x3 : UInt32) (x4 : UInt32) (x6 : Int32) (K : Int32 → Unit → Prop) (B32 : UInt32 → UInt32 → Int32 → Int32 → Prop) : Prop :=
  vX7_isUnsafe_101 mn mf x1 x2 x3 x4 x6 (1 : Int32) K B32
def vX7_isUnsafe_100 (mn : Nat → Int32) (mf : Nat → UInt32) (x1 : UInt32) (x2 : UInt32) (x3 : UInt32) (x4 : UInt32) (x6 : Int32) (K : Int32 → Unit → Prop) (B32 : UInt32 → UInt32 → Int32 → Int32 → Prop) : Prop :=
  vX7_isUnsafe_101 mn mf x1 x2 x3 x4 x6 (0 : Int32) K B32
def vX7_isUnsafe_32b (mn : Nat → Int32) (mf : Nat → UInt32) (x1 : UInt32) (x2 : UInt32) (K : Int32 → Unit → Prop)  (B32 : UInt32 → UInt32 → Int32 → Int32 → Prop) (x3 : UInt32) (x4 : UInt32) (x5 : Int32) (x6 : Int32) : Prop :=
  ((mn 18) ≤ x6 → bz x5 ∧ K x5 ()) ∧ (¬ (mn 18) ≤ x6 → (¬ x5 = (0 : Int32) → bz x5 ∧ K x5 ()) ∧ (x5 = (0 : Int32) → vf_n32 (FP.fadd x3 x1) ∧ vf_n32 (FP.fadd x4 (mf 3)) ∧ vf_n32 (FP.fmul (FP.fadd x3 x1) (FP.fadd x3 x1)) ∧ vf_n32 (FP.fmul (FP.fadd x4 (mf 3)) (FP.fadd x4 (mf 3))) ∧ vf_n32 (FP.fadd (FP.fmul (FP.fadd x3 x1) (FP.fadd x3 x1)) (FP.fmul (FP.fadd x4 (mf 3)) (FP.fadd x4 (mf 3)))) ∧ vf_n32 (FP.fmul x2 x2) ∧ ((0 : Int32) ≤ (fcg (FP.fadd (FP.fmul (FP.fadd x3 x1) (FP.fadd x3 x1)) (FP.fmul (FP.fadd x4 (mf 3)) (FP.fadd x4 (mf 3)))) (FP.fmul x2 x2)) → vX7_isUnsafe_100 mn mf x1 x2 (FP.fadd x3 x1) (FP.fadd x4 (mf 3)) x6 K B32) ∧ (¬ (0 : Int32) ≤ (fcg (FP.fadd (FP.fmul (FP.fadd x3 x1) (FP.fadd x3 x1)) (FP.fmul (FP.fadd x4 (mf 3)) (FP.fadd x4 (mf 3)))) (FP.fmul x2 x2)) → vX7_isOff mn (FP.fadd x3 x1) (FP.fadd x4 (mf 3)) (fun r_84 u_84 => (¬ r_84 = (0 : Int32) → vX7_isUnsafe_96 mn mf x1 x2 (FP.fadd x3 x1) (FP.fadd x4 (mf 3)) x6 K B32) ∧ (r_84 = (0 : Int32) → ((0 : Int32) ≤ (fcg (FP.fadd x3 x1) FP.fconst0) → vX7_isUnsafe_100 mn mf x1 x2 (FP.fadd x3 x1) (FP.fadd x4 (mf 3)) x6 K B32) ∧ (¬ (0 : Int32) ≤ (fcg (FP.fadd x3 x1) FP.fconst0) → vX7_isUnsafe_96 mn mf x1 x2 (FP.fadd x3 x1) (FP.fadd x4 (mf 3)) x6 K B32))))))
def vX7_isUnsafe_32F (mn : Nat → Int32) (mf : Nat → UInt32) (x1 : UInt32) (x2 : UInt32) (K : Int32 → Unit → Prop)  : ((UInt32 × UInt32 × Int32 × Int32) → Prop) → (UInt32 × UInt32 × Int32 × Int32) → Prop := fun B z => vX7_isUnsafe_32b mn mf x1 x2 K  (fun z0 z1 z2 z3 => B (z0, z1, z2, z3)) z.1 z.2.1 z.2.2.1 z.2.2.2
def vX7_isUnsafe (mn : Nat → Int32) (mf : Nat → UInt32) (p1 : UInt32) (K : Int32 → Unit → Prop) : Prop :=
  vX7_metres (mn 14) (fun r_7 u_7 => ∃ k, lp (vX7_isUnsafe_32F mn mf p1 r_7 K ) k ((mf 0), (mf 1), (0 : Int32), (0 : Int32)))
set_option maxRecDepth 100000 in
set_option maxHeartbeats 4000000 in
theorem ctX7_isUnsafe (l : Launch) (G : va_G) (cy : Nat → ClassId) (a : Nat → Nat) (mn : Nat → Int32) (mf : Nat → UInt32) (mk : Nat → Int32) (mg : Nat → UInt32) (mv : Nat → Int32) (mt : Nat → Int32) (mm : Nat → Int32) (p1 : UInt32) (K : Int32 → Unit → Prop) (h : vX7_isUnsafe mn mf p1 K) : Met l yX7_isUnsafe (ws_ yX7_isUnsafe cX7_isUnsafe 7 (some .boolean)) ({ frames := 2, cells := 0, slots := 0, locals := 42 } : Room) (CP G cy [.ref (a 0), .float p1] (md_W cy a mn mf mk mg mv mt mm)) (RI G K (fun u => md_W cy a mn mf mk mg mv mt mm) (A1 (md_W cy a mn mf mk mg mv mt mm))) 0 0 (A1 (md_W cy a mn mf mk mg mv mt mm)) := by
  refine hd_go (Qf := fun A => (RI G K (fun u => md_W cy a mn mf mk mg mv mt mm) A)) (by decide +kernel) (Nat.le_of_ble_eq_true rfl) ?_
  intro p e s m below meth c ls A hx hb hr hlocks S hE hP hD hS hl
  have hl : lv_has ls 7 [(0, .ref (a 0)), (1, .float p1)] := hl
  unfold vX7_isUnsafe at h
  have L_32 : ∀ (mn : Nat → Int32) (mf : Nat → UInt32) (x1 : UInt32) (x2 : UInt32) (k_32 : Nat) (x3 : UInt32) (x4 : UInt32) (x5 : Int32) (x6 : Int32), lp (vX7_isUnsafe_32F mn mf x1 x2 K ) k_32 (x3, x4, x5, x6) → ∀ (H : Heap) (locs : List Loc) (ls : Array Slot), va_P G vwCl (md_W cy a mn mf mk mg mv mt mm) H → va_D A (md_W cy a mn mf mk mg mv mt mm) → va_S A s.heap H locs → lv_has ls 7 [(0, .ref (a 0)), (1, .float x1), (2, .float x2), (3, .float x3), (4, .float x4), (5, .int x5), (6, .int x6)] → W p l e (headSpec (ws_ yX7_isUnsafe cX7_isUnsafe 7 (some .boolean)) ({ frames := 2, cells := 0, slots := 0, locals := 42 } : Room)).room s m ([.ref (a 0), .float p1] : List Value).toArray below meth c H locs 0 0 (MQ below (RI G K (fun u => md_W cy a mn mf mk mg mv mt mm) A) ([.ref (a 0), .float p1] : List Value).toArray s 0 0 A) (F0 m 32 ls []) := by
    intro mn mf x1 x2 k_32
    induction k_32 with
    | zero => intro x3 x4 x5 x6 h; exact h.elim
    | succ k_32 ih_32 =>
      have J_101 : ∀ (x3 : UInt32) (x4 : UInt32) (x6 : Int32) (y0 : Int32), vX7_isUnsafe_101 mn mf x1 x2 x3 x4 x6 y0 K (fun z0 z1 z2 z3 => lp (vX7_isUnsafe_32F mn mf x1 x2 K ) k_32 (z0, z1, z2, z3)) → ∀ (H : Heap) (locs : List Loc) (ls : Array Slot), va_P G vwCl (md_W cy a mn mf mk mg mv mt mm) H → va_D A (md_W cy a mn mf mk mg mv mt mm) → va_S A s.heap H locs → lv_has ls 7 [(0, .ref (a 0)), (1, .float x1), (2, .float x2), (3, .float x3), (4, .float x4), (6, .int x6)] → W p l e (headSpec (ws_ yX7_isUnsafe cX7_isUnsafe 7 (some .boolean)) ({ frames := 2, cells := 0, slots := 0, locals := 42 } : Room)).room s m ([.ref (a 0), .float p1] : List Value).toArray below meth c H locs 0 0 (MQ below (RI G K (fun u => md_W cy a mn mf mk mg mv mt mm) A) ([.ref (a 0), .float p1] : List Value).toArray s 0 0 A) (F0 m 101 ls [.int y0]) := by
        intro x3 x4 x6 y0 h H locs ls hP hD hS hl
        unfold vX7_isUnsafe_101 at h
        refine lv_istore (lv' := [(5, .int y0), (0, .ref (a 0)), (1, .float x1), (2, .float x2), (3, .float x3), (4, .float x4), (6, .int x6)]) hx hb dX7_isUnsafe_101 hl (by decide) rfl (fun ls hl => ?_)
        refine lv_iinc (v := (x6 + (1 : Int32))) (lv' := [(6, .int (x6 + (1 : Int32))), (5, .int y0), (0, .ref (a 0)), (1, .float x1), (2, .float x2), (3, .float x3), (4, .float x4)]) hx hb dX7_isUnsafe_103 hl (k := 6) rfl (by rfl) (by decide) rfl (fun ls hl => ?_)
        refine lv_goto (tgt := 32) hx hb dX7_isUnsafe_106 (by decide) ?_
        exact ih_32 _ _ _ _ h _ _ _ hP hD hS (lv_sub hl [2, 3, 4, 5, 6, 1, 0] rfl)
      have J_96 : ∀ (x3 : UInt32) (x4 : UInt32) (x6 : Int32), vX7_isUnsafe_96 mn mf x1 x2 x3 x4 x6 K (fun z0 z1 z2 z3 => lp (vX7_isUnsafe_32F mn mf x1 x2 K ) k_32 (z0, z1, z2, z3)) → ∀ (H : Heap) (locs : List Loc) (ls : Array Slot), va_P G vwCl (md_W cy a mn mf mk mg mv mt mm) H → va_D A (md_W cy a mn mf mk mg mv mt mm) → va_S A s.heap H locs → lv_has ls 7 [(0, .ref (a 0)), (1, .float x1), (2, .float x2), (3, .float x3), (4, .float x4), (6, .int x6)] → W p l e (headSpec (ws_ yX7_isUnsafe cX7_isUnsafe 7 (some .boolean)) ({ frames := 2, cells := 0, slots := 0, locals := 42 } : Room)).room s m ([.ref (a 0), .float p1] : List Value).toArray below meth c H locs 0 0 (MQ below (RI G K (fun u => md_W cy a mn mf mk mg mv mt mm) A) ([.ref (a 0), .float p1] : List Value).toArray s 0 0 A) (F0 m 96 ls []) := by
        intro x3 x4 x6 h H locs ls hP hD hS hl
        unfold vX7_isUnsafe_96 at h
        refine lv_iconst (v := (1 : Int32)) hx hb dX7_isUnsafe_96 (by decide) ?_
        refine lv_goto (tgt := 101) hx hb dX7_isUnsafe_97 (by decide) ?_
        exact J_101 _ _ _ _ h _ _ _ hP hD hS (lv_sub hl [0, 1, 2, 3, 4, 5] rfl)
      have J_100 : ∀ (x3 : UInt32) (x4 : UInt32) (x6 : Int32), vX7_isUnsafe_100 mn mf x1 x2 x3 x4 x6 K (fun z0 z1 z2 z3 => lp (vX7_isUnsafe_32F mn mf x1 x2 K ) k_32 (z0, z1, z2, z3)) → ∀ (H : Heap) (locs : List Loc) (ls : Array Slot), va_P G vwCl (md_W cy a mn mf mk mg mv mt mm) H → va_D A (md_W cy a mn mf mk mg mv mt mm) → va_S A s.heap H locs → lv_has ls 7 [(0, .ref (a 0)), (1, .float x1), (2, .float x2), (3, .float x3), (4, .float x4), (6, .int x6)] → W p l e (headSpec (ws_ yX7_isUnsafe cX7_isUnsafe 7 (some .boolean)) ({ frames := 2, cells := 0, slots := 0, locals := 42 } : Room)).room s m ([.ref (a 0), .float p1] : List Value).toArray below meth c H locs 0 0 (MQ below (RI G K (fun u => md_W cy a mn mf mk mg mv mt mm) A) ([.ref (a 0), .float p1] : List Value).toArray s 0 0 A) (F0 m 100 ls []) := by
        intro x3 x4 x6 h H locs ls hP hD hS hl
        unfold vX7_isUnsafe_100 at h
        refine lv_iconst (v := (0 : Int32)) hx hb dX7_isUnsafe_100 (by decide) ?_
        exact J_101 _ _ _ _ h _ _ _ hP hD hS (lv_sub hl [0, 1, 2, 3, 4, 5] rfl)
      intro x3 x4 x5 x6 h H locs ls hP hD hS hl
      have h : vX7_isUnsafe_32b mn mf x1 x2 K  (fun z0 z1 z2 z3 => lp (vX7_isUnsafe_32F mn mf x1 x2 K ) k_32 (z0, z1, z2, z3)) x3 x4 x5 x6 := h
      unfold vX7_isUnsafe_32b at h
      refine lv_iload hx hb dX7_isUnsafe_32 (lv_at hl 6 rfl) ?_
      refine lv_aload_n hx hb dX7_isUnsafe_34 rfl (lv_at hl 0 rfl) ?_
      refine kg (v := .ref (a 1)) S hE hP 0 rfl rfl 0 (by decide) q_4_13 rfl rfl inlX7 dX7_isUnsafe_35 ?_
      refine lv_bipush (v := (18 : Int32)) hx hb dX7_isUnsafe_38 (by decide) ?_
      refine kail (v := (mn 18)) S hE hP 1 rfl (vi_18 (by decide)) tc_18 rfl dX7_isUnsafe_40 ?_
      refine lv_icmp_ge (tgt := 109) hx hb dX7_isUnsafe_41 (by decide) (fun c_41 => ?_) (fun c_41 => ?_)
      · have h := h.1 c_41
        refine lv_iload hx hb dX7_isUnsafe_109 (lv_at hl 5 rfl) ?_
        have hob := h.1
        have h := h.2
        exact W.zret (v := x5) hx hb hr (bz_nar hob) (fun t ht hW => ⟨⟨x5, (), rfl, h, ⟨hp_at ht hP, hD⟩⟩, hS.F ht⟩) hS.2.2 dX7_isUnsafe_111
      · have h := h.2 c_41
        refine lv_iload hx hb dX7_isUnsafe_44 (lv_at hl 5 rfl) ?_
        refine lv_if_ne (tgt := 109) hx hb dX7_isUnsafe_46 (by decide) (fun c_46 => ?_) (fun c_46 => ?_)
        · have h := h.1 c_46
          refine lv_iload hx hb dX7_isUnsafe_109 (lv_at hl 5 rfl) ?_
          have hob := h.1
          have h := h.2
          exact W.zret (v := x5) hx hb hr (bz_nar hob) (fun t ht hW => ⟨⟨x5, (), rfl, h, ⟨hp_at ht hP, hD⟩⟩, hS.F ht⟩) hS.2.2 dX7_isUnsafe_111
        · have h := h.2 c_46
          refine lv_fload_n hx hb dX7_isUnsafe_49 rfl (lv_at hl 3 rfl) ?_
          refine lv_fload_n hx hb dX7_isUnsafe_50 rfl (lv_at hl 1 rfl) ?_
          refine lv_fadd hx hb dX7_isUnsafe_51 h.1 ?_
          have h := h.2
          refine lv_fstore_n (lv' := [(3, .float (FP.fadd x3 x1)), (0, .ref (a 0)), (1, .float x1), (2, .float x2), (4, .float x4), (5, .int x5), (6, .int x6)]) hx hb dX7_isUnsafe_52 rfl hl (by decide) rfl (fun ls hl => ?_)
          refine lv_fload hx hb dX7_isUnsafe_53 (lv_at hl 4 rfl) ?_
          refine lv_aload_n hx hb dX7_isUnsafe_55 rfl (lv_at hl 1 rfl) ?_
          refine kg (v := .ref (a 2)) S hE hP 0 rfl rfl 1 (by decide) q_4_15 rfl rfl inlX7 dX7_isUnsafe_56 ?_
          refine lv_iconst (v := (3 : Int32)) hx hb dX7_isUnsafe_59 (by decide) ?_
          refine kafl (v := (mf 3)) S hE hP 2 rfl (vi_3 (by decide)) tc_3 rfl dX7_isUnsafe_60 ?_
          refine lv_fadd hx hb dX7_isUnsafe_61 h.1 ?_
          have h := h.2
          refine lv_fstore (lv' := [(4, .float (FP.fadd x4 (mf 3))), (3, .float (FP.fadd x3 x1)), (0, .ref (a 0)), (1, .float x1), (2, .float x2), (5, .int x5), (6, .int x6)]) hx hb dX7_isUnsafe_62 hl (by decide) rfl (fun ls hl => ?_)
          refine lv_fload_n hx hb dX7_isUnsafe_64 rfl (lv_at hl 1 rfl) ?_
          refine lv_fload_n hx hb dX7_isUnsafe_65 rfl (lv_at hl 1 rfl) ?_
          refine lv_fmul hx hb dX7_isUnsafe_66 h.1 ?_
          have h := h.2
          refine lv_fload hx hb dX7_isUnsafe_67 (lv_at hl 0 rfl) ?_
          refine lv_fload hx hb dX7_isUnsafe_69 (lv_at hl 0 rfl) ?_
          refine lv_fmul hx hb dX7_isUnsafe_71 h.1 ?_
          have h := h.2
          refine lv_fadd hx hb dX7_isUnsafe_72 h.1 ?_
          have h := h.2
          refine lv_fload_n hx hb dX7_isUnsafe_73 rfl (lv_at hl 4 rfl) ?_
          refine lv_fload_n hx hb dX7_isUnsafe_74 rfl (lv_at hl 4 rfl) ?_
          refine lv_fmul hx hb dX7_isUnsafe_75 h.1 ?_
          have h := h.2
          refine lv_fcmp hx hb dX7_isUnsafe_76 ?_
          refine lv_if_ge (tgt := 100) hx hb dX7_isUnsafe_77 (by decide) (fun c_77 => ?_) (fun c_77 => ?_)
          · have h := h.1 c_77
            exact J_100 _ _ _ h _ _ _ hP hD hS (lv_sub hl [2, 3, 4, 1, 0, 6] rfl)
          · have h := h.2 c_77
            refine lv_aload_n hx hb dX7_isUnsafe_80 rfl (lv_at hl 2 rfl) ?_
            refine lv_fload_n hx hb dX7_isUnsafe_81 rfl (lv_at hl 1 rfl) ?_
            refine lv_fload hx hb dX7_isUnsafe_82 (lv_at hl 0 rfl) ?_
            refine kc_Vi0 (As := [.float (FP.fadd x3 x1), .float (FP.fadd x4 (mf 3))]) (rest := []) S hE (ctX7_isOff l G cy a mn mf mk mg mv mt mm (FP.fadd x3 x1) (FP.fadd x4 (mf 3)) _ h) q_9_16 q_9_17 q_9_18 q_1_5 q_9_19 rfl 0 rfl rfl ydX7_isOff ⟨⟨rfl, rfl⟩, ⟨Nat.le_of_ble_eq_true rfl, Nat.le_of_ble_eq_true rfl⟩⟩ ⟨Nat.zero_le _, Nat.zero_le _⟩ hP hD hS rfl hl.1 rfl (Nat.le_of_ble_eq_true rfl) dX7_isUnsafe_84 (fun r_84 u_84 H locs h hP hD hS => ?_)
            refine lv_if_ne (tgt := 96) hx hb dX7_isUnsafe_87 (by decide) (fun c_87 => ?_) (fun c_87 => ?_)
            · have h := h.1 c_87
              exact J_96 _ _ _ h _ _ _ hP hD hS (lv_sub hl [2, 3, 4, 1, 0, 6] rfl)
            · have h := h.2 c_87
              refine lv_fload_n hx hb dX7_isUnsafe_90 rfl (lv_at hl 1 rfl) ?_
              refine lv_fconst0 hx hb dX7_isUnsafe_91 ?_
              refine lv_fcmp hx hb dX7_isUnsafe_92 ?_
              refine lv_if_ge (tgt := 100) hx hb dX7_isUnsafe_93 (by decide) (fun c_93 => ?_) (fun c_93 => ?_)
              · have h := h.1 c_93
                exact J_100 _ _ _ h _ _ _ hP hD hS (lv_sub hl [2, 3, 4, 1, 0, 6] rfl)
              · have h := h.2 c_93
                exact J_96 _ _ _ h _ _ _ hP hD hS (lv_sub hl [2, 3, 4, 1, 0, 6] rfl)
  refine lv_aload_n hx hb dX7_isUnsafe_0 rfl (lv_at hl 0 rfl) ?_
  refine kg (v := .ref (a 1)) S hE hP 0 rfl rfl 0 (by decide) q_4_13 rfl rfl inlX7 dX7_isUnsafe_1 ?_
  refine lv_bipush (v := (14 : Int32)) hx hb dX7_isUnsafe_4 (by decide) ?_
  refine kail (v := (mn 14)) S hE hP 1 rfl (vi_14 (by decide)) tc_14 rfl dX7_isUnsafe_6 ?_
  refine kc_SfE (As := [.int (mn 14)]) (rest := []) S hE (ctX7_metres l G cy   (mn 14) _ h) q_9_5 q_9_6 q_1_5 q_9_7 ydX7_metres ⟨⟨rfl, rfl⟩, ⟨Nat.le_of_ble_eq_true rfl, Nat.le_of_ble_eq_true rfl⟩⟩ ⟨Nat.zero_le _, Nat.zero_le _⟩ hP hD hS (fun _ => rfl) rfl hl.1 rfl (Nat.le_of_ble_eq_true rfl) dX7_isUnsafe_7 (fun r_7 u_7 H locs h hP hD hS => ?_)
  refine lv_fstore_n (lv' := [(2, .float r_7), (0, .ref (a 0)), (1, .float p1)]) hx hb dX7_isUnsafe_10 rfl hl (by decide) rfl (fun ls hl => ?_)
  refine lv_aload_n hx hb dX7_isUnsafe_11 rfl (lv_at hl 1 rfl) ?_
  refine kg (v := .ref (a 2)) S hE hP 0 rfl rfl 1 (by decide) q_4_15 rfl rfl inlX7 dX7_isUnsafe_12 ?_
  refine lv_iconst (v := (0 : Int32)) hx hb dX7_isUnsafe_15 (by decide) ?_
  refine kafl (v := (mf 0)) S hE hP 2 rfl (vi_0 (by decide)) tc_0 rfl dX7_isUnsafe_16 ?_
  refine lv_fstore_n (lv' := [(3, .float (mf 0)), (2, .float r_7), (0, .ref (a 0)), (1, .float p1)]) hx hb dX7_isUnsafe_17 rfl hl (by decide) rfl (fun ls hl => ?_)
  refine lv_aload_n hx hb dX7_isUnsafe_18 rfl (lv_at hl 2 rfl) ?_
  refine kg (v := .ref (a 2)) S hE hP 0 rfl rfl 1 (by decide) q_4_15 rfl rfl inlX7 dX7_isUnsafe_19 ?_
  refine lv_iconst (v := (1 : Int32)) hx hb dX7_isUnsafe_22 (by decide) ?_
  refine kafl (v := (mf 1)) S hE hP 2 rfl (vi_1 (by decide)) tc_1 rfl dX7_isUnsafe_23 ?_
  refine lv_fstore (lv' := [(4, .float (mf 1)), (3, .float (mf 0)), (2, .float r_7), (0, .ref (a 0)), (1, .float p1)]) hx hb dX7_isUnsafe_24 hl (by decide) rfl (fun ls hl => ?_)
  refine lv_iconst (v := (0 : Int32)) hx hb dX7_isUnsafe_26 (by decide) ?_
  refine lv_istore (lv' := [(5, .int (0 : Int32)), (4, .float (mf 1)), (3, .float (mf 0)), (2, .float r_7), (0, .ref (a 0)), (1, .float p1)]) hx hb dX7_isUnsafe_27 hl (by decide) rfl (fun ls hl => ?_)
  refine lv_iconst (v := (0 : Int32)) hx hb dX7_isUnsafe_29 (by decide) ?_
  refine lv_istore (lv' := [(6, .int (0 : Int32)), (5, .int (0 : Int32)), (4, .float (mf 1)), (3, .float (mf 0)), (2, .float r_7), (0, .ref (a 0)), (1, .float p1)]) hx hb dX7_isUnsafe_30 hl (by decide) rfl (fun ls hl => ?_)
  obtain ⟨k0, h⟩ := h
  exact L_32 _ _ _ _ k0 _ _ _ _ h _ _ _ hP hD hS (lv_sub hl [5, 6, 4, 3, 2, 1, 0] rfl)
def vX7_judged_61 (mn : Nat → Int32) (mf : Nat → UInt32) (y0 : Int32) (y1 : Int32) (K : Int32 → Unit → Prop)  : Prop :=
  K (y0 + y1) ()
def vX7_judged_42 (mn : Nat → Int32) (mf : Nat → UInt32) (y0 : Int32) (y1 : Int32) (K : Int32 → Unit → Prop)  : Prop :=
  vX7_isUnsafe mn mf (mf 2) (fun r_50 u_50 => (r_50 = (0 : Int32) → vX7_judged_61 mn mf (y0 + y1) (0 : Int32) K ) ∧ (¬ r_50 = (0 : Int32) → vX7_judged_61 mn mf (y0 + y1) (4 : Int32) K ))
def vX7_judged_24 (mn : Nat → Int32) (mf : Nat → UInt32) (y0 : Int32) (K : Int32 → Unit → Prop)  : Prop :=
  vX7_isTooFast mn mf (mf 2) (fun r_31 u_31 => (r_31 = (0 : Int32) → vX7_judged_42 mn mf y0 (0 : Int32) K ) ∧ (¬ r_31 = (0 : Int32) → vX7_judged_42 mn mf y0 (2 : Int32) K ))
def vX7_judged (mn : Nat → Int32) (mf : Nat → UInt32) (K : Int32 → Unit → Prop) : Prop :=
  vX7_isOff mn (mf 0) (mf 1) (fun r_13 u_13 => (r_13 = (0 : Int32) → vX7_judged_24 mn mf (0 : Int32) K ) ∧ (¬ r_13 = (0 : Int32) → vX7_judged_24 mn mf (1 : Int32) K ))
set_option maxRecDepth 100000 in
set_option maxHeartbeats 4000000 in
theorem ctX7_judged (l : Launch) (G : va_G) (cy : Nat → ClassId) (a : Nat → Nat) (mn : Nat → Int32) (mf : Nat → UInt32) (mk : Nat → Int32) (mg : Nat → UInt32) (mv : Nat → Int32) (mt : Nat → Int32) (mm : Nat → Int32)  (K : Int32 → Unit → Prop) (h : vX7_judged mn mf K) : Met l yX7_judged (ws_ yX7_judged cX7_judged 1 (some .int)) ({ frames := 4, cells := 0, slots := 0, locals := 89 } : Room) (CP G cy [.ref (a 0)] (md_W cy a mn mf mk mg mv mt mm)) (RI G K (fun u => md_W cy a mn mf mk mg mv mt mm) (A1 (md_W cy a mn mf mk mg mv mt mm))) 0 0 (A1 (md_W cy a mn mf mk mg mv mt mm)) := by
  refine hd_go (Qf := fun A => (RI G K (fun u => md_W cy a mn mf mk mg mv mt mm) A)) (by decide +kernel) (Nat.le_of_ble_eq_true rfl) ?_
  intro p e s m below meth c ls A hx hb hr hlocks S hE hP hD hS hl
  have hl : lv_has ls 1 [(0, .ref (a 0))] := hl
  unfold vX7_judged at h
  have J_61 : ∀ (mn : Nat → Int32) (mf : Nat → UInt32) (y0 : Int32) (y1 : Int32), vX7_judged_61 mn mf y0 y1 K  → ∀ (H : Heap) (locs : List Loc) (ls : Array Slot), va_P G vwCl (md_W cy a mn mf mk mg mv mt mm) H → va_D A (md_W cy a mn mf mk mg mv mt mm) → va_S A s.heap H locs → lv_has ls 1 [] → W p l e (headSpec (ws_ yX7_judged cX7_judged 1 (some .int)) ({ frames := 4, cells := 0, slots := 0, locals := 89 } : Room)).room s m ([.ref (a 0)] : List Value).toArray below meth c H locs 0 0 (MQ below (RI G K (fun u => md_W cy a mn mf mk mg mv mt mm) A) ([.ref (a 0)] : List Value).toArray s 0 0 A) (F0 m 61 ls [.int y1, .int y0]) := by
    intro mn mf y0 y1 h H locs ls hP hD hS hl
    unfold vX7_judged_61 at h
    refine lv_iadd hx hb dX7_judged_61 ?_
    exact W.iret (v := (y0 + y1)) hx hb hr (fun t ht hW => ⟨⟨(y0 + y1), (), rfl, h, ⟨hp_at ht hP, hD⟩⟩, hS.F ht⟩) hS.2.2 dX7_judged_62
  have J_42 : ∀ (mn : Nat → Int32) (mf : Nat → UInt32) (y0 : Int32) (y1 : Int32), vX7_judged_42 mn mf y0 y1 K  → ∀ (H : Heap) (locs : List Loc) (ls : Array Slot), va_P G vwCl (md_W cy a mn mf mk mg mv mt mm) H → va_D A (md_W cy a mn mf mk mg mv mt mm) → va_S A s.heap H locs → lv_has ls 1 [(0, .ref (a 0))] → W p l e (headSpec (ws_ yX7_judged cX7_judged 1 (some .int)) ({ frames := 4, cells := 0, slots := 0, locals := 89 } : Room)).room s m ([.ref (a 0)] : List Value).toArray below meth c H locs 0 0 (MQ below (RI G K (fun u => md_W cy a mn mf mk mg mv mt mm) A) ([.ref (a 0)] : List Value).toArray s 0 0 A) (F0 m 42 ls [.int y1, .int y0]) := by
    intro mn mf y0 y1 h H locs ls hP hD hS hl
    unfold vX7_judged_42 at h
    refine lv_iadd hx hb dX7_judged_42 ?_
    refine lv_aload_n hx hb dX7_judged_43 rfl (lv_at hl 0 rfl) ?_
    refine lv_aload_n hx hb dX7_judged_44 rfl (lv_at hl 0 rfl) ?_
    refine kg (v := .ref (a 2)) S hE hP 0 rfl rfl 1 (by decide) q_4_15 rfl rfl inlX7 dX7_judged_45 ?_
    refine lv_iconst (v := (2 : Int32)) hx hb dX7_judged_48 (by decide) ?_
    refine kafl (v := (mf 2)) S hE hP 2 rfl (vi_2 (by decide)) tc_2 rfl dX7_judged_49 ?_
    refine kc_Vi0 (As := [.float (mf 2)]) (rest := [.int (y0 + y1)]) S hE (ctX7_isUnsafe l G cy a mn mf mk mg mv mt mm (mf 2) _ h) q_10_17 q_10_18 q_10_19 q_1_5 q_10_20 rfl 0 rfl rfl ydX7_isUnsafe ⟨⟨rfl, rfl⟩, ⟨Nat.le_of_ble_eq_true rfl, Nat.le_of_ble_eq_true rfl⟩⟩ ⟨Nat.zero_le _, Nat.zero_le _⟩ hP hD hS rfl hl.1 rfl (Nat.le_of_ble_eq_true rfl) dX7_judged_50 (fun r_50 u_50 H locs h hP hD hS => ?_)
    refine lv_if_eq (tgt := 60) hx hb dX7_judged_53 (by decide) (fun c_53 => ?_) (fun c_53 => ?_)
    · have h := h.1 c_53
      refine lv_iconst (v := (0 : Int32)) hx hb dX7_judged_60 (by decide) ?_
      exact J_61 _ _ _ _ h _ _ _ hP hD hS (lv_sub hl [] rfl)
    · have h := h.2 c_53
      refine lv_iconst (v := (4 : Int32)) hx hb dX7_judged_56 (by decide) ?_
      refine lv_goto (tgt := 61) hx hb dX7_judged_57 (by decide) ?_
      exact J_61 _ _ _ _ h _ _ _ hP hD hS (lv_sub hl [] rfl)
  have J_24 : ∀ (mn : Nat → Int32) (mf : Nat → UInt32) (y0 : Int32), vX7_judged_24 mn mf y0 K  → ∀ (H : Heap) (locs : List Loc) (ls : Array Slot), va_P G vwCl (md_W cy a mn mf mk mg mv mt mm) H → va_D A (md_W cy a mn mf mk mg mv mt mm) → va_S A s.heap H locs → lv_has ls 1 [(0, .ref (a 0))] → W p l e (headSpec (ws_ yX7_judged cX7_judged 1 (some .int)) ({ frames := 4, cells := 0, slots := 0, locals := 89 } : Room)).room s m ([.ref (a 0)] : List Value).toArray below meth c H locs 0 0 (MQ below (RI G K (fun u => md_W cy a mn mf mk mg mv mt mm) A) ([.ref (a 0)] : List Value).toArray s 0 0 A) (F0 m 24 ls [.int y0]) := by
    intro mn mf y0 h H locs ls hP hD hS hl
    unfold vX7_judged_24 at h
    refine lv_aload_n hx hb dX7_judged_24 rfl (lv_at hl 0 rfl) ?_
    refine lv_aload_n hx hb dX7_judged_25 rfl (lv_at hl 0 rfl) ?_
    refine kg (v := .ref (a 2)) S hE hP 0 rfl rfl 1 (by decide) q_4_15 rfl rfl inlX7 dX7_judged_26 ?_
    refine lv_iconst (v := (2 : Int32)) hx hb dX7_judged_29 (by decide) ?_
    refine kafl (v := (mf 2)) S hE hP 2 rfl (vi_2 (by decide)) tc_2 rfl dX7_judged_30 ?_
    refine kc_Vi0 (As := [.float (mf 2)]) (rest := [.int y0]) S hE (ctX7_isTooFast l G cy a mn mf mk mg mv mt mm (mf 2) _ h) q_9_23 q_10_0 q_10_1 q_1_5 q_10_2 rfl 0 rfl rfl ydX7_isTooFast ⟨⟨rfl, rfl⟩, ⟨Nat.le_of_ble_eq_true rfl, Nat.le_of_ble_eq_true rfl⟩⟩ ⟨Nat.zero_le _, Nat.zero_le _⟩ hP hD hS rfl hl.1 rfl (Nat.le_of_ble_eq_true rfl) dX7_judged_31 (fun r_31 u_31 H locs h hP hD hS => ?_)
    refine lv_if_eq (tgt := 41) hx hb dX7_judged_34 (by decide) (fun c_34 => ?_) (fun c_34 => ?_)
    · have h := h.1 c_34
      refine lv_iconst (v := (0 : Int32)) hx hb dX7_judged_41 (by decide) ?_
      exact J_42 _ _ _ _ h _ _ _ hP hD hS (lv_sub hl [0] rfl)
    · have h := h.2 c_34
      refine lv_iconst (v := (2 : Int32)) hx hb dX7_judged_37 (by decide) ?_
      refine lv_goto (tgt := 42) hx hb dX7_judged_38 (by decide) ?_
      exact J_42 _ _ _ _ h _ _ _ hP hD hS (lv_sub hl [0] rfl)
  refine lv_aload_n hx hb dX7_judged_0 rfl (lv_at hl 0 rfl) ?_
  refine lv_aload_n hx hb dX7_judged_1 rfl (lv_at hl 0 rfl) ?_
  refine kg (v := .ref (a 2)) S hE hP 0 rfl rfl 1 (by decide) q_4_15 rfl rfl inlX7 dX7_judged_2 ?_
  refine lv_iconst (v := (0 : Int32)) hx hb dX7_judged_5 (by decide) ?_
  refine kafl (v := (mf 0)) S hE hP 2 rfl (vi_0 (by decide)) tc_0 rfl dX7_judged_6 ?_
  refine lv_aload_n hx hb dX7_judged_7 rfl (lv_at hl 0 rfl) ?_
  refine kg (v := .ref (a 2)) S hE hP 0 rfl rfl 1 (by decide) q_4_15 rfl rfl inlX7 dX7_judged_8 ?_
  refine lv_iconst (v := (1 : Int32)) hx hb dX7_judged_11 (by decide) ?_
  refine kafl (v := (mf 1)) S hE hP 2 rfl (vi_1 (by decide)) tc_1 rfl dX7_judged_12 ?_
  refine kc_Vi0 (As := [.float (mf 0), .float (mf 1)]) (rest := []) S hE (ctX7_isOff l G cy a mn mf mk mg mv mt mm (mf 0) (mf 1) _ h) q_9_16 q_9_17 q_9_18 q_1_5 q_9_19 rfl 0 rfl rfl ydX7_isOff ⟨⟨rfl, rfl⟩, ⟨Nat.le_of_ble_eq_true rfl, Nat.le_of_ble_eq_true rfl⟩⟩ ⟨Nat.zero_le _, Nat.zero_le _⟩ hP hD hS rfl hl.1 rfl (Nat.le_of_ble_eq_true rfl) dX7_judged_13 (fun r_13 u_13 H locs h hP hD hS => ?_)
  refine lv_if_eq (tgt := 23) hx hb dX7_judged_16 (by decide) (fun c_16 => ?_) (fun c_16 => ?_)
  · have h := h.1 c_16
    refine lv_iconst (v := (0 : Int32)) hx hb dX7_judged_23 (by decide) ?_
    exact J_24 _ _ _ h _ _ _ hP hD hS (lv_sub hl [0] rfl)
  · have h := h.2 c_16
    refine lv_iconst (v := (1 : Int32)) hx hb dX7_judged_19 (by decide) ?_
    refine lv_goto (tgt := 24) hx hb dX7_judged_20 (by decide) ?_
    exact J_24 _ _ _ h _ _ _ hP hD hS (lv_sub hl [0] rfl)
def vX7_place_26 (mn : Nat → Int32) (mf : Nat → UInt32) (mk : Nat → Int32) (mg : Nat → UInt32) (mm : Nat → Int32) (x1 : Int32) (x2 : Int32) (x3 : Int32) (x4 : Int32) (y0 : Int32) (K : Int32 → ((Nat → Int32) × (Nat → UInt32) × (Nat → Int32) × (Nat → UInt32) × (Nat → Int32)) → Prop)  : Prop :=
  (y0 = (0 : Int32) → K (-2 : Int32) (mn, mf, mk, mg, mm)) ∧ (¬ y0 = (0 : Int32) → vX7_isIn x3 (-5000 : Int32) (5000 : Int32) (fun r_40 u_40 => (r_40 = (0 : Int32) → K (-2 : Int32) (mn, mf, mk, mg, mm)) ∧ (¬ r_40 = (0 : Int32) → vX7_isIn x4 (-5000 : Int32) (5000 : Int32) (fun r_54 u_54 => (¬ r_54 = (0 : Int32) → vX7_records mn mf mk mg mm (fun u_64 => vX7_metres x1 (fun r_73 u_73 => vX7_metres x2 (fun r_83 u_83 => vX7_thousandth x3 (fun r_93 u_93 => vX7_thousandth x4 (fun r_104 u_104 => vX7_judged (upd (upd (upd (upd (upd mn 0 (0 : Int32)) 2 (0 : Int32)) 3 (0 : Int32)) 4 (0 : Int32)) 5 (-5 : Int32)) (vf_upd (vf_upd (vf_upd (vf_upd mf 0 r_73) 1 r_83) 2 r_93) 3 r_104) (fun r_145 u_145 => K r_145 ((upd (upd (upd (upd (upd mn 0 (0 : Int32)) 2 (0 : Int32)) 3 (0 : Int32)) 4 (0 : Int32)) 5 (-5 : Int32)), (vf_upd (vf_upd (vf_upd (vf_upd mf 0 r_73) 1 r_83) 2 r_93) 3 r_104), u_64.1, u_64.2.1, u_64.2.2)))))))) ∧ (r_54 = (0 : Int32) → K (-2 : Int32) (mn, mf, mk, mg, mm))))))
def vX7_place_25 (mn : Nat → Int32) (mf : Nat → UInt32) (mk : Nat → Int32) (mg : Nat → UInt32) (mm : Nat → Int32) (x1 : Int32) (x2 : Int32) (x3 : Int32) (x4 : Int32) (K : Int32 → ((Nat → Int32) × (Nat → UInt32) × (Nat → Int32) × (Nat → UInt32) × (Nat → Int32)) → Prop)  : Prop :=
  vX7_place_26 mn mf mk mg mm x1 x2 x3 x4 (0 : Int32) K 
def vX7_place (mn : Nat → Int32) (mf : Nat → UInt32) (mk : Nat → Int32) (mg : Nat → UInt32) (mm : Nat → Int32) (p1 : Int32) (p2 : Int32) (p3 : Int32) (p4 : Int32) (K : Int32 → ((Nat → Int32) × (Nat → UInt32) × (Nat → Int32) × (Nat → UInt32) × (Nat → Int32)) → Prop) : Prop :=
  vX7_isIn p1 (1 : Int32) (100000 : Int32) (fun r_4 u_4 => (r_4 = (0 : Int32) → vX7_place_25 mn mf mk mg mm p1 p2 p3 p4 K ) ∧ (¬ r_4 = (0 : Int32) → vX7_isIn p2 (-100000 : Int32) (100000 : Int32) (fun r_15 u_15 => (r_15 = (0 : Int32) → vX7_place_25 mn mf mk mg mm p1 p2 p3 p4 K ) ∧ (¬ r_15 = (0 : Int32) → vX7_place_26 mn mf mk mg mm p1 p2 p3 p4 (1 : Int32) K ))))
set_option maxRecDepth 100000 in
set_option maxHeartbeats 4000000 in
theorem ctX7_place (l : Launch) (G : va_G) (cy : Nat → ClassId) (a : Nat → Nat) (mn : Nat → Int32) (mf : Nat → UInt32) (mk : Nat → Int32) (mg : Nat → UInt32) (mv : Nat → Int32) (mt : Nat → Int32) (mm : Nat → Int32) (p1 : Int32) (p2 : Int32) (p3 : Int32) (p4 : Int32) (K : Int32 → ((Nat → Int32) × (Nat → UInt32) × (Nat → Int32) × (Nat → UInt32) × (Nat → Int32)) → Prop) (h : vX7_place mn mf mk mg mm p1 p2 p3 p4 K) : Met l yX7_place (ws_ yX7_place cX7_place 6 (some .int)) ({ frames := 5, cells := 0, slots := 0, locals := 109 } : Room) (CP G cy [.ref (a 0), .int p1, .int p2, .int p3, .int p4] (md_W cy a mn mf mk mg mv mt mm)) (RI G K (fun u => md_W cy a u.1 u.2.1 u.2.2.1 u.2.2.2.1 mv mt u.2.2.2.2) (A1 (md_W cy a mn mf mk mg mv mt mm))) 0 0 (A1 (md_W cy a mn mf mk mg mv mt mm)) := by
  refine hd_go (Qf := fun A => (RI G K (fun u => md_W cy a u.1 u.2.1 u.2.2.1 u.2.2.2.1 mv mt u.2.2.2.2) A)) (by decide +kernel) (Nat.le_of_ble_eq_true rfl) ?_
  intro p e s m below meth c ls A hx hb hr hlocks S hE hP hD hS hl
  have hl : lv_has ls 6 [(0, .ref (a 0)), (1, .int p1), (2, .int p2), (3, .int p3), (4, .int p4)] := hl
  unfold vX7_place at h
  have J_26 : ∀ (mn : Nat → Int32) (mf : Nat → UInt32) (mk : Nat → Int32) (mg : Nat → UInt32) (mm : Nat → Int32) (x1 : Int32) (x2 : Int32) (x3 : Int32) (x4 : Int32) (y0 : Int32), vX7_place_26 mn mf mk mg mm x1 x2 x3 x4 y0 K  → ∀ (H : Heap) (locs : List Loc) (ls : Array Slot), va_P G vwCl (md_W cy a mn mf mk mg mv mt mm) H → va_D A (md_W cy a mn mf mk mg mv mt mm) → va_S A s.heap H locs → lv_has ls 6 [(0, .ref (a 0)), (1, .int x1), (2, .int x2), (3, .int x3), (4, .int x4)] → W p l e (headSpec (ws_ yX7_place cX7_place 6 (some .int)) ({ frames := 5, cells := 0, slots := 0, locals := 109 } : Room)).room s m ([.ref (a 0), .int p1, .int p2, .int p3, .int p4] : List Value).toArray below meth c H locs 0 0 (MQ below (RI G K (fun u => md_W cy a u.1 u.2.1 u.2.2.1 u.2.2.2.1 mv mt u.2.2.2.2) A) ([.ref (a 0), .int p1, .int p2, .int p3, .int p4] : List Value).toArray s 0 0 A) (F0 m 26 ls [.int y0]) := by
    intro mn mf mk mg mm x1 x2 x3 x4 y0 h H locs ls hP hD hS hl
    unfold vX7_place_26 at h
    refine lv_istore (lv' := [(5, .int y0), (0, .ref (a 0)), (1, .int x1), (2, .int x2), (3, .int x3), (4, .int x4)]) hx hb dX7_place_26 hl (by decide) rfl (fun ls hl => ?_)
    refine lv_iload hx hb dX7_place_28 (lv_at hl 0 rfl) ?_
    refine lv_if_eq (tgt := 60) hx hb dX7_place_30 (by decide) (fun c_30 => ?_) (fun c_30 => ?_)
    · have h := h.1 c_30
      refine lv_bipush (v := (-2 : Int32)) hx hb dX7_place_60 (by decide) ?_
      exact W.iret (v := (-2 : Int32)) hx hb hr (fun t ht hW => ⟨⟨(-2 : Int32), (mn, mf, mk, mg, mm), rfl, h, ⟨hp_at ht hP, hD⟩⟩, hS.F ht⟩) hS.2.2 dX7_place_62
    · have h := h.2 c_30
      refine lv_iload_n hx hb dX7_place_33 rfl (lv_at hl 4 rfl) ?_
      refine lv_sipush (v := (-5000 : Int32)) hx hb dX7_place_34 (by decide) ?_
      refine lv_sipush (v := (5000 : Int32)) hx hb dX7_place_37 (by decide) ?_
      refine kc_SiE (As := [.int x3, .int (-5000 : Int32), .int (5000 : Int32)]) (rest := []) S hE (ctX7_isIn l G cy   x3 (-5000 : Int32) (5000 : Int32) _ h) q_8_17 q_8_18 q_1_5 q_8_19 ydX7_isIn ⟨⟨rfl, rfl⟩, ⟨Nat.le_of_ble_eq_true rfl, Nat.le_of_ble_eq_true rfl⟩⟩ ⟨Nat.zero_le _, Nat.zero_le _⟩ hP hD hS (fun _ => rfl) rfl hl.1 rfl (Nat.le_of_ble_eq_true rfl) dX7_place_40 (fun r_40 u_40 H locs h hP hD hS => ?_)
      refine lv_if_eq (tgt := 60) hx hb dX7_place_43 (by decide) (fun c_43 => ?_) (fun c_43 => ?_)
      · have h := h.1 c_43
        refine lv_bipush (v := (-2 : Int32)) hx hb dX7_place_60 (by decide) ?_
        exact W.iret (v := (-2 : Int32)) hx hb hr (fun t ht hW => ⟨⟨(-2 : Int32), (mn, mf, mk, mg, mm), rfl, h, ⟨hp_at ht hP, hD⟩⟩, hS.F ht⟩) hS.2.2 dX7_place_62
      · have h := h.2 c_43
        refine lv_iload hx hb dX7_place_46 (lv_at hl 5 rfl) ?_
        refine lv_sipush (v := (-5000 : Int32)) hx hb dX7_place_48 (by decide) ?_
        refine lv_sipush (v := (5000 : Int32)) hx hb dX7_place_51 (by decide) ?_
        refine kc_SiE (As := [.int x4, .int (-5000 : Int32), .int (5000 : Int32)]) (rest := []) S hE (ctX7_isIn l G cy   x4 (-5000 : Int32) (5000 : Int32) _ h) q_8_17 q_8_18 q_1_5 q_8_19 ydX7_isIn ⟨⟨rfl, rfl⟩, ⟨Nat.le_of_ble_eq_true rfl, Nat.le_of_ble_eq_true rfl⟩⟩ ⟨Nat.zero_le _, Nat.zero_le _⟩ hP hD hS (fun _ => rfl) rfl hl.1 rfl (Nat.le_of_ble_eq_true rfl) dX7_place_54 (fun r_54 u_54 H locs h hP hD hS => ?_)
        refine lv_if_ne (tgt := 63) hx hb dX7_place_57 (by decide) (fun c_57 => ?_) (fun c_57 => ?_)
        · have h := h.1 c_57
          refine lv_aload_n hx hb dX7_place_63 rfl (lv_at hl 1 rfl) ?_
          refine kc_Vv0 (As := []) (rest := []) S hE (ctX7_records l G cy a mn mf mk mg mv mt mm  _ h) q_8_20 q_8_21 q_8_22 q_1_5 q_8_23 rfl 0 rfl rfl ydX7_records ⟨⟨rfl, rfl⟩, ⟨Nat.le_of_ble_eq_true rfl, Nat.le_of_ble_eq_true rfl⟩⟩ ⟨Nat.zero_le _, Nat.zero_le _⟩ hP hD hS rfl hl.1 rfl (Nat.le_of_ble_eq_true rfl) dX7_place_64 (fun u_64 H locs h hP hD hS => ?_)
          refine lv_aload_n hx hb dX7_place_67 rfl (lv_at hl 1 rfl) ?_
          refine kg (v := .ref (a 2)) S hE hP 0 rfl rfl 1 (by decide) q_4_15 rfl rfl inlX7 dX7_place_68 ?_
          refine lv_iconst (v := (0 : Int32)) hx hb dX7_place_71 (by decide) ?_
          refine lv_iload_n hx hb dX7_place_72 rfl (lv_at hl 2 rfl) ?_
          refine kc_SfE (As := [.int x1]) (rest := [.int (0 : Int32), .ref (a 2)]) S hE (ctX7_metres l G cy   x1 _ h) q_9_5 q_9_6 q_1_5 q_9_7 ydX7_metres ⟨⟨rfl, rfl⟩, ⟨Nat.le_of_ble_eq_true rfl, Nat.le_of_ble_eq_true rfl⟩⟩ ⟨Nat.zero_le _, Nat.zero_le _⟩ hP hD hS (fun _ => rfl) rfl hl.1 rfl (Nat.le_of_ble_eq_true rfl) dX7_place_73 (fun r_73 u_73 H locs h hP hD hS => ?_)
          refine kafs S hE hP hD hS 2 rfl (vi_0 (by decide)) tc_0 dX7_place_76 (fun H locs hP hD hS => ?_)
          have hP : va_P G vwCl (md_W cy a mn (vf_upd mf 0 r_73) u_64.1 u_64.2.1 mv mt u_64.2.2) H := hP
          have hD : va_D A (md_W cy a mn (vf_upd mf 0 r_73) u_64.1 u_64.2.1 mv mt u_64.2.2) := hD
          refine lv_aload_n hx hb dX7_place_77 rfl (lv_at hl 1 rfl) ?_
          refine kg (v := .ref (a 2)) S hE hP 0 rfl rfl 1 (by decide) q_4_15 rfl rfl inlX7 dX7_place_78 ?_
          refine lv_iconst (v := (1 : Int32)) hx hb dX7_place_81 (by decide) ?_
          refine lv_iload_n hx hb dX7_place_82 rfl (lv_at hl 3 rfl) ?_
          refine kc_SfE (As := [.int x2]) (rest := [.int (1 : Int32), .ref (a 2)]) S hE (ctX7_metres l G cy   x2 _ h) q_9_5 q_9_6 q_1_5 q_9_7 ydX7_metres ⟨⟨rfl, rfl⟩, ⟨Nat.le_of_ble_eq_true rfl, Nat.le_of_ble_eq_true rfl⟩⟩ ⟨Nat.zero_le _, Nat.zero_le _⟩ hP hD hS (fun _ => rfl) rfl hl.1 rfl (Nat.le_of_ble_eq_true rfl) dX7_place_83 (fun r_83 u_83 H locs h hP hD hS => ?_)
          refine kafs S hE hP hD hS 2 rfl (vi_1 (by decide)) tc_1 dX7_place_86 (fun H locs hP hD hS => ?_)
          have hP : va_P G vwCl (md_W cy a mn (vf_upd (vf_upd mf 0 r_73) 1 r_83) u_64.1 u_64.2.1 mv mt u_64.2.2) H := hP
          have hD : va_D A (md_W cy a mn (vf_upd (vf_upd mf 0 r_73) 1 r_83) u_64.1 u_64.2.1 mv mt u_64.2.2) := hD
          refine lv_aload_n hx hb dX7_place_87 rfl (lv_at hl 1 rfl) ?_
          refine kg (v := .ref (a 2)) S hE hP 0 rfl rfl 1 (by decide) q_4_15 rfl rfl inlX7 dX7_place_88 ?_
          refine lv_iconst (v := (2 : Int32)) hx hb dX7_place_91 (by decide) ?_
          refine lv_iload_n hx hb dX7_place_92 rfl (lv_at hl 4 rfl) ?_
          refine kc_SfE (As := [.int x3]) (rest := [.int (2 : Int32), .ref (a 2)]) S hE (ctX7_thousandth l G cy   x3 _ h) q_9_8 q_9_9 q_1_5 q_9_10 ydX7_thousandth ⟨⟨rfl, rfl⟩, ⟨Nat.le_of_ble_eq_true rfl, Nat.le_of_ble_eq_true rfl⟩⟩ ⟨Nat.zero_le _, Nat.zero_le _⟩ hP hD hS (fun _ => rfl) rfl hl.1 rfl (Nat.le_of_ble_eq_true rfl) dX7_place_93 (fun r_93 u_93 H locs h hP hD hS => ?_)
          refine kafs S hE hP hD hS 2 rfl (vi_2 (by decide)) tc_2 dX7_place_96 (fun H locs hP hD hS => ?_)
          have hP : va_P G vwCl (md_W cy a mn (vf_upd (vf_upd (vf_upd mf 0 r_73) 1 r_83) 2 r_93) u_64.1 u_64.2.1 mv mt u_64.2.2) H := hP
          have hD : va_D A (md_W cy a mn (vf_upd (vf_upd (vf_upd mf 0 r_73) 1 r_83) 2 r_93) u_64.1 u_64.2.1 mv mt u_64.2.2) := hD
          refine lv_aload_n hx hb dX7_place_97 rfl (lv_at hl 1 rfl) ?_
          refine kg (v := .ref (a 2)) S hE hP 0 rfl rfl 1 (by decide) q_4_15 rfl rfl inlX7 dX7_place_98 ?_
          refine lv_iconst (v := (3 : Int32)) hx hb dX7_place_101 (by decide) ?_
          refine lv_iload hx hb dX7_place_102 (lv_at hl 5 rfl) ?_
          refine kc_SfE (As := [.int x4]) (rest := [.int (3 : Int32), .ref (a 2)]) S hE (ctX7_thousandth l G cy   x4 _ h) q_9_8 q_9_9 q_1_5 q_9_10 ydX7_thousandth ⟨⟨rfl, rfl⟩, ⟨Nat.le_of_ble_eq_true rfl, Nat.le_of_ble_eq_true rfl⟩⟩ ⟨Nat.zero_le _, Nat.zero_le _⟩ hP hD hS (fun _ => rfl) rfl hl.1 rfl (Nat.le_of_ble_eq_true rfl) dX7_place_104 (fun r_104 u_104 H locs h hP hD hS => ?_)
          refine kafs S hE hP hD hS 2 rfl (vi_3 (by decide)) tc_3 dX7_place_107 (fun H locs hP hD hS => ?_)
          have hP : va_P G vwCl (md_W cy a mn (vf_upd (vf_upd (vf_upd (vf_upd mf 0 r_73) 1 r_83) 2 r_93) 3 r_104) u_64.1 u_64.2.1 mv mt u_64.2.2) H := hP
          have hD : va_D A (md_W cy a mn (vf_upd (vf_upd (vf_upd (vf_upd mf 0 r_73) 1 r_83) 2 r_93) 3 r_104) u_64.1 u_64.2.1 mv mt u_64.2.2) := hD
          refine lv_aload_n hx hb dX7_place_108 rfl (lv_at hl 1 rfl) ?_
          refine kg (v := .ref (a 1)) S hE hP 0 rfl rfl 0 (by decide) q_4_13 rfl rfl inlX7 dX7_place_109 ?_
          refine lv_iconst (v := (0 : Int32)) hx hb dX7_place_112 (by decide) ?_
          refine lv_iconst (v := (0 : Int32)) hx hb dX7_place_113 (by decide) ?_
          refine kais S hE hP hD hS 1 rfl (vi_0 (by decide)) tc_0 dX7_place_114 (fun H locs hP hD hS => ?_)
          have hP : va_P G vwCl (md_W cy a (upd mn 0 (0 : Int32)) (vf_upd (vf_upd (vf_upd (vf_upd mf 0 r_73) 1 r_83) 2 r_93) 3 r_104) u_64.1 u_64.2.1 mv mt u_64.2.2) H := hP
          have hD : va_D A (md_W cy a (upd mn 0 (0 : Int32)) (vf_upd (vf_upd (vf_upd (vf_upd mf 0 r_73) 1 r_83) 2 r_93) 3 r_104) u_64.1 u_64.2.1 mv mt u_64.2.2) := hD
          refine lv_aload_n hx hb dX7_place_115 rfl (lv_at hl 1 rfl) ?_
          refine kg (v := .ref (a 1)) S hE hP 0 rfl rfl 0 (by decide) q_4_13 rfl rfl inlX7 dX7_place_116 ?_
          refine lv_iconst (v := (2 : Int32)) hx hb dX7_place_119 (by decide) ?_
          refine lv_iconst (v := (0 : Int32)) hx hb dX7_place_120 (by decide) ?_
          refine kais S hE hP hD hS 1 rfl (vi_2 (by decide)) tc_2 dX7_place_121 (fun H locs hP hD hS => ?_)
          have hP : va_P G vwCl (md_W cy a (upd (upd mn 0 (0 : Int32)) 2 (0 : Int32)) (vf_upd (vf_upd (vf_upd (vf_upd mf 0 r_73) 1 r_83) 2 r_93) 3 r_104) u_64.1 u_64.2.1 mv mt u_64.2.2) H := hP
          have hD : va_D A (md_W cy a (upd (upd mn 0 (0 : Int32)) 2 (0 : Int32)) (vf_upd (vf_upd (vf_upd (vf_upd mf 0 r_73) 1 r_83) 2 r_93) 3 r_104) u_64.1 u_64.2.1 mv mt u_64.2.2) := hD
          refine lv_aload_n hx hb dX7_place_122 rfl (lv_at hl 1 rfl) ?_
          refine kg (v := .ref (a 1)) S hE hP 0 rfl rfl 0 (by decide) q_4_13 rfl rfl inlX7 dX7_place_123 ?_
          refine lv_iconst (v := (3 : Int32)) hx hb dX7_place_126 (by decide) ?_
          refine lv_iconst (v := (0 : Int32)) hx hb dX7_place_127 (by decide) ?_
          refine kais S hE hP hD hS 1 rfl (vi_3 (by decide)) tc_3 dX7_place_128 (fun H locs hP hD hS => ?_)
          have hP : va_P G vwCl (md_W cy a (upd (upd (upd mn 0 (0 : Int32)) 2 (0 : Int32)) 3 (0 : Int32)) (vf_upd (vf_upd (vf_upd (vf_upd mf 0 r_73) 1 r_83) 2 r_93) 3 r_104) u_64.1 u_64.2.1 mv mt u_64.2.2) H := hP
          have hD : va_D A (md_W cy a (upd (upd (upd mn 0 (0 : Int32)) 2 (0 : Int32)) 3 (0 : Int32)) (vf_upd (vf_upd (vf_upd (vf_upd mf 0 r_73) 1 r_83) 2 r_93) 3 r_104) u_64.1 u_64.2.1 mv mt u_64.2.2) := hD
          refine lv_aload_n hx hb dX7_place_129 rfl (lv_at hl 1 rfl) ?_
          refine kg (v := .ref (a 1)) S hE hP 0 rfl rfl 0 (by decide) q_4_13 rfl rfl inlX7 dX7_place_130 ?_
          refine lv_iconst (v := (4 : Int32)) hx hb dX7_place_133 (by decide) ?_
          refine lv_iconst (v := (0 : Int32)) hx hb dX7_place_134 (by decide) ?_
          refine kais S hE hP hD hS 1 rfl (vi_4 (by decide)) tc_4 dX7_place_135 (fun H locs hP hD hS => ?_)
          have hP : va_P G vwCl (md_W cy a (upd (upd (upd (upd mn 0 (0 : Int32)) 2 (0 : Int32)) 3 (0 : Int32)) 4 (0 : Int32)) (vf_upd (vf_upd (vf_upd (vf_upd mf 0 r_73) 1 r_83) 2 r_93) 3 r_104) u_64.1 u_64.2.1 mv mt u_64.2.2) H := hP
          have hD : va_D A (md_W cy a (upd (upd (upd (upd mn 0 (0 : Int32)) 2 (0 : Int32)) 3 (0 : Int32)) 4 (0 : Int32)) (vf_upd (vf_upd (vf_upd (vf_upd mf 0 r_73) 1 r_83) 2 r_93) 3 r_104) u_64.1 u_64.2.1 mv mt u_64.2.2) := hD
          refine lv_aload_n hx hb dX7_place_136 rfl (lv_at hl 1 rfl) ?_
          refine kg (v := .ref (a 1)) S hE hP 0 rfl rfl 0 (by decide) q_4_13 rfl rfl inlX7 dX7_place_137 ?_
          refine lv_iconst (v := (5 : Int32)) hx hb dX7_place_140 (by decide) ?_
          refine lv_bipush (v := (-5 : Int32)) hx hb dX7_place_141 (by decide) ?_
          refine kais S hE hP hD hS 1 rfl (vi_5 (by decide)) tc_5 dX7_place_143 (fun H locs hP hD hS => ?_)
          have hP : va_P G vwCl (md_W cy a (upd (upd (upd (upd (upd mn 0 (0 : Int32)) 2 (0 : Int32)) 3 (0 : Int32)) 4 (0 : Int32)) 5 (-5 : Int32)) (vf_upd (vf_upd (vf_upd (vf_upd mf 0 r_73) 1 r_83) 2 r_93) 3 r_104) u_64.1 u_64.2.1 mv mt u_64.2.2) H := hP
          have hD : va_D A (md_W cy a (upd (upd (upd (upd (upd mn 0 (0 : Int32)) 2 (0 : Int32)) 3 (0 : Int32)) 4 (0 : Int32)) 5 (-5 : Int32)) (vf_upd (vf_upd (vf_upd (vf_upd mf 0 r_73) 1 r_83) 2 r_93) 3 r_104) u_64.1 u_64.2.1 mv mt u_64.2.2) := hD
          refine lv_aload_n hx hb dX7_place_144 rfl (lv_at hl 1 rfl) ?_
          refine kc_Vi0 (As := []) (rest := []) S hE (ctX7_judged l G cy a (upd (upd (upd (upd (upd mn 0 (0 : Int32)) 2 (0 : Int32)) 3 (0 : Int32)) 4 (0 : Int32)) 5 (-5 : Int32)) (vf_upd (vf_upd (vf_upd (vf_upd mf 0 r_73) 1 r_83) 2 r_93) 3 r_104) u_64.1 u_64.2.1 mv mt u_64.2.2  _ h) q_9_12 q_9_13 q_9_14 q_1_5 q_9_15 rfl 0 rfl rfl ydX7_judged ⟨⟨rfl, rfl⟩, ⟨Nat.le_of_ble_eq_true rfl, Nat.le_of_ble_eq_true rfl⟩⟩ ⟨Nat.zero_le _, Nat.zero_le _⟩ hP hD hS rfl hl.1 rfl (Nat.le_of_ble_eq_true rfl) dX7_place_145 (fun r_145 u_145 H locs h hP hD hS => ?_)
          exact W.iret (v := r_145) hx hb hr (fun t ht hW => ⟨⟨r_145, ((upd (upd (upd (upd (upd mn 0 (0 : Int32)) 2 (0 : Int32)) 3 (0 : Int32)) 4 (0 : Int32)) 5 (-5 : Int32)), (vf_upd (vf_upd (vf_upd (vf_upd mf 0 r_73) 1 r_83) 2 r_93) 3 r_104), u_64.1, u_64.2.1, u_64.2.2), rfl, h, ⟨hp_at ht hP, hD⟩⟩, hS.F ht⟩) hS.2.2 dX7_place_148
        · have h := h.2 c_57
          refine lv_bipush (v := (-2 : Int32)) hx hb dX7_place_60 (by decide) ?_
          exact W.iret (v := (-2 : Int32)) hx hb hr (fun t ht hW => ⟨⟨(-2 : Int32), (mn, mf, mk, mg, mm), rfl, h, ⟨hp_at ht hP, hD⟩⟩, hS.F ht⟩) hS.2.2 dX7_place_62
  have J_25 : ∀ (mn : Nat → Int32) (mf : Nat → UInt32) (mk : Nat → Int32) (mg : Nat → UInt32) (mm : Nat → Int32) (x1 : Int32) (x2 : Int32) (x3 : Int32) (x4 : Int32), vX7_place_25 mn mf mk mg mm x1 x2 x3 x4 K  → ∀ (H : Heap) (locs : List Loc) (ls : Array Slot), va_P G vwCl (md_W cy a mn mf mk mg mv mt mm) H → va_D A (md_W cy a mn mf mk mg mv mt mm) → va_S A s.heap H locs → lv_has ls 6 [(0, .ref (a 0)), (1, .int x1), (2, .int x2), (3, .int x3), (4, .int x4)] → W p l e (headSpec (ws_ yX7_place cX7_place 6 (some .int)) ({ frames := 5, cells := 0, slots := 0, locals := 109 } : Room)).room s m ([.ref (a 0), .int p1, .int p2, .int p3, .int p4] : List Value).toArray below meth c H locs 0 0 (MQ below (RI G K (fun u => md_W cy a u.1 u.2.1 u.2.2.1 u.2.2.2.1 mv mt u.2.2.2.2) A) ([.ref (a 0), .int p1, .int p2, .int p3, .int p4] : List Value).toArray s 0 0 A) (F0 m 25 ls []) := by
    intro mn mf mk mg mm x1 x2 x3 x4 h H locs ls hP hD hS hl
    unfold vX7_place_25 at h
    refine lv_iconst (v := (0 : Int32)) hx hb dX7_place_25 (by decide) ?_
    exact J_26 _ _ _ _ _ _ _ _ _ _ h _ _ _ hP hD hS (lv_sub hl [0, 1, 2, 3, 4] rfl)
  refine lv_iload_n hx hb dX7_place_0 rfl (lv_at hl 1 rfl) ?_
  refine lv_iconst (v := (1 : Int32)) hx hb dX7_place_1 (by decide) ?_
  refine lv_ldc hx hb S.2.2.2.1 (S.2.2.2.2 _ q_8_15) dX7_place_2 ?_
  refine kc_SiE (As := [.int p1, .int (1 : Int32), .int (100000 : Int32)]) (rest := []) S hE (ctX7_isIn l G cy   p1 (1 : Int32) (100000 : Int32) _ h) q_8_17 q_8_18 q_1_5 q_8_19 ydX7_isIn ⟨⟨rfl, rfl⟩, ⟨Nat.le_of_ble_eq_true rfl, Nat.le_of_ble_eq_true rfl⟩⟩ ⟨Nat.zero_le _, Nat.zero_le _⟩ hP hD hS (fun _ => rfl) rfl hl.1 rfl (Nat.le_of_ble_eq_true rfl) dX7_place_4 (fun r_4 u_4 H locs h hP hD hS => ?_)
  refine lv_if_eq (tgt := 25) hx hb dX7_place_7 (by decide) (fun c_7 => ?_) (fun c_7 => ?_)
  · have h := h.1 c_7
    exact J_25 _ _ _ _ _ _ _ _ _ h _ _ _ hP hD hS (lv_sub hl [0, 1, 2, 3, 4] rfl)
  · have h := h.2 c_7
    refine lv_iload_n hx hb dX7_place_10 rfl (lv_at hl 2 rfl) ?_
    refine lv_ldc hx hb S.2.2.2.1 (S.2.2.2.2 _ q_8_16) dX7_place_11 ?_
    refine lv_ldc hx hb S.2.2.2.1 (S.2.2.2.2 _ q_8_15) dX7_place_13 ?_
    refine kc_SiE (As := [.int p2, .int (-100000 : Int32), .int (100000 : Int32)]) (rest := []) S hE (ctX7_isIn l G cy   p2 (-100000 : Int32) (100000 : Int32) _ h) q_8_17 q_8_18 q_1_5 q_8_19 ydX7_isIn ⟨⟨rfl, rfl⟩, ⟨Nat.le_of_ble_eq_true rfl, Nat.le_of_ble_eq_true rfl⟩⟩ ⟨Nat.zero_le _, Nat.zero_le _⟩ hP hD hS (fun _ => rfl) rfl hl.1 rfl (Nat.le_of_ble_eq_true rfl) dX7_place_15 (fun r_15 u_15 H locs h hP hD hS => ?_)
    refine lv_if_eq (tgt := 25) hx hb dX7_place_18 (by decide) (fun c_18 => ?_) (fun c_18 => ?_)
    · have h := h.1 c_18
      exact J_25 _ _ _ _ _ _ _ _ _ h _ _ _ hP hD hS (lv_sub hl [0, 1, 2, 3, 4] rfl)
    · have h := h.2 c_18
      refine lv_iconst (v := (1 : Int32)) hx hb dX7_place_21 (by decide) ?_
      refine lv_goto (tgt := 26) hx hb dX7_place_22 (by decide) ?_
      exact J_26 _ _ _ _ _ _ _ _ _ _ h _ _ _ hP hD hS (lv_sub hl [0, 1, 2, 3, 4] rfl)
def vX7_wanted_67 (mn : Nat → Int32) (mf : Nat → UInt32) (y0 : UInt32) (K : UInt32 → Unit → Prop)  : Prop :=
  vf_n32 (FP.fsub y0 (mf 0)) ∧ vf_n32 (FP.fmul (FP.fsub y0 (mf 0)) (1036831949 : UInt32)) ∧ K (FP.fmul (FP.fsub y0 (mf 0)) (1036831949 : UInt32)) ()
def vX7_wanted_130 (mn : Nat → Int32) (mf : Nat → UInt32) (y0 : UInt32) (K : UInt32 → Unit → Prop)  : Prop :=
  K y0 ()
def vX7_wanted (mn : Nat → Int32) (mf : Nat → UInt32) (K : UInt32 → Unit → Prop) : Prop :=
  vX7_measured mn mf (mn 4) (fun r_7 u_7 => (¬ (mn 0) = (3 : Int32) → (¬ (mn 0) = (2 : Int32) → vX7_limitAt mn r_7 (fun r_82 u_82 => vX7_nextStop mn mf (fun r_88 u_88 => (r_88 = (-5 : Int32) → K (FP.fneg r_82) ()) ∧ (¬ r_88 = (-5 : Int32) → vX7_stopAt mn r_88 (fun r_107 u_107 => vf_n32 (FP.fsub (mf 0) r_107) ∧ vf_n32 (FP.fmul (FP.fsub (mf 0) r_107) (1036831949 : UInt32)) ∧ vf_n32 (FP.fsub FP.fconst0 (FP.fmul (FP.fsub (mf 0) r_107) (1036831949 : UInt32))) ∧ ((fcl (FP.fsub FP.fconst0 (FP.fmul (FP.fsub (mf 0) r_107) (1036831949 : UInt32))) (FP.fneg r_82)) ≤ (0 : Int32) → vX7_wanted_130 mn mf (FP.fneg r_82) K ) ∧ (¬ (fcl (FP.fsub FP.fconst0 (FP.fmul (FP.fsub (mf 0) r_107) (1036831949 : UInt32))) (FP.fneg r_82)) ≤ (0 : Int32) → vX7_wanted_130 mn mf (FP.fsub FP.fconst0 (FP.fmul (FP.fsub (mf 0) r_107) (1036831949 : UInt32))) K )))))) ∧ ((mn 0) = (2 : Int32) → (¬ (mn 5) = (-5 : Int32) → vX7_stopAt mn (mn 5) (fun r_64 u_64 => vX7_wanted_67 mn mf r_64 K )) ∧ ((mn 5) = (-5 : Int32) → vX7_wanted_67 mn mf (mf 4) K ))) ∧ ((mn 0) = (3 : Int32) → vX7_limitAt mn r_7 (fun r_23 u_23 => K r_23 ())))
set_option maxRecDepth 100000 in
set_option maxHeartbeats 4000000 in
theorem ctX7_wanted (l : Launch) (G : va_G) (cy : Nat → ClassId) (a : Nat → Nat) (mn : Nat → Int32) (mf : Nat → UInt32) (mk : Nat → Int32) (mg : Nat → UInt32) (mv : Nat → Int32) (mt : Nat → Int32) (mm : Nat → Int32)  (K : UInt32 → Unit → Prop) (h : vX7_wanted mn mf K) : Met l yX7_wanted (ws_ yX7_wanted cX7_wanted 5 (some .float)) ({ frames := 3, cells := 0, slots := 0, locals := 68 } : Room) (CP G cy [.ref (a 0)] (md_W cy a mn mf mk mg mv mt mm)) (RF G K (fun u => md_W cy a mn mf mk mg mv mt mm) (A1 (md_W cy a mn mf mk mg mv mt mm))) 0 0 (A1 (md_W cy a mn mf mk mg mv mt mm)) := by
  refine hd_go (Qf := fun A => (RF G K (fun u => md_W cy a mn mf mk mg mv mt mm) A)) (by decide +kernel) (Nat.le_of_ble_eq_true rfl) ?_
  intro p e s m below meth c ls A hx hb hr hlocks S hE hP hD hS hl
  have hl : lv_has ls 5 [(0, .ref (a 0))] := hl
  unfold vX7_wanted at h
  have J_67 : ∀ (mn : Nat → Int32) (mf : Nat → UInt32) (y0 : UInt32), vX7_wanted_67 mn mf y0 K  → ∀ (H : Heap) (locs : List Loc) (ls : Array Slot), va_P G vwCl (md_W cy a mn mf mk mg mv mt mm) H → va_D A (md_W cy a mn mf mk mg mv mt mm) → va_S A s.heap H locs → lv_has ls 5 [(0, .ref (a 0))] → W p l e (headSpec (ws_ yX7_wanted cX7_wanted 5 (some .float)) ({ frames := 3, cells := 0, slots := 0, locals := 68 } : Room)).room s m ([.ref (a 0)] : List Value).toArray below meth c H locs 0 0 (MQ below (RF G K (fun u => md_W cy a mn mf mk mg mv mt mm) A) ([.ref (a 0)] : List Value).toArray s 0 0 A) (F0 m 67 ls [.float y0]) := by
    intro mn mf y0 h H locs ls hP hD hS hl
    unfold vX7_wanted_67 at h
    refine lv_fstore_n (lv' := [(2, .float y0), (0, .ref (a 0))]) hx hb dX7_wanted_67 rfl hl (by decide) rfl (fun ls hl => ?_)
    refine lv_fload_n hx hb dX7_wanted_68 rfl (lv_at hl 0 rfl) ?_
    refine lv_aload_n hx hb dX7_wanted_69 rfl (lv_at hl 1 rfl) ?_
    refine kg (v := .ref (a 2)) S hE hP 0 rfl rfl 1 (by decide) q_4_15 rfl rfl inlX7 dX7_wanted_70 ?_
    refine lv_iconst (v := (0 : Int32)) hx hb dX7_wanted_73 (by decide) ?_
    refine kafl (v := (mf 0)) S hE hP 2 rfl (vi_0 (by decide)) tc_0 rfl dX7_wanted_74 ?_
    refine lv_fsub hx hb dX7_wanted_75 h.1 ?_
    have h := h.2
    refine lv_ldcf hx hb S.2.2.2.1 (S.2.2.2.2 _ q_21_22) dX7_wanted_76 ?_
    refine lv_fmul hx hb dX7_wanted_78 h.1 ?_
    have h := h.2
    exact W.fret (v := (FP.fmul (FP.fsub y0 (mf 0)) (1036831949 : UInt32))) hx hb hr (fun t ht hW => ⟨⟨(FP.fmul (FP.fsub y0 (mf 0)) (1036831949 : UInt32)), (), rfl, h, ⟨hp_at ht hP, hD⟩⟩, hS.F ht⟩) hS.2.2 dX7_wanted_79
  have J_130 : ∀ (mn : Nat → Int32) (mf : Nat → UInt32) (y0 : UInt32), vX7_wanted_130 mn mf y0 K  → ∀ (H : Heap) (locs : List Loc) (ls : Array Slot), va_P G vwCl (md_W cy a mn mf mk mg mv mt mm) H → va_D A (md_W cy a mn mf mk mg mv mt mm) → va_S A s.heap H locs → lv_has ls 5 [] → W p l e (headSpec (ws_ yX7_wanted cX7_wanted 5 (some .float)) ({ frames := 3, cells := 0, slots := 0, locals := 68 } : Room)).room s m ([.ref (a 0)] : List Value).toArray below meth c H locs 0 0 (MQ below (RF G K (fun u => md_W cy a mn mf mk mg mv mt mm) A) ([.ref (a 0)] : List Value).toArray s 0 0 A) (F0 m 130 ls [.float y0]) := by
    intro mn mf y0 h H locs ls hP hD hS hl
    unfold vX7_wanted_130 at h
    refine lv_fstore_n (lv' := [(2, .float y0)]) hx hb dX7_wanted_130 rfl hl (by decide) rfl (fun ls hl => ?_)
    refine lv_fload_n hx hb dX7_wanted_131 rfl (lv_at hl 0 rfl) ?_
    exact W.fret (v := y0) hx hb hr (fun t ht hW => ⟨⟨y0, (), rfl, h, ⟨hp_at ht hP, hD⟩⟩, hS.F ht⟩) hS.2.2 dX7_wanted_132
  refine lv_aload_n hx hb dX7_wanted_0 rfl (lv_at hl 0 rfl) ?_
  refine lv_aload_n hx hb dX7_wanted_1 rfl (lv_at hl 0 rfl) ?_
  refine kg (v := .ref (a 1)) S hE hP 0 rfl rfl 0 (by decide) q_4_13 rfl rfl inlX7 dX7_wanted_2 ?_
  refine lv_iconst (v := (4 : Int32)) hx hb dX7_wanted_5 (by decide) ?_
  refine kail (v := (mn 4)) S hE hP 1 rfl (vi_4 (by decide)) tc_4 rfl dX7_wanted_6 ?_
  refine kc_Vf0 (As := [.int (mn 4)]) (rest := []) S hE (ctX7_measured l G cy a mn mf mk mg mv mt mm (mn 4) _ h) q_21_23 q_22_0 q_22_1 q_1_5 q_22_2 rfl 0 rfl rfl ydX7_measured ⟨⟨rfl, rfl⟩, ⟨Nat.le_of_ble_eq_true rfl, Nat.le_of_ble_eq_true rfl⟩⟩ ⟨Nat.zero_le _, Nat.zero_le _⟩ hP hD hS rfl hl.1 rfl (Nat.le_of_ble_eq_true rfl) dX7_wanted_7 (fun r_7 u_7 H locs h hP hD hS => ?_)
  refine lv_fstore_n (lv' := [(1, .float r_7), (0, .ref (a 0))]) hx hb dX7_wanted_10 rfl hl (by decide) rfl (fun ls hl => ?_)
  refine lv_aload_n hx hb dX7_wanted_11 rfl (lv_at hl 1 rfl) ?_
  refine kg (v := .ref (a 1)) S hE hP 0 rfl rfl 0 (by decide) q_4_13 rfl rfl inlX7 dX7_wanted_12 ?_
  refine lv_iconst (v := (0 : Int32)) hx hb dX7_wanted_15 (by decide) ?_
  refine kail (v := (mn 0)) S hE hP 1 rfl (vi_0 (by decide)) tc_0 rfl dX7_wanted_16 ?_
  refine lv_iconst (v := (3 : Int32)) hx hb dX7_wanted_17 (by decide) ?_
  refine lv_icmp_ne (tgt := 27) hx hb dX7_wanted_18 (by decide) (fun c_18 => ?_) (fun c_18 => ?_)
  · have h := h.1 c_18
    refine lv_aload_n hx hb dX7_wanted_27 rfl (lv_at hl 1 rfl) ?_
    refine kg (v := .ref (a 1)) S hE hP 0 rfl rfl 0 (by decide) q_4_13 rfl rfl inlX7 dX7_wanted_28 ?_
    refine lv_iconst (v := (0 : Int32)) hx hb dX7_wanted_31 (by decide) ?_
    refine kail (v := (mn 0)) S hE hP 1 rfl (vi_0 (by decide)) tc_0 rfl dX7_wanted_32 ?_
    refine lv_iconst (v := (2 : Int32)) hx hb dX7_wanted_33 (by decide) ?_
    refine lv_icmp_ne (tgt := 80) hx hb dX7_wanted_34 (by decide) (fun c_34 => ?_) (fun c_34 => ?_)
    · have h := h.1 c_34
      refine lv_aload_n hx hb dX7_wanted_80 rfl (lv_at hl 1 rfl) ?_
      refine lv_fload_n hx hb dX7_wanted_81 rfl (lv_at hl 0 rfl) ?_
      refine kc_Vf0 (As := [.float r_7]) (rest := []) S hE (ctX7_limitAt l G cy a mn mf mk mg mv mt mm r_7 _ h) q_10_4 q_10_5 q_10_6 q_1_5 q_10_7 rfl 0 rfl rfl ydX7_limitAt ⟨⟨rfl, rfl⟩, ⟨Nat.le_of_ble_eq_true rfl, Nat.le_of_ble_eq_true rfl⟩⟩ ⟨Nat.zero_le _, Nat.zero_le _⟩ hP hD hS rfl hl.1 rfl (Nat.le_of_ble_eq_true rfl) dX7_wanted_82 (fun r_82 u_82 H locs h hP hD hS => ?_)
      refine lv_fneg hx hb dX7_wanted_85 ?_
      refine lv_fstore_n (lv' := [(2, .float (FP.fneg r_82)), (1, .float r_7), (0, .ref (a 0))]) hx hb dX7_wanted_86 rfl hl (by decide) rfl (fun ls hl => ?_)
      refine lv_aload_n hx hb dX7_wanted_87 rfl (lv_at hl 2 rfl) ?_
      refine kc_Vi0 (As := []) (rest := []) S hE (ctX7_nextStop l G cy a mn mf mk mg mv mt mm  _ h) q_22_7 q_22_8 q_22_9 q_1_5 q_22_10 rfl 0 rfl rfl ydX7_nextStop ⟨⟨rfl, rfl⟩, ⟨Nat.le_of_ble_eq_true rfl, Nat.le_of_ble_eq_true rfl⟩⟩ ⟨Nat.zero_le _, Nat.zero_le _⟩ hP hD hS rfl hl.1 rfl (Nat.le_of_ble_eq_true rfl) dX7_wanted_88 (fun r_88 u_88 H locs h hP hD hS => ?_)
      refine lv_istore_n (lv' := [(3, .int r_88), (2, .float (FP.fneg r_82)), (1, .float r_7), (0, .ref (a 0))]) hx hb dX7_wanted_91 rfl hl (by decide) rfl (fun ls hl => ?_)
      refine lv_iload_n hx hb dX7_wanted_92 rfl (lv_at hl 0 rfl) ?_
      refine lv_bipush (v := (-5 : Int32)) hx hb dX7_wanted_93 (by decide) ?_
      refine lv_icmp_eq (tgt := 131) hx hb dX7_wanted_95 (by decide) (fun c_95 => ?_) (fun c_95 => ?_)
      · have h := h.1 c_95
        refine lv_fload_n hx hb dX7_wanted_131 rfl (lv_at hl 1 rfl) ?_
        exact W.fret (v := (FP.fneg r_82)) hx hb hr (fun t ht hW => ⟨⟨(FP.fneg r_82), (), rfl, h, ⟨hp_at ht hP, hD⟩⟩, hS.F ht⟩) hS.2.2 dX7_wanted_132
      · have h := h.2 c_95
        refine lv_fconst0 hx hb dX7_wanted_98 ?_
        refine lv_aload_n hx hb dX7_wanted_99 rfl (lv_at hl 3 rfl) ?_
        refine kg (v := .ref (a 2)) S hE hP 0 rfl rfl 1 (by decide) q_4_15 rfl rfl inlX7 dX7_wanted_100 ?_
        refine lv_iconst (v := (0 : Int32)) hx hb dX7_wanted_103 (by decide) ?_
        refine kafl (v := (mf 0)) S hE hP 2 rfl (vi_0 (by decide)) tc_0 rfl dX7_wanted_104 ?_
        refine lv_aload_n hx hb dX7_wanted_105 rfl (lv_at hl 3 rfl) ?_
        refine lv_iload_n hx hb dX7_wanted_106 rfl (lv_at hl 0 rfl) ?_
        refine kc_Vf0 (As := [.int r_88]) (rest := [.float (mf 0), .float FP.fconst0]) S hE (ctX7_stopAt l G cy a mn mf mk mg mv mt mm r_88 _ h) q_22_3 q_22_4 q_22_5 q_1_5 q_22_6 rfl 0 rfl rfl ydX7_stopAt ⟨⟨rfl, rfl⟩, ⟨Nat.le_of_ble_eq_true rfl, Nat.le_of_ble_eq_true rfl⟩⟩ ⟨Nat.zero_le _, Nat.zero_le _⟩ hP hD hS rfl hl.1 rfl (Nat.le_of_ble_eq_true rfl) dX7_wanted_107 (fun r_107 u_107 H locs h hP hD hS => ?_)
        refine lv_fsub hx hb dX7_wanted_110 h.1 ?_
        have h := h.2
        refine lv_ldcf hx hb S.2.2.2.1 (S.2.2.2.2 _ q_21_22) dX7_wanted_111 ?_
        refine lv_fmul hx hb dX7_wanted_113 h.1 ?_
        have h := h.2
        refine lv_fsub hx hb dX7_wanted_114 h.1 ?_
        have h := h.2
        refine lv_fstore (lv' := [(4, .float (FP.fsub FP.fconst0 (FP.fmul (FP.fsub (mf 0) r_107) (1036831949 : UInt32)))), (3, .int r_88), (2, .float (FP.fneg r_82)), (1, .float r_7), (0, .ref (a 0))]) hx hb dX7_wanted_115 hl (by decide) rfl (fun ls hl => ?_)
        refine lv_fload hx hb dX7_wanted_117 (lv_at hl 0 rfl) ?_
        refine lv_fload_n hx hb dX7_wanted_119 rfl (lv_at hl 2 rfl) ?_
        refine lv_fcmp hx hb dX7_wanted_120 ?_
        refine lv_if_le (tgt := 129) hx hb dX7_wanted_121 (by decide) (fun c_121 => ?_) (fun c_121 => ?_)
        · have h := h.1 c_121
          refine lv_fload_n hx hb dX7_wanted_129 rfl (lv_at hl 2 rfl) ?_
          exact J_130 _ _ _ h _ _ _ hP hD hS (lv_sub hl [] rfl)
        · have h := h.2 c_121
          refine lv_fload hx hb dX7_wanted_124 (lv_at hl 0 rfl) ?_
          refine lv_goto (tgt := 130) hx hb dX7_wanted_126 (by decide) ?_
          exact J_130 _ _ _ h _ _ _ hP hD hS (lv_sub hl [] rfl)
    · have h := h.2 c_34
      refine lv_aload_n hx hb dX7_wanted_37 rfl (lv_at hl 1 rfl) ?_
      refine kg (v := .ref (a 1)) S hE hP 0 rfl rfl 0 (by decide) q_4_13 rfl rfl inlX7 dX7_wanted_38 ?_
      refine lv_iconst (v := (5 : Int32)) hx hb dX7_wanted_41 (by decide) ?_
      refine kail (v := (mn 5)) S hE hP 1 rfl (vi_5 (by decide)) tc_5 rfl dX7_wanted_42 ?_
      refine lv_bipush (v := (-5 : Int32)) hx hb dX7_wanted_43 (by decide) ?_
      refine lv_icmp_ne (tgt := 57) hx hb dX7_wanted_45 (by decide) (fun c_45 => ?_) (fun c_45 => ?_)
      · have h := h.1 c_45
        refine lv_aload_n hx hb dX7_wanted_57 rfl (lv_at hl 1 rfl) ?_
        refine lv_aload_n hx hb dX7_wanted_58 rfl (lv_at hl 1 rfl) ?_
        refine kg (v := .ref (a 1)) S hE hP 0 rfl rfl 0 (by decide) q_4_13 rfl rfl inlX7 dX7_wanted_59 ?_
        refine lv_iconst (v := (5 : Int32)) hx hb dX7_wanted_62 (by decide) ?_
        refine kail (v := (mn 5)) S hE hP 1 rfl (vi_5 (by decide)) tc_5 rfl dX7_wanted_63 ?_
        refine kc_Vf0 (As := [.int (mn 5)]) (rest := []) S hE (ctX7_stopAt l G cy a mn mf mk mg mv mt mm (mn 5) _ h) q_22_3 q_22_4 q_22_5 q_1_5 q_22_6 rfl 0 rfl rfl ydX7_stopAt ⟨⟨rfl, rfl⟩, ⟨Nat.le_of_ble_eq_true rfl, Nat.le_of_ble_eq_true rfl⟩⟩ ⟨Nat.zero_le _, Nat.zero_le _⟩ hP hD hS rfl hl.1 rfl (Nat.le_of_ble_eq_true rfl) dX7_wanted_64 (fun r_64 u_64 H locs h hP hD hS => ?_)
        exact J_67 _ _ _ h _ _ _ hP hD hS (lv_sub hl [1] rfl)
      · have h := h.2 c_45
        refine lv_aload_n hx hb dX7_wanted_48 rfl (lv_at hl 1 rfl) ?_
        refine kg (v := .ref (a 2)) S hE hP 0 rfl rfl 1 (by decide) q_4_15 rfl rfl inlX7 dX7_wanted_49 ?_
        refine lv_iconst (v := (4 : Int32)) hx hb dX7_wanted_52 (by decide) ?_
        refine kafl (v := (mf 4)) S hE hP 2 rfl (vi_4 (by decide)) tc_4 rfl dX7_wanted_53 ?_
        refine lv_goto (tgt := 67) hx hb dX7_wanted_54 (by decide) ?_
        exact J_67 _ _ _ h _ _ _ hP hD hS (lv_sub hl [1] rfl)
  · have h := h.2 c_18
    refine lv_aload_n hx hb dX7_wanted_21 rfl (lv_at hl 1 rfl) ?_
    refine lv_fload_n hx hb dX7_wanted_22 rfl (lv_at hl 0 rfl) ?_
    refine kc_Vf0 (As := [.float r_7]) (rest := []) S hE (ctX7_limitAt l G cy a mn mf mk mg mv mt mm r_7 _ h) q_10_4 q_10_5 q_10_6 q_1_5 q_10_7 rfl 0 rfl rfl ydX7_limitAt ⟨⟨rfl, rfl⟩, ⟨Nat.le_of_ble_eq_true rfl, Nat.le_of_ble_eq_true rfl⟩⟩ ⟨Nat.zero_le _, Nat.zero_le _⟩ hP hD hS rfl hl.1 rfl (Nat.le_of_ble_eq_true rfl) dX7_wanted_23 (fun r_23 u_23 H locs h hP hD hS => ?_)
    exact W.fret (v := r_23) hx hb hr (fun t ht hW => ⟨⟨r_23, (), rfl, h, ⟨hp_at ht hP, hD⟩⟩, hS.F ht⟩) hS.2.2 dX7_wanted_26
def vX7_moves (mf : Nat → UInt32) (p1 : UInt32) (p2 : UInt32) (K : (Nat → UInt32) → Prop) : Prop :=
  vf_n32 (FP.fadd (mf 2) p1) ∧ vf_n32 (FP.fadd (mf 3) p2) ∧ vf_n32 (FP.fadd (mf 0) (FP.fadd (mf 2) p1)) ∧ vf_n32 (FP.fadd (mf 1) (FP.fadd (mf 3) p2)) ∧ K (vf_upd (vf_upd (vf_upd (vf_upd mf 2 (FP.fadd (mf 2) p1)) 3 (FP.fadd (mf 3) p2)) 0 (FP.fadd (mf 0) (FP.fadd (mf 2) p1))) 1 (FP.fadd (mf 1) (FP.fadd (mf 3) p2)))
set_option maxRecDepth 100000 in
set_option maxHeartbeats 4000000 in
theorem ctX7_moves (l : Launch) (G : va_G) (cy : Nat → ClassId) (a : Nat → Nat) (mn : Nat → Int32) (mf : Nat → UInt32) (mk : Nat → Int32) (mg : Nat → UInt32) (mv : Nat → Int32) (mt : Nat → Int32) (mm : Nat → Int32) (p1 : UInt32) (p2 : UInt32) (K : (Nat → UInt32) → Prop) (h : vX7_moves mf p1 p2 K) : Met l yX7_moves (ws_ yX7_moves cX7_moves 3 none) ({ frames := 0, cells := 0, slots := 0, locals := 0 } : Room) (CP G cy [.ref (a 0), .float p1, .float p2] (md_W cy a mn mf mk mg mv mt mm)) (RV G K (fun u => md_W cy a mn u mk mg mv mt mm) (A1 (md_W cy a mn mf mk mg mv mt mm))) 0 0 (A1 (md_W cy a mn mf mk mg mv mt mm)) := by
  refine hd_go (Qf := fun A => (RV G K (fun u => md_W cy a mn u mk mg mv mt mm) A)) (by decide +kernel) (Nat.le_of_ble_eq_true rfl) ?_
  intro p e s m below meth c ls A hx hb hr hlocks S hE hP hD hS hl
  have hl : lv_has ls 3 [(0, .ref (a 0)), (1, .float p1), (2, .float p2)] := hl
  unfold vX7_moves at h
  refine lv_aload_n hx hb dX7_moves_0 rfl (lv_at hl 0 rfl) ?_
  refine kg (v := .ref (a 2)) S hE hP 0 rfl rfl 1 (by decide) q_4_15 rfl rfl inlX7 dX7_moves_1 ?_
  refine lv_iconst (v := (2 : Int32)) hx hb dX7_moves_4 (by decide) ?_
  refine lv_aload_n hx hb dX7_moves_5 rfl (lv_at hl 0 rfl) ?_
  refine kg (v := .ref (a 2)) S hE hP 0 rfl rfl 1 (by decide) q_4_15 rfl rfl inlX7 dX7_moves_6 ?_
  refine lv_iconst (v := (2 : Int32)) hx hb dX7_moves_9 (by decide) ?_
  refine kafl (v := (mf 2)) S hE hP 2 rfl (vi_2 (by decide)) tc_2 rfl dX7_moves_10 ?_
  refine lv_fload_n hx hb dX7_moves_11 rfl (lv_at hl 1 rfl) ?_
  refine lv_fadd hx hb dX7_moves_12 h.1 ?_
  have h := h.2
  refine kafs S hE hP hD hS 2 rfl (vi_2 (by decide)) tc_2 dX7_moves_13 (fun H locs hP hD hS => ?_)
  have hP : va_P G vwCl (md_W cy a mn (vf_upd mf 2 (FP.fadd (mf 2) p1)) mk mg mv mt mm) H := hP
  have hD : va_D A (md_W cy a mn (vf_upd mf 2 (FP.fadd (mf 2) p1)) mk mg mv mt mm) := hD
  refine lv_aload_n hx hb dX7_moves_14 rfl (lv_at hl 0 rfl) ?_
  refine kg (v := .ref (a 2)) S hE hP 0 rfl rfl 1 (by decide) q_4_15 rfl rfl inlX7 dX7_moves_15 ?_
  refine lv_iconst (v := (3 : Int32)) hx hb dX7_moves_18 (by decide) ?_
  refine lv_aload_n hx hb dX7_moves_19 rfl (lv_at hl 0 rfl) ?_
  refine kg (v := .ref (a 2)) S hE hP 0 rfl rfl 1 (by decide) q_4_15 rfl rfl inlX7 dX7_moves_20 ?_
  refine lv_iconst (v := (3 : Int32)) hx hb dX7_moves_23 (by decide) ?_
  refine kafl (v := (mf 3)) S hE hP 2 rfl (vi_3 (by decide)) tc_3 rfl dX7_moves_24 ?_
  refine lv_fload_n hx hb dX7_moves_25 rfl (lv_at hl 2 rfl) ?_
  refine lv_fadd hx hb dX7_moves_26 h.1 ?_
  have h := h.2
  refine kafs S hE hP hD hS 2 rfl (vi_3 (by decide)) tc_3 dX7_moves_27 (fun H locs hP hD hS => ?_)
  have hP : va_P G vwCl (md_W cy a mn (vf_upd (vf_upd mf 2 (FP.fadd (mf 2) p1)) 3 (FP.fadd (mf 3) p2)) mk mg mv mt mm) H := hP
  have hD : va_D A (md_W cy a mn (vf_upd (vf_upd mf 2 (FP.fadd (mf 2) p1)) 3 (FP.fadd (mf 3) p2)) mk mg mv mt mm) := hD
  refine lv_aload_n hx hb dX7_moves_28 rfl (lv_at hl 0 rfl) ?_
  refine kg (v := .ref (a 2)) S hE hP 0 rfl rfl 1 (by decide) q_4_15 rfl rfl inlX7 dX7_moves_29 ?_
  refine lv_iconst (v := (0 : Int32)) hx hb dX7_moves_32 (by decide) ?_
  refine lv_aload_n hx hb dX7_moves_33 rfl (lv_at hl 0 rfl) ?_
  refine kg (v := .ref (a 2)) S hE hP 0 rfl rfl 1 (by decide) q_4_15 rfl rfl inlX7 dX7_moves_34 ?_
  refine lv_iconst (v := (0 : Int32)) hx hb dX7_moves_37 (by decide) ?_
  refine kafl (v := (mf 0)) S hE hP 2 rfl (vi_0 (by decide)) tc_0 rfl dX7_moves_38 ?_
  refine lv_aload_n hx hb dX7_moves_39 rfl (lv_at hl 0 rfl) ?_
  refine kg (v := .ref (a 2)) S hE hP 0 rfl rfl 1 (by decide) q_4_15 rfl rfl inlX7 dX7_moves_40 ?_
  refine lv_iconst (v := (2 : Int32)) hx hb dX7_moves_43 (by decide) ?_
  refine kafl (v := (FP.fadd (mf 2) p1)) S hE hP 2 rfl (vi_2 (by decide)) tc_2 rfl dX7_moves_44 ?_
  refine lv_fadd hx hb dX7_moves_45 h.1 ?_
  have h := h.2
  refine kafs S hE hP hD hS 2 rfl (vi_0 (by decide)) tc_0 dX7_moves_46 (fun H locs hP hD hS => ?_)
  have hP : va_P G vwCl (md_W cy a mn (vf_upd (vf_upd (vf_upd mf 2 (FP.fadd (mf 2) p1)) 3 (FP.fadd (mf 3) p2)) 0 (FP.fadd (mf 0) (FP.fadd (mf 2) p1))) mk mg mv mt mm) H := hP
  have hD : va_D A (md_W cy a mn (vf_upd (vf_upd (vf_upd mf 2 (FP.fadd (mf 2) p1)) 3 (FP.fadd (mf 3) p2)) 0 (FP.fadd (mf 0) (FP.fadd (mf 2) p1))) mk mg mv mt mm) := hD
  refine lv_aload_n hx hb dX7_moves_47 rfl (lv_at hl 0 rfl) ?_
  refine kg (v := .ref (a 2)) S hE hP 0 rfl rfl 1 (by decide) q_4_15 rfl rfl inlX7 dX7_moves_48 ?_
  refine lv_iconst (v := (1 : Int32)) hx hb dX7_moves_51 (by decide) ?_
  refine lv_aload_n hx hb dX7_moves_52 rfl (lv_at hl 0 rfl) ?_
  refine kg (v := .ref (a 2)) S hE hP 0 rfl rfl 1 (by decide) q_4_15 rfl rfl inlX7 dX7_moves_53 ?_
  refine lv_iconst (v := (1 : Int32)) hx hb dX7_moves_56 (by decide) ?_
  refine kafl (v := (mf 1)) S hE hP 2 rfl (vi_1 (by decide)) tc_1 rfl dX7_moves_57 ?_
  refine lv_aload_n hx hb dX7_moves_58 rfl (lv_at hl 0 rfl) ?_
  refine kg (v := .ref (a 2)) S hE hP 0 rfl rfl 1 (by decide) q_4_15 rfl rfl inlX7 dX7_moves_59 ?_
  refine lv_iconst (v := (3 : Int32)) hx hb dX7_moves_62 (by decide) ?_
  refine kafl (v := (FP.fadd (mf 3) p2)) S hE hP 2 rfl (vi_3 (by decide)) tc_3 rfl dX7_moves_63 ?_
  refine lv_fadd hx hb dX7_moves_64 h.1 ?_
  have h := h.2
  refine kafs S hE hP hD hS 2 rfl (vi_1 (by decide)) tc_1 dX7_moves_65 (fun H locs hP hD hS => ?_)
  have hP : va_P G vwCl (md_W cy a mn (vf_upd (vf_upd (vf_upd (vf_upd mf 2 (FP.fadd (mf 2) p1)) 3 (FP.fadd (mf 3) p2)) 0 (FP.fadd (mf 0) (FP.fadd (mf 2) p1))) 1 (FP.fadd (mf 1) (FP.fadd (mf 3) p2))) mk mg mv mt mm) H := hP
  have hD : va_D A (md_W cy a mn (vf_upd (vf_upd (vf_upd (vf_upd mf 2 (FP.fadd (mf 2) p1)) 3 (FP.fadd (mf 3) p2)) 0 (FP.fadd (mf 0) (FP.fadd (mf 2) p1))) 1 (FP.fadd (mf 1) (FP.fadd (mf 3) p2))) mk mg mv mt mm) := hD
  exact W.vret hx hb hr (fun t ht hW => ⟨⟨(vf_upd (vf_upd (vf_upd (vf_upd mf 2 (FP.fadd (mf 2) p1)) 3 (FP.fadd (mf 3) p2)) 0 (FP.fadd (mf 0) (FP.fadd (mf 2) p1))) 1 (FP.fadd (mf 1) (FP.fadd (mf 3) p2))), rfl, h, ⟨hp_at ht hP, hD⟩⟩, hS.F ht⟩) hS.2.2 dX7_moves_66
def vX7_guides_68 (mn : Nat → Int32) (mf : Nat → UInt32) (x1 : UInt32) (x3 : UInt32) (K : (Nat → UInt32) → Prop)  : Prop :=
  vf_n32 (FP.fmul (mf 1) (1028443341 : UInt32)) ∧ vf_n32 (FP.fsub FP.fconst0 (FP.fmul (mf 1) (1028443341 : UInt32))) ∧ vf_n32 (FP.fsub (FP.fsub FP.fconst0 (FP.fmul (mf 1) (1028443341 : UInt32))) (mf 3)) ∧ vX7_held (FP.fsub (FP.fsub FP.fconst0 (FP.fmul (mf 1) (1028443341 : UInt32))) (mf 3)) (FP.fneg x1) x1 (fun r_89 u_89 => vX7_moves mf x3 r_89 (fun u_98 => K u_98))
def vX7_guides (mn : Nat → Int32) (mf : Nat → UInt32) (K : (Nat → UInt32) → Prop) : Prop :=
  vX7_thousandth (mn 16) (fun r_7 u_7 => vX7_thousandth (mn 17) (fun r_18 u_18 => vX7_wanted mn mf (fun r_23 u_23 => vf_n32 (FP.fsub r_23 (mf 2)) ∧ vX7_held (FP.fsub r_23 (mf 2)) (FP.fneg r_7) r_7 (fun r_36 u_36 => ((fcl r_36 r_18) ≤ (0 : Int32) → vX7_guides_68 mn mf r_7 r_36 K ) ∧ (¬ (fcl r_36 r_18) ≤ (0 : Int32) → vX7_metres (mn 15) (fun r_59 u_59 => ((0 : Int32) ≤ (fcg (mf 0) r_59) → vX7_guides_68 mn mf r_7 r_36 K ) ∧ (¬ (0 : Int32) ≤ (fcg (mf 0) r_59) → vX7_guides_68 mn mf r_7 r_18 K )))))))
set_option maxRecDepth 100000 in
set_option maxHeartbeats 4000000 in
theorem ctX7_guides (l : Launch) (G : va_G) (cy : Nat → ClassId) (a : Nat → Nat) (mn : Nat → Int32) (mf : Nat → UInt32) (mk : Nat → Int32) (mg : Nat → UInt32) (mv : Nat → Int32) (mt : Nat → Int32) (mm : Nat → Int32)  (K : (Nat → UInt32) → Prop) (h : vX7_guides mn mf K) : Met l yX7_guides (ws_ yX7_guides cX7_guides 5 none) ({ frames := 4, cells := 0, slots := 0, locals := 92 } : Room) (CP G cy [.ref (a 0)] (md_W cy a mn mf mk mg mv mt mm)) (RV G K (fun u => md_W cy a mn u mk mg mv mt mm) (A1 (md_W cy a mn mf mk mg mv mt mm))) 0 0 (A1 (md_W cy a mn mf mk mg mv mt mm)) := by
  refine hd_go (Qf := fun A => (RV G K (fun u => md_W cy a mn u mk mg mv mt mm) A)) (by decide +kernel) (Nat.le_of_ble_eq_true rfl) ?_
  intro p e s m below meth c ls A hx hb hr hlocks S hE hP hD hS hl
  have hl : lv_has ls 5 [(0, .ref (a 0))] := hl
  unfold vX7_guides at h
  have J_68 : ∀ (mn : Nat → Int32) (mf : Nat → UInt32) (x1 : UInt32) (x3 : UInt32), vX7_guides_68 mn mf x1 x3 K  → ∀ (H : Heap) (locs : List Loc) (ls : Array Slot), va_P G vwCl (md_W cy a mn mf mk mg mv mt mm) H → va_D A (md_W cy a mn mf mk mg mv mt mm) → va_S A s.heap H locs → lv_has ls 5 [(0, .ref (a 0)), (1, .float x1), (3, .float x3)] → W p l e (headSpec (ws_ yX7_guides cX7_guides 5 none) ({ frames := 4, cells := 0, slots := 0, locals := 92 } : Room)).room s m ([.ref (a 0)] : List Value).toArray below meth c H locs 0 0 (MQ below (RV G K (fun u => md_W cy a mn u mk mg mv mt mm) A) ([.ref (a 0)] : List Value).toArray s 0 0 A) (F0 m 68 ls []) := by
    intro mn mf x1 x3 h H locs ls hP hD hS hl
    unfold vX7_guides_68 at h
    refine lv_fconst0 hx hb dX7_guides_68 ?_
    refine lv_aload_n hx hb dX7_guides_69 rfl (lv_at hl 0 rfl) ?_
    refine kg (v := .ref (a 2)) S hE hP 0 rfl rfl 1 (by decide) q_4_15 rfl rfl inlX7 dX7_guides_70 ?_
    refine lv_iconst (v := (1 : Int32)) hx hb dX7_guides_73 (by decide) ?_
    refine kafl (v := (mf 1)) S hE hP 2 rfl (vi_1 (by decide)) tc_1 rfl dX7_guides_74 ?_
    refine lv_ldcf hx hb S.2.2.2.1 (S.2.2.2.2 _ q_21_17) dX7_guides_75 ?_
    refine lv_fmul hx hb dX7_guides_77 h.1 ?_
    have h := h.2
    refine lv_fsub hx hb dX7_guides_78 h.1 ?_
    have h := h.2
    refine lv_aload_n hx hb dX7_guides_79 rfl (lv_at hl 0 rfl) ?_
    refine kg (v := .ref (a 2)) S hE hP 0 rfl rfl 1 (by decide) q_4_15 rfl rfl inlX7 dX7_guides_80 ?_
    refine lv_iconst (v := (3 : Int32)) hx hb dX7_guides_83 (by decide) ?_
    refine kafl (v := (mf 3)) S hE hP 2 rfl (vi_3 (by decide)) tc_3 rfl dX7_guides_84 ?_
    refine lv_fsub hx hb dX7_guides_85 h.1 ?_
    have h := h.2
    refine lv_fload_n hx hb dX7_guides_86 rfl (lv_at hl 1 rfl) ?_
    refine lv_fneg hx hb dX7_guides_87 ?_
    refine lv_fload_n hx hb dX7_guides_88 rfl (lv_at hl 1 rfl) ?_
    refine kc_SfE (As := [.float (FP.fsub (FP.fsub FP.fconst0 (FP.fmul (mf 1) (1028443341 : UInt32))) (mf 3)), .float (FP.fneg x1), .float x1]) (rest := []) S hE (ctX7_held l G cy   (FP.fsub (FP.fsub FP.fconst0 (FP.fmul (mf 1) (1028443341 : UInt32))) (mf 3)) (FP.fneg x1) x1 _ h) q_22_11 q_22_12 q_1_5 q_22_13 ydX7_held ⟨⟨rfl, rfl⟩, ⟨Nat.le_of_ble_eq_true rfl, Nat.le_of_ble_eq_true rfl⟩⟩ ⟨Nat.zero_le _, Nat.zero_le _⟩ hP hD hS (fun _ => rfl) rfl hl.1 rfl (Nat.le_of_ble_eq_true rfl) dX7_guides_89 (fun r_89 u_89 H locs h hP hD hS => ?_)
    refine lv_fstore (lv' := [(4, .float r_89), (0, .ref (a 0)), (1, .float x1), (3, .float x3)]) hx hb dX7_guides_92 hl (by decide) rfl (fun ls hl => ?_)
    refine lv_aload_n hx hb dX7_guides_94 rfl (lv_at hl 1 rfl) ?_
    refine lv_fload_n hx hb dX7_guides_95 rfl (lv_at hl 3 rfl) ?_
    refine lv_fload hx hb dX7_guides_96 (lv_at hl 0 rfl) ?_
    refine kc_Vv0 (As := [.float x3, .float r_89]) (rest := []) S hE (ctX7_moves l G cy a mn mf mk mg mv mt mm x3 r_89 _ h) q_21_9 q_21_10 q_21_11 q_1_5 q_21_12 rfl 0 rfl rfl ydX7_moves ⟨⟨rfl, rfl⟩, ⟨Nat.le_of_ble_eq_true rfl, Nat.le_of_ble_eq_true rfl⟩⟩ ⟨Nat.zero_le _, Nat.zero_le _⟩ hP hD hS rfl hl.1 rfl (Nat.le_of_ble_eq_true rfl) dX7_guides_98 (fun u_98 H locs h hP hD hS => ?_)
    exact W.vret hx hb hr (fun t ht hW => ⟨⟨u_98, rfl, h, ⟨hp_at ht hP, hD⟩⟩, hS.F ht⟩) hS.2.2 dX7_guides_101
  refine lv_aload_n hx hb dX7_guides_0 rfl (lv_at hl 0 rfl) ?_
  refine kg (v := .ref (a 1)) S hE hP 0 rfl rfl 0 (by decide) q_4_13 rfl rfl inlX7 dX7_guides_1 ?_
  refine lv_bipush (v := (16 : Int32)) hx hb dX7_guides_4 (by decide) ?_
  refine kail (v := (mn 16)) S hE hP 1 rfl (vi_16 (by decide)) tc_16 rfl dX7_guides_6 ?_
  refine kc_SfE (As := [.int (mn 16)]) (rest := []) S hE (ctX7_thousandth l G cy   (mn 16) _ h) q_9_8 q_9_9 q_1_5 q_9_10 ydX7_thousandth ⟨⟨rfl, rfl⟩, ⟨Nat.le_of_ble_eq_true rfl, Nat.le_of_ble_eq_true rfl⟩⟩ ⟨Nat.zero_le _, Nat.zero_le _⟩ hP hD hS (fun _ => rfl) rfl hl.1 rfl (Nat.le_of_ble_eq_true rfl) dX7_guides_7 (fun r_7 u_7 H locs h hP hD hS => ?_)
  refine lv_fstore_n (lv' := [(1, .float r_7), (0, .ref (a 0))]) hx hb dX7_guides_10 rfl hl (by decide) rfl (fun ls hl => ?_)
  refine lv_aload_n hx hb dX7_guides_11 rfl (lv_at hl 1 rfl) ?_
  refine kg (v := .ref (a 1)) S hE hP 0 rfl rfl 0 (by decide) q_4_13 rfl rfl inlX7 dX7_guides_12 ?_
  refine lv_bipush (v := (17 : Int32)) hx hb dX7_guides_15 (by decide) ?_
  refine kail (v := (mn 17)) S hE hP 1 rfl (vi_17 (by decide)) tc_17 rfl dX7_guides_17 ?_
  refine kc_SfE (As := [.int (mn 17)]) (rest := []) S hE (ctX7_thousandth l G cy   (mn 17) _ h) q_9_8 q_9_9 q_1_5 q_9_10 ydX7_thousandth ⟨⟨rfl, rfl⟩, ⟨Nat.le_of_ble_eq_true rfl, Nat.le_of_ble_eq_true rfl⟩⟩ ⟨Nat.zero_le _, Nat.zero_le _⟩ hP hD hS (fun _ => rfl) rfl hl.1 rfl (Nat.le_of_ble_eq_true rfl) dX7_guides_18 (fun r_18 u_18 H locs h hP hD hS => ?_)
  refine lv_fstore_n (lv' := [(2, .float r_18), (1, .float r_7), (0, .ref (a 0))]) hx hb dX7_guides_21 rfl hl (by decide) rfl (fun ls hl => ?_)
  refine lv_aload_n hx hb dX7_guides_22 rfl (lv_at hl 2 rfl) ?_
  refine kc_Vf0 (As := []) (rest := []) S hE (ctX7_wanted l G cy a mn mf mk mg mv mt mm  _ h) q_21_18 q_21_19 q_21_20 q_1_5 q_21_21 rfl 0 rfl rfl ydX7_wanted ⟨⟨rfl, rfl⟩, ⟨Nat.le_of_ble_eq_true rfl, Nat.le_of_ble_eq_true rfl⟩⟩ ⟨Nat.zero_le _, Nat.zero_le _⟩ hP hD hS rfl hl.1 rfl (Nat.le_of_ble_eq_true rfl) dX7_guides_23 (fun r_23 u_23 H locs h hP hD hS => ?_)
  refine lv_aload_n hx hb dX7_guides_26 rfl (lv_at hl 2 rfl) ?_
  refine kg (v := .ref (a 2)) S hE hP 0 rfl rfl 1 (by decide) q_4_15 rfl rfl inlX7 dX7_guides_27 ?_
  refine lv_iconst (v := (2 : Int32)) hx hb dX7_guides_30 (by decide) ?_
  refine kafl (v := (mf 2)) S hE hP 2 rfl (vi_2 (by decide)) tc_2 rfl dX7_guides_31 ?_
  refine lv_fsub hx hb dX7_guides_32 h.1 ?_
  have h := h.2
  refine lv_fload_n hx hb dX7_guides_33 rfl (lv_at hl 1 rfl) ?_
  refine lv_fneg hx hb dX7_guides_34 ?_
  refine lv_fload_n hx hb dX7_guides_35 rfl (lv_at hl 1 rfl) ?_
  refine kc_SfE (As := [.float (FP.fsub r_23 (mf 2)), .float (FP.fneg r_7), .float r_7]) (rest := []) S hE (ctX7_held l G cy   (FP.fsub r_23 (mf 2)) (FP.fneg r_7) r_7 _ h) q_22_11 q_22_12 q_1_5 q_22_13 ydX7_held ⟨⟨rfl, rfl⟩, ⟨Nat.le_of_ble_eq_true rfl, Nat.le_of_ble_eq_true rfl⟩⟩ ⟨Nat.zero_le _, Nat.zero_le _⟩ hP hD hS (fun _ => rfl) rfl hl.1 rfl (Nat.le_of_ble_eq_true rfl) dX7_guides_36 (fun r_36 u_36 H locs h hP hD hS => ?_)
  refine lv_fstore_n (lv' := [(3, .float r_36), (2, .float r_18), (1, .float r_7), (0, .ref (a 0))]) hx hb dX7_guides_39 rfl hl (by decide) rfl (fun ls hl => ?_)
  refine lv_fload_n hx hb dX7_guides_40 rfl (lv_at hl 0 rfl) ?_
  refine lv_fload_n hx hb dX7_guides_41 rfl (lv_at hl 1 rfl) ?_
  refine lv_fcmp hx hb dX7_guides_42 ?_
  refine lv_if_le (tgt := 68) hx hb dX7_guides_43 (by decide) (fun c_43 => ?_) (fun c_43 => ?_)
  · have h := h.1 c_43
    exact J_68 _ _ _ _ h _ _ _ hP hD hS (lv_sub hl [3, 2, 0] rfl)
  · have h := h.2 c_43
    refine lv_aload_n hx hb dX7_guides_46 rfl (lv_at hl 3 rfl) ?_
    refine kg (v := .ref (a 2)) S hE hP 0 rfl rfl 1 (by decide) q_4_15 rfl rfl inlX7 dX7_guides_47 ?_
    refine lv_iconst (v := (0 : Int32)) hx hb dX7_guides_50 (by decide) ?_
    refine kafl (v := (mf 0)) S hE hP 2 rfl (vi_0 (by decide)) tc_0 rfl dX7_guides_51 ?_
    refine lv_aload_n hx hb dX7_guides_52 rfl (lv_at hl 3 rfl) ?_
    refine kg (v := .ref (a 1)) S hE hP 0 rfl rfl 0 (by decide) q_4_13 rfl rfl inlX7 dX7_guides_53 ?_
    refine lv_bipush (v := (15 : Int32)) hx hb dX7_guides_56 (by decide) ?_
    refine kail (v := (mn 15)) S hE hP 1 rfl (vi_15 (by decide)) tc_15 rfl dX7_guides_58 ?_
    refine kc_SfE (As := [.int (mn 15)]) (rest := [.float (mf 0)]) S hE (ctX7_metres l G cy   (mn 15) _ h) q_9_5 q_9_6 q_1_5 q_9_7 ydX7_metres ⟨⟨rfl, rfl⟩, ⟨Nat.le_of_ble_eq_true rfl, Nat.le_of_ble_eq_true rfl⟩⟩ ⟨Nat.zero_le _, Nat.zero_le _⟩ hP hD hS (fun _ => rfl) rfl hl.1 rfl (Nat.le_of_ble_eq_true rfl) dX7_guides_59 (fun r_59 u_59 H locs h hP hD hS => ?_)
    refine lv_fcmp hx hb dX7_guides_62 ?_
    refine lv_if_ge (tgt := 68) hx hb dX7_guides_63 (by decide) (fun c_63 => ?_) (fun c_63 => ?_)
    · have h := h.1 c_63
      exact J_68 _ _ _ _ h _ _ _ hP hD hS (lv_sub hl [3, 2, 0] rfl)
    · have h := h.2 c_63
      refine lv_fload_n hx hb dX7_guides_66 rfl (lv_at hl 1 rfl) ?_
      refine lv_fstore_n (lv' := [(3, .float r_18), (2, .float r_18), (1, .float r_7), (0, .ref (a 0))]) hx hb dX7_guides_67 rfl hl (by decide) rfl (fun ls hl => ?_)
      exact J_68 _ _ _ _ h _ _ _ hP hD hS (lv_sub hl [3, 2, 0] rfl)
def vX7_arrives_76 (mn : Nat → Int32) (mf : Nat → UInt32) (y1 : Int32) (y2 : Int32) (K : ((Nat → Int32) × (Nat → UInt32)) → Prop)  : Prop :=
  vp_in y1 40 ∧ K ((upd (upd mn (Int32.toNatClampNeg y1) y2) 5 (-5 : Int32)), (vf_upd (vf_upd (vf_upd mf 0 FP.fconst0) 2 FP.fconst0) 3 FP.fconst0))
def vX7_arrives_61 (mn : Nat → Int32) (mf : Nat → UInt32) (y0 : Int32) (K : ((Nat → Int32) × (Nat → UInt32)) → Prop)  : Prop :=
  (y0 = (0 : Int32) → vX7_arrives_76 mn mf (0 : Int32) (5 : Int32) K ) ∧ (¬ y0 = (0 : Int32) → vX7_arrives_76 mn mf (0 : Int32) (4 : Int32) K )
def vX7_arrives_60 (mn : Nat → Int32) (mf : Nat → UInt32) (K : ((Nat → Int32) × (Nat → UInt32)) → Prop)  : Prop :=
  vX7_arrives_61 mn mf (0 : Int32) K 
def vX7_arrives_28 (mn : Nat → Int32) (mf : Nat → UInt32) (y0 : Int32) (K : ((Nat → Int32) × (Nat → UInt32)) → Prop)  : Prop :=
  (y0 = (0 : Int32) → vX7_arrives_60 mn mf K ) ∧ (¬ y0 = (0 : Int32) → vX7_sizeOf (mf 1) (fun r_39 u_39 => vX7_metres (mn 13) (fun r_49 u_49 => ((0 : Int32) < (fcg r_39 r_49) → vX7_arrives_60 mn mf K ) ∧ (¬ (0 : Int32) < (fcg r_39 r_49) → vX7_arrives_61 mn mf (1 : Int32) K ))))
def vX7_arrives (mn : Nat → Int32) (mf : Nat → UInt32) (K : ((Nat → Int32) × (Nat → UInt32)) → Prop) : Prop :=
  vX7_sizeOf (mf 2) (fun r_6 u_6 => vX7_thousandth (mn 19) (fun r_16 u_16 => ((0 : Int32) < (fcg r_6 r_16) → vX7_arrives_28 mn mf (0 : Int32) K ) ∧ (¬ (0 : Int32) < (fcg r_6 r_16) → vX7_arrives_28 mn mf (1 : Int32) K )))
set_option maxRecDepth 100000 in
set_option maxHeartbeats 4000000 in
theorem ctX7_arrives (l : Launch) (G : va_G) (cy : Nat → ClassId) (a : Nat → Nat) (mn : Nat → Int32) (mf : Nat → UInt32) (mk : Nat → Int32) (mg : Nat → UInt32) (mv : Nat → Int32) (mt : Nat → Int32) (mm : Nat → Int32)  (K : ((Nat → Int32) × (Nat → UInt32)) → Prop) (h : vX7_arrives mn mf K) : Met l yX7_arrives (ws_ yX7_arrives cX7_arrives 3 none) ({ frames := 1, cells := 0, slots := 0, locals := 20 } : Room) (CP G cy [.ref (a 0)] (md_W cy a mn mf mk mg mv mt mm)) (RV G K (fun u => md_W cy a u.1 u.2 mk mg mv mt mm) (A1 (md_W cy a mn mf mk mg mv mt mm))) 0 0 (A1 (md_W cy a mn mf mk mg mv mt mm)) := by
  refine hd_go (Qf := fun A => (RV G K (fun u => md_W cy a u.1 u.2 mk mg mv mt mm) A)) (by decide +kernel) (Nat.le_of_ble_eq_true rfl) ?_
  intro p e s m below meth c ls A hx hb hr hlocks S hE hP hD hS hl
  have hl : lv_has ls 3 [(0, .ref (a 0))] := hl
  unfold vX7_arrives at h
  have J_76 : ∀ (mn : Nat → Int32) (mf : Nat → UInt32) (y1 : Int32) (y2 : Int32), vX7_arrives_76 mn mf y1 y2 K  → ∀ (H : Heap) (locs : List Loc) (ls : Array Slot), va_P G vwCl (md_W cy a mn mf mk mg mv mt mm) H → va_D A (md_W cy a mn mf mk mg mv mt mm) → va_S A s.heap H locs → lv_has ls 3 [(0, .ref (a 0))] → W p l e (headSpec (ws_ yX7_arrives cX7_arrives 3 none) ({ frames := 1, cells := 0, slots := 0, locals := 20 } : Room)).room s m ([.ref (a 0)] : List Value).toArray below meth c H locs 0 0 (MQ below (RV G K (fun u => md_W cy a u.1 u.2 mk mg mv mt mm) A) ([.ref (a 0)] : List Value).toArray s 0 0 A) (F0 m 76 ls [.int y2, .int y1, .ref (a 1)]) := by
    intro mn mf y1 y2 h H locs ls hP hD hS hl
    unfold vX7_arrives_76 at h
    refine kais S hE hP hD hS 1 rfl h.1 rfl dX7_arrives_76 (fun H locs hP hD hS => ?_)
    have h := h.2
    have hP : va_P G vwCl (md_W cy a (upd mn (Int32.toNatClampNeg y1) y2) mf mk mg mv mt mm) H := hP
    have hD : va_D A (md_W cy a (upd mn (Int32.toNatClampNeg y1) y2) mf mk mg mv mt mm) := hD
    refine lv_aload_n hx hb dX7_arrives_77 rfl (lv_at hl 0 rfl) ?_
    refine kg (v := .ref (a 1)) S hE hP 0 rfl rfl 0 (by decide) q_4_13 rfl rfl inlX7 dX7_arrives_78 ?_
    refine lv_iconst (v := (5 : Int32)) hx hb dX7_arrives_81 (by decide) ?_
    refine lv_bipush (v := (-5 : Int32)) hx hb dX7_arrives_82 (by decide) ?_
    refine kais S hE hP hD hS 1 rfl (vi_5 (by decide)) tc_5 dX7_arrives_84 (fun H locs hP hD hS => ?_)
    have hP : va_P G vwCl (md_W cy a (upd (upd mn (Int32.toNatClampNeg y1) y2) 5 (-5 : Int32)) mf mk mg mv mt mm) H := hP
    have hD : va_D A (md_W cy a (upd (upd mn (Int32.toNatClampNeg y1) y2) 5 (-5 : Int32)) mf mk mg mv mt mm) := hD
    refine lv_aload_n hx hb dX7_arrives_85 rfl (lv_at hl 0 rfl) ?_
    refine kg (v := .ref (a 2)) S hE hP 0 rfl rfl 1 (by decide) q_4_15 rfl rfl inlX7 dX7_arrives_86 ?_
    refine lv_iconst (v := (0 : Int32)) hx hb dX7_arrives_89 (by decide) ?_
    refine lv_fconst0 hx hb dX7_arrives_90 ?_
    refine kafs S hE hP hD hS 2 rfl (vi_0 (by decide)) tc_0 dX7_arrives_91 (fun H locs hP hD hS => ?_)
    have hP : va_P G vwCl (md_W cy a (upd (upd mn (Int32.toNatClampNeg y1) y2) 5 (-5 : Int32)) (vf_upd mf 0 FP.fconst0) mk mg mv mt mm) H := hP
    have hD : va_D A (md_W cy a (upd (upd mn (Int32.toNatClampNeg y1) y2) 5 (-5 : Int32)) (vf_upd mf 0 FP.fconst0) mk mg mv mt mm) := hD
    refine lv_aload_n hx hb dX7_arrives_92 rfl (lv_at hl 0 rfl) ?_
    refine kg (v := .ref (a 2)) S hE hP 0 rfl rfl 1 (by decide) q_4_15 rfl rfl inlX7 dX7_arrives_93 ?_
    refine lv_iconst (v := (2 : Int32)) hx hb dX7_arrives_96 (by decide) ?_
    refine lv_fconst0 hx hb dX7_arrives_97 ?_
    refine kafs S hE hP hD hS 2 rfl (vi_2 (by decide)) tc_2 dX7_arrives_98 (fun H locs hP hD hS => ?_)
    have hP : va_P G vwCl (md_W cy a (upd (upd mn (Int32.toNatClampNeg y1) y2) 5 (-5 : Int32)) (vf_upd (vf_upd mf 0 FP.fconst0) 2 FP.fconst0) mk mg mv mt mm) H := hP
    have hD : va_D A (md_W cy a (upd (upd mn (Int32.toNatClampNeg y1) y2) 5 (-5 : Int32)) (vf_upd (vf_upd mf 0 FP.fconst0) 2 FP.fconst0) mk mg mv mt mm) := hD
    refine lv_aload_n hx hb dX7_arrives_99 rfl (lv_at hl 0 rfl) ?_
    refine kg (v := .ref (a 2)) S hE hP 0 rfl rfl 1 (by decide) q_4_15 rfl rfl inlX7 dX7_arrives_100 ?_
    refine lv_iconst (v := (3 : Int32)) hx hb dX7_arrives_103 (by decide) ?_
    refine lv_fconst0 hx hb dX7_arrives_104 ?_
    refine kafs S hE hP hD hS 2 rfl (vi_3 (by decide)) tc_3 dX7_arrives_105 (fun H locs hP hD hS => ?_)
    have hP : va_P G vwCl (md_W cy a (upd (upd mn (Int32.toNatClampNeg y1) y2) 5 (-5 : Int32)) (vf_upd (vf_upd (vf_upd mf 0 FP.fconst0) 2 FP.fconst0) 3 FP.fconst0) mk mg mv mt mm) H := hP
    have hD : va_D A (md_W cy a (upd (upd mn (Int32.toNatClampNeg y1) y2) 5 (-5 : Int32)) (vf_upd (vf_upd (vf_upd mf 0 FP.fconst0) 2 FP.fconst0) 3 FP.fconst0) mk mg mv mt mm) := hD
    exact W.vret hx hb hr (fun t ht hW => ⟨⟨((upd (upd mn (Int32.toNatClampNeg y1) y2) 5 (-5 : Int32)), (vf_upd (vf_upd (vf_upd mf 0 FP.fconst0) 2 FP.fconst0) 3 FP.fconst0)), rfl, h, ⟨hp_at ht hP, hD⟩⟩, hS.F ht⟩) hS.2.2 dX7_arrives_106
  have J_61 : ∀ (mn : Nat → Int32) (mf : Nat → UInt32) (y0 : Int32), vX7_arrives_61 mn mf y0 K  → ∀ (H : Heap) (locs : List Loc) (ls : Array Slot), va_P G vwCl (md_W cy a mn mf mk mg mv mt mm) H → va_D A (md_W cy a mn mf mk mg mv mt mm) → va_S A s.heap H locs → lv_has ls 3 [(0, .ref (a 0))] → W p l e (headSpec (ws_ yX7_arrives cX7_arrives 3 none) ({ frames := 1, cells := 0, slots := 0, locals := 20 } : Room)).room s m ([.ref (a 0)] : List Value).toArray below meth c H locs 0 0 (MQ below (RV G K (fun u => md_W cy a u.1 u.2 mk mg mv mt mm) A) ([.ref (a 0)] : List Value).toArray s 0 0 A) (F0 m 61 ls [.int y0]) := by
    intro mn mf y0 h H locs ls hP hD hS hl
    unfold vX7_arrives_61 at h
    refine lv_istore_n (lv' := [(2, .int y0), (0, .ref (a 0))]) hx hb dX7_arrives_61 rfl hl (by decide) rfl (fun ls hl => ?_)
    refine lv_aload_n hx hb dX7_arrives_62 rfl (lv_at hl 1 rfl) ?_
    refine kg (v := .ref (a 1)) S hE hP 0 rfl rfl 0 (by decide) q_4_13 rfl rfl inlX7 dX7_arrives_63 ?_
    refine lv_iconst (v := (0 : Int32)) hx hb dX7_arrives_66 (by decide) ?_
    refine lv_iload_n hx hb dX7_arrives_67 rfl (lv_at hl 0 rfl) ?_
    refine lv_if_eq (tgt := 75) hx hb dX7_arrives_68 (by decide) (fun c_68 => ?_) (fun c_68 => ?_)
    · have h := h.1 c_68
      refine lv_iconst (v := (5 : Int32)) hx hb dX7_arrives_75 (by decide) ?_
      exact J_76 _ _ _ _ h _ _ _ hP hD hS (lv_sub hl [1] rfl)
    · have h := h.2 c_68
      refine lv_iconst (v := (4 : Int32)) hx hb dX7_arrives_71 (by decide) ?_
      refine lv_goto (tgt := 76) hx hb dX7_arrives_72 (by decide) ?_
      exact J_76 _ _ _ _ h _ _ _ hP hD hS (lv_sub hl [1] rfl)
  have J_60 : ∀ (mn : Nat → Int32) (mf : Nat → UInt32), vX7_arrives_60 mn mf K  → ∀ (H : Heap) (locs : List Loc) (ls : Array Slot), va_P G vwCl (md_W cy a mn mf mk mg mv mt mm) H → va_D A (md_W cy a mn mf mk mg mv mt mm) → va_S A s.heap H locs → lv_has ls 3 [(0, .ref (a 0))] → W p l e (headSpec (ws_ yX7_arrives cX7_arrives 3 none) ({ frames := 1, cells := 0, slots := 0, locals := 20 } : Room)).room s m ([.ref (a 0)] : List Value).toArray below meth c H locs 0 0 (MQ below (RV G K (fun u => md_W cy a u.1 u.2 mk mg mv mt mm) A) ([.ref (a 0)] : List Value).toArray s 0 0 A) (F0 m 60 ls []) := by
    intro mn mf h H locs ls hP hD hS hl
    unfold vX7_arrives_60 at h
    refine lv_iconst (v := (0 : Int32)) hx hb dX7_arrives_60 (by decide) ?_
    exact J_61 _ _ _ h _ _ _ hP hD hS (lv_sub hl [0] rfl)
  have J_28 : ∀ (mn : Nat → Int32) (mf : Nat → UInt32) (y0 : Int32), vX7_arrives_28 mn mf y0 K  → ∀ (H : Heap) (locs : List Loc) (ls : Array Slot), va_P G vwCl (md_W cy a mn mf mk mg mv mt mm) H → va_D A (md_W cy a mn mf mk mg mv mt mm) → va_S A s.heap H locs → lv_has ls 3 [(0, .ref (a 0))] → W p l e (headSpec (ws_ yX7_arrives cX7_arrives 3 none) ({ frames := 1, cells := 0, slots := 0, locals := 20 } : Room)).room s m ([.ref (a 0)] : List Value).toArray below meth c H locs 0 0 (MQ below (RV G K (fun u => md_W cy a u.1 u.2 mk mg mv mt mm) A) ([.ref (a 0)] : List Value).toArray s 0 0 A) (F0 m 28 ls [.int y0]) := by
    intro mn mf y0 h H locs ls hP hD hS hl
    unfold vX7_arrives_28 at h
    refine lv_istore_n (lv' := [(1, .int y0), (0, .ref (a 0))]) hx hb dX7_arrives_28 rfl hl (by decide) rfl (fun ls hl => ?_)
    refine lv_iload_n hx hb dX7_arrives_29 rfl (lv_at hl 0 rfl) ?_
    refine lv_if_eq (tgt := 60) hx hb dX7_arrives_30 (by decide) (fun c_30 => ?_) (fun c_30 => ?_)
    · have h := h.1 c_30
      exact J_60 _ _ h _ _ _ hP hD hS (lv_sub hl [1] rfl)
    · have h := h.2 c_30
      refine lv_aload_n hx hb dX7_arrives_33 rfl (lv_at hl 1 rfl) ?_
      refine kg (v := .ref (a 2)) S hE hP 0 rfl rfl 1 (by decide) q_4_15 rfl rfl inlX7 dX7_arrives_34 ?_
      refine lv_iconst (v := (1 : Int32)) hx hb dX7_arrives_37 (by decide) ?_
      refine kafl (v := (mf 1)) S hE hP 2 rfl (vi_1 (by decide)) tc_1 rfl dX7_arrives_38 ?_
      refine kc_SfE (As := [.float (mf 1)]) (rest := []) S hE (ctX7_sizeOf l G cy   (mf 1) _ h) q_9_20 q_9_21 q_1_5 q_9_22 ydX7_sizeOf ⟨⟨rfl, rfl⟩, ⟨Nat.le_of_ble_eq_true rfl, Nat.le_of_ble_eq_true rfl⟩⟩ ⟨Nat.zero_le _, Nat.zero_le _⟩ hP hD hS (fun _ => rfl) rfl hl.1 rfl (Nat.le_of_ble_eq_true rfl) dX7_arrives_39 (fun r_39 u_39 H locs h hP hD hS => ?_)
      refine lv_aload_n hx hb dX7_arrives_42 rfl (lv_at hl 1 rfl) ?_
      refine kg (v := .ref (a 1)) S hE hP 0 rfl rfl 0 (by decide) q_4_13 rfl rfl inlX7 dX7_arrives_43 ?_
      refine lv_bipush (v := (13 : Int32)) hx hb dX7_arrives_46 (by decide) ?_
      refine kail (v := (mn 13)) S hE hP 1 rfl (vi_13 (by decide)) tc_13 rfl dX7_arrives_48 ?_
      refine kc_SfE (As := [.int (mn 13)]) (rest := [.float r_39]) S hE (ctX7_metres l G cy   (mn 13) _ h) q_9_5 q_9_6 q_1_5 q_9_7 ydX7_metres ⟨⟨rfl, rfl⟩, ⟨Nat.le_of_ble_eq_true rfl, Nat.le_of_ble_eq_true rfl⟩⟩ ⟨Nat.zero_le _, Nat.zero_le _⟩ hP hD hS (fun _ => rfl) rfl hl.1 rfl (Nat.le_of_ble_eq_true rfl) dX7_arrives_49 (fun r_49 u_49 H locs h hP hD hS => ?_)
      refine lv_fcmp hx hb dX7_arrives_52 ?_
      refine lv_if_gt (tgt := 60) hx hb dX7_arrives_53 (by decide) (fun c_53 => ?_) (fun c_53 => ?_)
      · have h := h.1 c_53
        exact J_60 _ _ h _ _ _ hP hD hS (lv_sub hl [1] rfl)
      · have h := h.2 c_53
        refine lv_iconst (v := (1 : Int32)) hx hb dX7_arrives_56 (by decide) ?_
        refine lv_goto (tgt := 61) hx hb dX7_arrives_57 (by decide) ?_
        exact J_61 _ _ _ h _ _ _ hP hD hS (lv_sub hl [1] rfl)
  refine lv_aload_n hx hb dX7_arrives_0 rfl (lv_at hl 0 rfl) ?_
  refine kg (v := .ref (a 2)) S hE hP 0 rfl rfl 1 (by decide) q_4_15 rfl rfl inlX7 dX7_arrives_1 ?_
  refine lv_iconst (v := (2 : Int32)) hx hb dX7_arrives_4 (by decide) ?_
  refine kafl (v := (mf 2)) S hE hP 2 rfl (vi_2 (by decide)) tc_2 rfl dX7_arrives_5 ?_
  refine kc_SfE (As := [.float (mf 2)]) (rest := []) S hE (ctX7_sizeOf l G cy   (mf 2) _ h) q_9_20 q_9_21 q_1_5 q_9_22 ydX7_sizeOf ⟨⟨rfl, rfl⟩, ⟨Nat.le_of_ble_eq_true rfl, Nat.le_of_ble_eq_true rfl⟩⟩ ⟨Nat.zero_le _, Nat.zero_le _⟩ hP hD hS (fun _ => rfl) rfl hl.1 rfl (Nat.le_of_ble_eq_true rfl) dX7_arrives_6 (fun r_6 u_6 H locs h hP hD hS => ?_)
  refine lv_aload_n hx hb dX7_arrives_9 rfl (lv_at hl 0 rfl) ?_
  refine kg (v := .ref (a 1)) S hE hP 0 rfl rfl 0 (by decide) q_4_13 rfl rfl inlX7 dX7_arrives_10 ?_
  refine lv_bipush (v := (19 : Int32)) hx hb dX7_arrives_13 (by decide) ?_
  refine kail (v := (mn 19)) S hE hP 1 rfl (vi_19 (by decide)) tc_19 rfl dX7_arrives_15 ?_
  refine kc_SfE (As := [.int (mn 19)]) (rest := [.float r_6]) S hE (ctX7_thousandth l G cy   (mn 19) _ h) q_9_8 q_9_9 q_1_5 q_9_10 ydX7_thousandth ⟨⟨rfl, rfl⟩, ⟨Nat.le_of_ble_eq_true rfl, Nat.le_of_ble_eq_true rfl⟩⟩ ⟨Nat.zero_le _, Nat.zero_le _⟩ hP hD hS (fun _ => rfl) rfl hl.1 rfl (Nat.le_of_ble_eq_true rfl) dX7_arrives_16 (fun r_16 u_16 H locs h hP hD hS => ?_)
  refine lv_fcmp hx hb dX7_arrives_19 ?_
  refine lv_if_gt (tgt := 27) hx hb dX7_arrives_20 (by decide) (fun c_20 => ?_) (fun c_20 => ?_)
  · have h := h.1 c_20
    refine lv_iconst (v := (0 : Int32)) hx hb dX7_arrives_27 (by decide) ?_
    exact J_28 _ _ _ h _ _ _ hP hD hS (lv_sub hl [0] rfl)
  · have h := h.2 c_20
    refine lv_iconst (v := (1 : Int32)) hx hb dX7_arrives_23 (by decide) ?_
    refine lv_goto (tgt := 28) hx hb dX7_arrives_24 (by decide) ?_
    exact J_28 _ _ _ h _ _ _ hP hD hS (lv_sub hl [0] rfl)
def vX7_senses_99 (mn : Nat → Int32) (mf : Nat → UInt32) (K : (Nat → Int32) → Prop)  : Prop :=
  (¬ (mn 4) = (1 : Int32) → K mn) ∧ ((mn 4) = (1 : Int32) → vX7_isSeen mf (fun r_110 u_110 => (¬ r_110 = (0 : Int32) → K mn) ∧ (r_110 = (0 : Int32) → K (upd (upd mn 4 (0 : Int32)) 9 ((mn 9) + (1 : Int32))))))
def vX7_senses_63 (mn : Nat → Int32) (mf : Nat → UInt32) (y1 : Int32) (y2 : Int32) (K : (Nat → Int32) → Prop)  : Prop :=
  vp_in y1 40 ∧ (¬ ((upd mn (Int32.toNatClampNeg y1) y2) 3) = (3 : Int32) → vX7_senses_99 (upd mn (Int32.toNatClampNeg y1) y2) mf K ) ∧ (((upd mn (Int32.toNatClampNeg y1) y2) 3) = (3 : Int32) → vX7_senses_99 (upd (upd (upd (upd mn (Int32.toNatClampNeg y1) y2) 4 (1 : Int32)) 3 (0 : Int32)) 9 (((upd mn (Int32.toNatClampNeg y1) y2) 9) + (1 : Int32))) mf K )
def vX7_senses_41 (mn : Nat → Int32) (mf : Nat → UInt32) (y0 : Int32) (K : (Nat → Int32) → Prop)  : Prop :=
  (y0 = (0 : Int32) → vX7_senses_63 mn mf (3 : Int32) (0 : Int32) K ) ∧ (¬ y0 = (0 : Int32) → vX7_senses_63 mn mf (3 : Int32) ((mn 3) + (1 : Int32)) K )
def vX7_senses_40 (mn : Nat → Int32) (mf : Nat → UInt32) (K : (Nat → Int32) → Prop)  : Prop :=
  vX7_senses_41 mn mf (0 : Int32) K 
def vX7_senses (mn : Nat → Int32) (mf : Nat → UInt32) (K : (Nat → Int32) → Prop) : Prop :=
  (¬ (mn 4) = (0 : Int32) → vX7_senses_40 mn mf K ) ∧ ((mn 4) = (0 : Int32) → vX7_isSeen mf (fun r_10 u_10 => (r_10 = (0 : Int32) → vX7_senses_40 mn mf K ) ∧ (¬ r_10 = (0 : Int32) → vX7_measured mn mf (0 : Int32) (fun r_18 u_18 => vX7_measured mn mf (1 : Int32) (fun r_23 u_23 => vf_n32 (FP.fsub r_18 r_23) ∧ vX7_sizeOf (FP.fsub r_18 r_23) (fun r_27 u_27 => ((0 : Int32) ≤ (fcg r_27 (1056964608 : UInt32)) → vX7_senses_40 mn mf K ) ∧ (¬ (0 : Int32) ≤ (fcg r_27 (1056964608 : UInt32)) → vX7_senses_41 mn mf (1 : Int32) K )))))))
set_option maxRecDepth 100000 in
set_option maxHeartbeats 4000000 in
theorem ctX7_senses (l : Launch) (G : va_G) (cy : Nat → ClassId) (a : Nat → Nat) (mn : Nat → Int32) (mf : Nat → UInt32) (mk : Nat → Int32) (mg : Nat → UInt32) (mv : Nat → Int32) (mt : Nat → Int32) (mm : Nat → Int32)  (K : (Nat → Int32) → Prop) (h : vX7_senses mn mf K) : Met l yX7_senses (ws_ yX7_senses cX7_senses 2 none) ({ frames := 2, cells := 0, slots := 0, locals := 41 } : Room) (CP G cy [.ref (a 0)] (md_W cy a mn mf mk mg mv mt mm)) (RV G K (fun u => md_W cy a u mf mk mg mv mt mm) (A1 (md_W cy a mn mf mk mg mv mt mm))) 0 0 (A1 (md_W cy a mn mf mk mg mv mt mm)) := by
  refine hd_go (Qf := fun A => (RV G K (fun u => md_W cy a u mf mk mg mv mt mm) A)) (by decide +kernel) (Nat.le_of_ble_eq_true rfl) ?_
  intro p e s m below meth c ls A hx hb hr hlocks S hE hP hD hS hl
  have hl : lv_has ls 2 [(0, .ref (a 0))] := hl
  unfold vX7_senses at h
  have J_99 : ∀ (mn : Nat → Int32) (mf : Nat → UInt32), vX7_senses_99 mn mf K  → ∀ (H : Heap) (locs : List Loc) (ls : Array Slot), va_P G vwCl (md_W cy a mn mf mk mg mv mt mm) H → va_D A (md_W cy a mn mf mk mg mv mt mm) → va_S A s.heap H locs → lv_has ls 2 [(0, .ref (a 0))] → W p l e (headSpec (ws_ yX7_senses cX7_senses 2 none) ({ frames := 2, cells := 0, slots := 0, locals := 41 } : Room)).room s m ([.ref (a 0)] : List Value).toArray below meth c H locs 0 0 (MQ below (RV G K (fun u => md_W cy a u mf mk mg mv mt mm) A) ([.ref (a 0)] : List Value).toArray s 0 0 A) (F0 m 99 ls []) := by
    intro mn mf h H locs ls hP hD hS hl
    unfold vX7_senses_99 at h
    refine lv_aload_n hx hb dX7_senses_99 rfl (lv_at hl 0 rfl) ?_
    refine kg (v := .ref (a 1)) S hE hP 0 rfl rfl 0 (by decide) q_4_13 rfl rfl inlX7 dX7_senses_100 ?_
    refine lv_iconst (v := (4 : Int32)) hx hb dX7_senses_103 (by decide) ?_
    refine kail (v := (mn 4)) S hE hP 1 rfl (vi_4 (by decide)) tc_4 rfl dX7_senses_104 ?_
    refine lv_iconst (v := (1 : Int32)) hx hb dX7_senses_105 (by decide) ?_
    refine lv_icmp_ne (tgt := 134) hx hb dX7_senses_106 (by decide) (fun c_106 => ?_) (fun c_106 => ?_)
    · have h := h.1 c_106
      exact W.vret hx hb hr (fun t ht hW => ⟨⟨mn, rfl, h, ⟨hp_at ht hP, hD⟩⟩, hS.F ht⟩) hS.2.2 dX7_senses_134
    · have h := h.2 c_106
      refine lv_aload_n hx hb dX7_senses_109 rfl (lv_at hl 0 rfl) ?_
      refine kc_Vi0 (As := []) (rest := []) S hE (ctX7_isSeen l G cy a mn mf mk mg mv mt mm  _ h) q_22_22 q_22_23 q_23_0 q_1_5 q_23_1 rfl 0 rfl rfl ydX7_isSeen ⟨⟨rfl, rfl⟩, ⟨Nat.le_of_ble_eq_true rfl, Nat.le_of_ble_eq_true rfl⟩⟩ ⟨Nat.zero_le _, Nat.zero_le _⟩ hP hD hS rfl hl.1 rfl (Nat.le_of_ble_eq_true rfl) dX7_senses_110 (fun r_110 u_110 H locs h hP hD hS => ?_)
      refine lv_if_ne (tgt := 134) hx hb dX7_senses_113 (by decide) (fun c_113 => ?_) (fun c_113 => ?_)
      · have h := h.1 c_113
        exact W.vret hx hb hr (fun t ht hW => ⟨⟨mn, rfl, h, ⟨hp_at ht hP, hD⟩⟩, hS.F ht⟩) hS.2.2 dX7_senses_134
      · have h := h.2 c_113
        refine lv_aload_n hx hb dX7_senses_116 rfl (lv_at hl 0 rfl) ?_
        refine kg (v := .ref (a 1)) S hE hP 0 rfl rfl 0 (by decide) q_4_13 rfl rfl inlX7 dX7_senses_117 ?_
        refine lv_iconst (v := (4 : Int32)) hx hb dX7_senses_120 (by decide) ?_
        refine lv_iconst (v := (0 : Int32)) hx hb dX7_senses_121 (by decide) ?_
        refine kais S hE hP hD hS 1 rfl (vi_4 (by decide)) tc_4 dX7_senses_122 (fun H locs hP hD hS => ?_)
        have hP : va_P G vwCl (md_W cy a (upd mn 4 (0 : Int32)) mf mk mg mv mt mm) H := hP
        have hD : va_D A (md_W cy a (upd mn 4 (0 : Int32)) mf mk mg mv mt mm) := hD
        refine lv_aload_n hx hb dX7_senses_123 rfl (lv_at hl 0 rfl) ?_
        refine kg (v := .ref (a 1)) S hE hP 0 rfl rfl 0 (by decide) q_4_13 rfl rfl inlX7 dX7_senses_124 ?_
        refine lv_bipush (v := (9 : Int32)) hx hb dX7_senses_127 (by decide) ?_
        refine lv_dup2_11 hx hb dX7_senses_129 rfl rfl ?_
        refine kail (v := (mn 9)) S hE hP 1 rfl (vi_9 (by decide)) tc_9 rfl dX7_senses_130 ?_
        refine lv_iconst (v := (1 : Int32)) hx hb dX7_senses_131 (by decide) ?_
        refine lv_iadd hx hb dX7_senses_132 ?_
        refine kais S hE hP hD hS 1 rfl (vi_9 (by decide)) tc_9 dX7_senses_133 (fun H locs hP hD hS => ?_)
        have hP : va_P G vwCl (md_W cy a (upd (upd mn 4 (0 : Int32)) 9 ((mn 9) + (1 : Int32))) mf mk mg mv mt mm) H := hP
        have hD : va_D A (md_W cy a (upd (upd mn 4 (0 : Int32)) 9 ((mn 9) + (1 : Int32))) mf mk mg mv mt mm) := hD
        exact W.vret hx hb hr (fun t ht hW => ⟨⟨(upd (upd mn 4 (0 : Int32)) 9 ((mn 9) + (1 : Int32))), rfl, h, ⟨hp_at ht hP, hD⟩⟩, hS.F ht⟩) hS.2.2 dX7_senses_134
  have J_63 : ∀ (mn : Nat → Int32) (mf : Nat → UInt32) (y1 : Int32) (y2 : Int32), vX7_senses_63 mn mf y1 y2 K  → ∀ (H : Heap) (locs : List Loc) (ls : Array Slot), va_P G vwCl (md_W cy a mn mf mk mg mv mt mm) H → va_D A (md_W cy a mn mf mk mg mv mt mm) → va_S A s.heap H locs → lv_has ls 2 [(0, .ref (a 0))] → W p l e (headSpec (ws_ yX7_senses cX7_senses 2 none) ({ frames := 2, cells := 0, slots := 0, locals := 41 } : Room)).room s m ([.ref (a 0)] : List Value).toArray below meth c H locs 0 0 (MQ below (RV G K (fun u => md_W cy a u mf mk mg mv mt mm) A) ([.ref (a 0)] : List Value).toArray s 0 0 A) (F0 m 63 ls [.int y2, .int y1, .ref (a 1)]) := by
    intro mn mf y1 y2 h H locs ls hP hD hS hl
    unfold vX7_senses_63 at h
    refine kais S hE hP hD hS 1 rfl h.1 rfl dX7_senses_63 (fun H locs hP hD hS => ?_)
    have h := h.2
    have hP : va_P G vwCl (md_W cy a (upd mn (Int32.toNatClampNeg y1) y2) mf mk mg mv mt mm) H := hP
    have hD : va_D A (md_W cy a (upd mn (Int32.toNatClampNeg y1) y2) mf mk mg mv mt mm) := hD
    refine lv_aload_n hx hb dX7_senses_64 rfl (lv_at hl 0 rfl) ?_
    refine kg (v := .ref (a 1)) S hE hP 0 rfl rfl 0 (by decide) q_4_13 rfl rfl inlX7 dX7_senses_65 ?_
    refine lv_iconst (v := (3 : Int32)) hx hb dX7_senses_68 (by decide) ?_
    refine kail (v := ((upd mn (Int32.toNatClampNeg y1) y2) 3)) S hE hP 1 rfl (vi_3 (by decide)) tc_3 rfl dX7_senses_69 ?_
    refine lv_iconst (v := (3 : Int32)) hx hb dX7_senses_70 (by decide) ?_
    refine lv_icmp_ne (tgt := 99) hx hb dX7_senses_71 (by decide) (fun c_71 => ?_) (fun c_71 => ?_)
    · have h := h.1 c_71
      exact J_99 _ _ h _ _ _ hP hD hS (lv_sub hl [0] rfl)
    · have h := h.2 c_71
      refine lv_aload_n hx hb dX7_senses_74 rfl (lv_at hl 0 rfl) ?_
      refine kg (v := .ref (a 1)) S hE hP 0 rfl rfl 0 (by decide) q_4_13 rfl rfl inlX7 dX7_senses_75 ?_
      refine lv_iconst (v := (4 : Int32)) hx hb dX7_senses_78 (by decide) ?_
      refine lv_iconst (v := (1 : Int32)) hx hb dX7_senses_79 (by decide) ?_
      refine kais S hE hP hD hS 1 rfl (vi_4 (by decide)) tc_4 dX7_senses_80 (fun H locs hP hD hS => ?_)
      have hP : va_P G vwCl (md_W cy a (upd (upd mn (Int32.toNatClampNeg y1) y2) 4 (1 : Int32)) mf mk mg mv mt mm) H := hP
      have hD : va_D A (md_W cy a (upd (upd mn (Int32.toNatClampNeg y1) y2) 4 (1 : Int32)) mf mk mg mv mt mm) := hD
      refine lv_aload_n hx hb dX7_senses_81 rfl (lv_at hl 0 rfl) ?_
      refine kg (v := .ref (a 1)) S hE hP 0 rfl rfl 0 (by decide) q_4_13 rfl rfl inlX7 dX7_senses_82 ?_
      refine lv_iconst (v := (3 : Int32)) hx hb dX7_senses_85 (by decide) ?_
      refine lv_iconst (v := (0 : Int32)) hx hb dX7_senses_86 (by decide) ?_
      refine kais S hE hP hD hS 1 rfl (vi_3 (by decide)) tc_3 dX7_senses_87 (fun H locs hP hD hS => ?_)
      have hP : va_P G vwCl (md_W cy a (upd (upd (upd mn (Int32.toNatClampNeg y1) y2) 4 (1 : Int32)) 3 (0 : Int32)) mf mk mg mv mt mm) H := hP
      have hD : va_D A (md_W cy a (upd (upd (upd mn (Int32.toNatClampNeg y1) y2) 4 (1 : Int32)) 3 (0 : Int32)) mf mk mg mv mt mm) := hD
      refine lv_aload_n hx hb dX7_senses_88 rfl (lv_at hl 0 rfl) ?_
      refine kg (v := .ref (a 1)) S hE hP 0 rfl rfl 0 (by decide) q_4_13 rfl rfl inlX7 dX7_senses_89 ?_
      refine lv_bipush (v := (9 : Int32)) hx hb dX7_senses_92 (by decide) ?_
      refine lv_dup2_11 hx hb dX7_senses_94 rfl rfl ?_
      refine kail (v := ((upd mn (Int32.toNatClampNeg y1) y2) 9)) S hE hP 1 rfl (vi_9 (by decide)) tc_9 rfl dX7_senses_95 ?_
      refine lv_iconst (v := (1 : Int32)) hx hb dX7_senses_96 (by decide) ?_
      refine lv_iadd hx hb dX7_senses_97 ?_
      refine kais S hE hP hD hS 1 rfl (vi_9 (by decide)) tc_9 dX7_senses_98 (fun H locs hP hD hS => ?_)
      have hP : va_P G vwCl (md_W cy a (upd (upd (upd (upd mn (Int32.toNatClampNeg y1) y2) 4 (1 : Int32)) 3 (0 : Int32)) 9 (((upd mn (Int32.toNatClampNeg y1) y2) 9) + (1 : Int32))) mf mk mg mv mt mm) H := hP
      have hD : va_D A (md_W cy a (upd (upd (upd (upd mn (Int32.toNatClampNeg y1) y2) 4 (1 : Int32)) 3 (0 : Int32)) 9 (((upd mn (Int32.toNatClampNeg y1) y2) 9) + (1 : Int32))) mf mk mg mv mt mm) := hD
      exact J_99 _ _ h _ _ _ hP hD hS (lv_sub hl [0] rfl)
  have J_41 : ∀ (mn : Nat → Int32) (mf : Nat → UInt32) (y0 : Int32), vX7_senses_41 mn mf y0 K  → ∀ (H : Heap) (locs : List Loc) (ls : Array Slot), va_P G vwCl (md_W cy a mn mf mk mg mv mt mm) H → va_D A (md_W cy a mn mf mk mg mv mt mm) → va_S A s.heap H locs → lv_has ls 2 [(0, .ref (a 0))] → W p l e (headSpec (ws_ yX7_senses cX7_senses 2 none) ({ frames := 2, cells := 0, slots := 0, locals := 41 } : Room)).room s m ([.ref (a 0)] : List Value).toArray below meth c H locs 0 0 (MQ below (RV G K (fun u => md_W cy a u mf mk mg mv mt mm) A) ([.ref (a 0)] : List Value).toArray s 0 0 A) (F0 m 41 ls [.int y0]) := by
    intro mn mf y0 h H locs ls hP hD hS hl
    unfold vX7_senses_41 at h
    refine lv_istore_n (lv' := [(1, .int y0), (0, .ref (a 0))]) hx hb dX7_senses_41 rfl hl (by decide) rfl (fun ls hl => ?_)
    refine lv_aload_n hx hb dX7_senses_42 rfl (lv_at hl 1 rfl) ?_
    refine kg (v := .ref (a 1)) S hE hP 0 rfl rfl 0 (by decide) q_4_13 rfl rfl inlX7 dX7_senses_43 ?_
    refine lv_iconst (v := (3 : Int32)) hx hb dX7_senses_46 (by decide) ?_
    refine lv_iload_n hx hb dX7_senses_47 rfl (lv_at hl 0 rfl) ?_
    refine lv_if_eq (tgt := 62) hx hb dX7_senses_48 (by decide) (fun c_48 => ?_) (fun c_48 => ?_)
    · have h := h.1 c_48
      refine lv_iconst (v := (0 : Int32)) hx hb dX7_senses_62 (by decide) ?_
      exact J_63 _ _ _ _ h _ _ _ hP hD hS (lv_sub hl [1] rfl)
    · have h := h.2 c_48
      refine lv_aload_n hx hb dX7_senses_51 rfl (lv_at hl 1 rfl) ?_
      refine kg (v := .ref (a 1)) S hE hP 0 rfl rfl 0 (by decide) q_4_13 rfl rfl inlX7 dX7_senses_52 ?_
      refine lv_iconst (v := (3 : Int32)) hx hb dX7_senses_55 (by decide) ?_
      refine kail (v := (mn 3)) S hE hP 1 rfl (vi_3 (by decide)) tc_3 rfl dX7_senses_56 ?_
      refine lv_iconst (v := (1 : Int32)) hx hb dX7_senses_57 (by decide) ?_
      refine lv_iadd hx hb dX7_senses_58 ?_
      refine lv_goto (tgt := 63) hx hb dX7_senses_59 (by decide) ?_
      exact J_63 _ _ _ _ h _ _ _ hP hD hS (lv_sub hl [1] rfl)
  have J_40 : ∀ (mn : Nat → Int32) (mf : Nat → UInt32), vX7_senses_40 mn mf K  → ∀ (H : Heap) (locs : List Loc) (ls : Array Slot), va_P G vwCl (md_W cy a mn mf mk mg mv mt mm) H → va_D A (md_W cy a mn mf mk mg mv mt mm) → va_S A s.heap H locs → lv_has ls 2 [(0, .ref (a 0))] → W p l e (headSpec (ws_ yX7_senses cX7_senses 2 none) ({ frames := 2, cells := 0, slots := 0, locals := 41 } : Room)).room s m ([.ref (a 0)] : List Value).toArray below meth c H locs 0 0 (MQ below (RV G K (fun u => md_W cy a u mf mk mg mv mt mm) A) ([.ref (a 0)] : List Value).toArray s 0 0 A) (F0 m 40 ls []) := by
    intro mn mf h H locs ls hP hD hS hl
    unfold vX7_senses_40 at h
    refine lv_iconst (v := (0 : Int32)) hx hb dX7_senses_40 (by decide) ?_
    exact J_41 _ _ _ h _ _ _ hP hD hS (lv_sub hl [0] rfl)
  refine lv_aload_n hx hb dX7_senses_0 rfl (lv_at hl 0 rfl) ?_
  refine kg (v := .ref (a 1)) S hE hP 0 rfl rfl 0 (by decide) q_4_13 rfl rfl inlX7 dX7_senses_1 ?_
  refine lv_iconst (v := (4 : Int32)) hx hb dX7_senses_4 (by decide) ?_
  refine kail (v := (mn 4)) S hE hP 1 rfl (vi_4 (by decide)) tc_4 rfl dX7_senses_5 ?_
  refine lv_if_ne (tgt := 40) hx hb dX7_senses_6 (by decide) (fun c_6 => ?_) (fun c_6 => ?_)
  · have h := h.1 c_6
    exact J_40 _ _ h _ _ _ hP hD hS (lv_sub hl [0] rfl)
  · have h := h.2 c_6
    refine lv_aload_n hx hb dX7_senses_9 rfl (lv_at hl 0 rfl) ?_
    refine kc_Vi0 (As := []) (rest := []) S hE (ctX7_isSeen l G cy a mn mf mk mg mv mt mm  _ h) q_22_22 q_22_23 q_23_0 q_1_5 q_23_1 rfl 0 rfl rfl ydX7_isSeen ⟨⟨rfl, rfl⟩, ⟨Nat.le_of_ble_eq_true rfl, Nat.le_of_ble_eq_true rfl⟩⟩ ⟨Nat.zero_le _, Nat.zero_le _⟩ hP hD hS rfl hl.1 rfl (Nat.le_of_ble_eq_true rfl) dX7_senses_10 (fun r_10 u_10 H locs h hP hD hS => ?_)
    refine lv_if_eq (tgt := 40) hx hb dX7_senses_13 (by decide) (fun c_13 => ?_) (fun c_13 => ?_)
    · have h := h.1 c_13
      exact J_40 _ _ h _ _ _ hP hD hS (lv_sub hl [0] rfl)
    · have h := h.2 c_13
      refine lv_aload_n hx hb dX7_senses_16 rfl (lv_at hl 0 rfl) ?_
      refine lv_iconst (v := (0 : Int32)) hx hb dX7_senses_17 (by decide) ?_
      refine kc_Vf0 (As := [.int (0 : Int32)]) (rest := []) S hE (ctX7_measured l G cy a mn mf mk mg mv mt mm (0 : Int32) _ h) q_21_23 q_22_0 q_22_1 q_1_5 q_22_2 rfl 0 rfl rfl ydX7_measured ⟨⟨rfl, rfl⟩, ⟨Nat.le_of_ble_eq_true rfl, Nat.le_of_ble_eq_true rfl⟩⟩ ⟨Nat.zero_le _, Nat.zero_le _⟩ hP hD hS rfl hl.1 rfl (Nat.le_of_ble_eq_true rfl) dX7_senses_18 (fun r_18 u_18 H locs h hP hD hS => ?_)
      refine lv_aload_n hx hb dX7_senses_21 rfl (lv_at hl 0 rfl) ?_
      refine lv_iconst (v := (1 : Int32)) hx hb dX7_senses_22 (by decide) ?_
      refine kc_Vf0 (As := [.int (1 : Int32)]) (rest := [.float r_18]) S hE (ctX7_measured l G cy a mn mf mk mg mv mt mm (1 : Int32) _ h) q_21_23 q_22_0 q_22_1 q_1_5 q_22_2 rfl 0 rfl rfl ydX7_measured ⟨⟨rfl, rfl⟩, ⟨Nat.le_of_ble_eq_true rfl, Nat.le_of_ble_eq_true rfl⟩⟩ ⟨Nat.zero_le _, Nat.zero_le _⟩ hP hD hS rfl hl.1 rfl (Nat.le_of_ble_eq_true rfl) dX7_senses_23 (fun r_23 u_23 H locs h hP hD hS => ?_)
      refine lv_fsub hx hb dX7_senses_26 h.1 ?_
      have h := h.2
      refine kc_SfE (As := [.float (FP.fsub r_18 r_23)]) (rest := []) S hE (ctX7_sizeOf l G cy   (FP.fsub r_18 r_23) _ h) q_9_20 q_9_21 q_1_5 q_9_22 ydX7_sizeOf ⟨⟨rfl, rfl⟩, ⟨Nat.le_of_ble_eq_true rfl, Nat.le_of_ble_eq_true rfl⟩⟩ ⟨Nat.zero_le _, Nat.zero_le _⟩ hP hD hS (fun _ => rfl) rfl hl.1 rfl (Nat.le_of_ble_eq_true rfl) dX7_senses_27 (fun r_27 u_27 H locs h hP hD hS => ?_)
      refine lv_ldcf hx hb S.2.2.2.1 (S.2.2.2.2 _ q_10_8) dX7_senses_30 ?_
      refine lv_fcmp hx hb dX7_senses_32 ?_
      refine lv_if_ge (tgt := 40) hx hb dX7_senses_33 (by decide) (fun c_33 => ?_) (fun c_33 => ?_)
      · have h := h.1 c_33
        exact J_40 _ _ h _ _ _ hP hD hS (lv_sub hl [0] rfl)
      · have h := h.2 c_33
        refine lv_iconst (v := (1 : Int32)) hx hb dX7_senses_36 (by decide) ?_
        refine lv_goto (tgt := 41) hx hb dX7_senses_37 (by decide) ?_
        exact J_41 _ _ _ h _ _ _ hP hD hS (lv_sub hl [0] rfl)
def vX7_stops_72 (mn : Nat → Int32) (mf : Nat → UInt32) (x1 : Int32) (K : (Nat → Int32) → Prop) (B10 : (Nat → Int32) → Int32 → Prop) : Prop :=
  B10 mn (x1 + (-1 : Int32))
def vX7_stops_10b (mf : Nat → UInt32) (K : (Nat → Int32) → Prop)  (B10 : (Nat → Int32) → Int32 → Prop) (mn : Nat → Int32) (x1 : Int32) : Prop :=
  (x1 < (0 : Int32) → K mn) ∧ (¬ x1 < (0 : Int32) → vX7_isClosed mn x1 (fun r_16 u_16 => (r_16 = (0 : Int32) → vX7_stops_72 mn mf x1 K B10) ∧ (¬ r_16 = (0 : Int32) → vX7_stopAt mn x1 (fun r_30 u_30 => vf_n32 (FP.fsub (mf 0) r_30) ∧ vX7_sizeOf (FP.fsub (mf 0) r_30) (fun r_34 u_34 => ((0 : Int32) ≤ (fcg r_34 (1045220557 : UInt32)) → vX7_stops_72 mn mf x1 K B10) ∧ (¬ (0 : Int32) ≤ (fcg r_34 (1045220557 : UInt32)) → vX7_sizeOf (mf 2) (fun r_49 u_49 => ((0 : Int32) ≤ (fcg r_49 (1028443341 : UInt32)) → vX7_stops_72 mn mf x1 K B10) ∧ (¬ (0 : Int32) ≤ (fcg r_49 (1028443341 : UInt32)) → vX7_stops_72 (upd (upd mn 0 (2 : Int32)) 5 x1) mf x1 K B10))))))))
def vX7_stops_10F (mf : Nat → UInt32) (K : (Nat → Int32) → Prop)  : (((Nat → Int32) × Int32) → Prop) → ((Nat → Int32) × Int32) → Prop := fun B z => vX7_stops_10b mf K  (fun z0 z1 => B (z0, z1)) z.1 z.2
def vX7_stops (mn : Nat → Int32) (mf : Nat → UInt32) (K : (Nat → Int32) → Prop) : Prop :=
  ∃ k, lp (vX7_stops_10F mf K ) k (mn, ((mn 11) - (1 : Int32)))
set_option maxRecDepth 100000 in
set_option maxHeartbeats 4000000 in
theorem ctX7_stops (l : Launch) (G : va_G) (cy : Nat → ClassId) (a : Nat → Nat) (mn : Nat → Int32) (mf : Nat → UInt32) (mk : Nat → Int32) (mg : Nat → UInt32) (mv : Nat → Int32) (mt : Nat → Int32) (mm : Nat → Int32)  (K : (Nat → Int32) → Prop) (h : vX7_stops mn mf K) : Met l yX7_stops (ws_ yX7_stops cX7_stops 2 none) ({ frames := 2, cells := 0, slots := 0, locals := 41 } : Room) (CP G cy [.ref (a 0)] (md_W cy a mn mf mk mg mv mt mm)) (RV G K (fun u => md_W cy a u mf mk mg mv mt mm) (A1 (md_W cy a mn mf mk mg mv mt mm))) 0 0 (A1 (md_W cy a mn mf mk mg mv mt mm)) := by
  refine hd_go (Qf := fun A => (RV G K (fun u => md_W cy a u mf mk mg mv mt mm) A)) (by decide +kernel) (Nat.le_of_ble_eq_true rfl) ?_
  intro p e s m below meth c ls A hx hb hr hlocks S hE hP hD hS hl
  have hl : lv_has ls 2 [(0, .ref (a 0))] := hl
  unfold vX7_stops at h
  have L_10 : ∀ (mf : Nat → UInt32) (k_10 : Nat) (mn : Nat → Int32) (x1 : Int32), lp (vX7_stops_10F mf K ) k_10 (mn, x1) → ∀ (H : Heap) (locs : List Loc) (ls : Array Slot), va_P G vwCl (md_W cy a mn mf mk mg mv mt mm) H → va_D A (md_W cy a mn mf mk mg mv mt mm) → va_S A s.heap H locs → lv_has ls 2 [(0, .ref (a 0)), (1, .int x1)] → W p l e (headSpec (ws_ yX7_stops cX7_stops 2 none) ({ frames := 2, cells := 0, slots := 0, locals := 41 } : Room)).room s m ([.ref (a 0)] : List Value).toArray below meth c H locs 0 0 (MQ below (RV G K (fun u => md_W cy a u mf mk mg mv mt mm) A) ([.ref (a 0)] : List Value).toArray s 0 0 A) (F0 m 10 ls []) := by
    intro mf k_10
    induction k_10 with
    | zero => intro mn x1 h; exact h.elim
    | succ k_10 ih_10 =>
      have J_72 : ∀ (mn : Nat → Int32) (x1 : Int32), vX7_stops_72 mn mf x1 K (fun z0 z1 => lp (vX7_stops_10F mf K ) k_10 (z0, z1)) → ∀ (H : Heap) (locs : List Loc) (ls : Array Slot), va_P G vwCl (md_W cy a mn mf mk mg mv mt mm) H → va_D A (md_W cy a mn mf mk mg mv mt mm) → va_S A s.heap H locs → lv_has ls 2 [(0, .ref (a 0)), (1, .int x1)] → W p l e (headSpec (ws_ yX7_stops cX7_stops 2 none) ({ frames := 2, cells := 0, slots := 0, locals := 41 } : Room)).room s m ([.ref (a 0)] : List Value).toArray below meth c H locs 0 0 (MQ below (RV G K (fun u => md_W cy a u mf mk mg mv mt mm) A) ([.ref (a 0)] : List Value).toArray s 0 0 A) (F0 m 72 ls []) := by
        intro mn x1 h H locs ls hP hD hS hl
        unfold vX7_stops_72 at h
        refine lv_iinc (v := (x1 + (-1 : Int32))) (lv' := [(1, .int (x1 + (-1 : Int32))), (0, .ref (a 0))]) hx hb dX7_stops_72 hl (k := 1) rfl (by rfl) (by decide) rfl (fun ls hl => ?_)
        refine lv_goto (tgt := 10) hx hb dX7_stops_75 (by decide) ?_
        exact ih_10 _ _ h _ _ _ hP hD hS (lv_sub hl [1, 0] rfl)
      intro mn x1 h H locs ls hP hD hS hl
      have h : vX7_stops_10b mf K  (fun z0 z1 => lp (vX7_stops_10F mf K ) k_10 (z0, z1)) mn x1 := h
      unfold vX7_stops_10b at h
      refine lv_iload_n hx hb dX7_stops_10 rfl (lv_at hl 1 rfl) ?_
      refine lv_if_lt (tgt := 78) hx hb dX7_stops_11 (by decide) (fun c_11 => ?_) (fun c_11 => ?_)
      · have h := h.1 c_11
        exact W.vret hx hb hr (fun t ht hW => ⟨⟨mn, rfl, h, ⟨hp_at ht hP, hD⟩⟩, hS.F ht⟩) hS.2.2 dX7_stops_78
      · have h := h.2 c_11
        refine lv_aload_n hx hb dX7_stops_14 rfl (lv_at hl 0 rfl) ?_
        refine lv_iload_n hx hb dX7_stops_15 rfl (lv_at hl 1 rfl) ?_
        refine kc_Vi0 (As := [.int x1]) (rest := []) S hE (ctX7_isClosed l G cy a mn mf mk mg mv mt mm x1 _ h) q_20_5 q_20_6 q_20_7 q_1_5 q_20_8 rfl 0 rfl rfl ydX7_isClosed ⟨⟨rfl, rfl⟩, ⟨Nat.le_of_ble_eq_true rfl, Nat.le_of_ble_eq_true rfl⟩⟩ ⟨Nat.zero_le _, Nat.zero_le _⟩ hP hD hS rfl hl.1 rfl (Nat.le_of_ble_eq_true rfl) dX7_stops_16 (fun r_16 u_16 H locs h hP hD hS => ?_)
        refine lv_if_eq (tgt := 72) hx hb dX7_stops_19 (by decide) (fun c_19 => ?_) (fun c_19 => ?_)
        · have h := h.1 c_19
          exact J_72 _ _ h _ _ _ hP hD hS (lv_sub hl [0, 1] rfl)
        · have h := h.2 c_19
          refine lv_aload_n hx hb dX7_stops_22 rfl (lv_at hl 0 rfl) ?_
          refine kg (v := .ref (a 2)) S hE hP 0 rfl rfl 1 (by decide) q_4_15 rfl rfl inlX7 dX7_stops_23 ?_
          refine lv_iconst (v := (0 : Int32)) hx hb dX7_stops_26 (by decide) ?_
          refine kafl (v := (mf 0)) S hE hP 2 rfl (vi_0 (by decide)) tc_0 rfl dX7_stops_27 ?_
          refine lv_aload_n hx hb dX7_stops_28 rfl (lv_at hl 0 rfl) ?_
          refine lv_iload_n hx hb dX7_stops_29 rfl (lv_at hl 1 rfl) ?_
          refine kc_Vf0 (As := [.int x1]) (rest := [.float (mf 0)]) S hE (ctX7_stopAt l G cy a mn mf mk mg mv mt mm x1 _ h) q_22_3 q_22_4 q_22_5 q_1_5 q_22_6 rfl 0 rfl rfl ydX7_stopAt ⟨⟨rfl, rfl⟩, ⟨Nat.le_of_ble_eq_true rfl, Nat.le_of_ble_eq_true rfl⟩⟩ ⟨Nat.zero_le _, Nat.zero_le _⟩ hP hD hS rfl hl.1 rfl (Nat.le_of_ble_eq_true rfl) dX7_stops_30 (fun r_30 u_30 H locs h hP hD hS => ?_)
          refine lv_fsub hx hb dX7_stops_33 h.1 ?_
          have h := h.2
          refine kc_SfE (As := [.float (FP.fsub (mf 0) r_30)]) (rest := []) S hE (ctX7_sizeOf l G cy   (FP.fsub (mf 0) r_30) _ h) q_9_20 q_9_21 q_1_5 q_9_22 ydX7_sizeOf ⟨⟨rfl, rfl⟩, ⟨Nat.le_of_ble_eq_true rfl, Nat.le_of_ble_eq_true rfl⟩⟩ ⟨Nat.zero_le _, Nat.zero_le _⟩ hP hD hS (fun _ => rfl) rfl hl.1 rfl (Nat.le_of_ble_eq_true rfl) dX7_stops_34 (fun r_34 u_34 H locs h hP hD hS => ?_)
          refine lv_ldcf hx hb S.2.2.2.1 (S.2.2.2.2 _ q_23_7) dX7_stops_37 ?_
          refine lv_fcmp hx hb dX7_stops_39 ?_
          refine lv_if_ge (tgt := 72) hx hb dX7_stops_40 (by decide) (fun c_40 => ?_) (fun c_40 => ?_)
          · have h := h.1 c_40
            exact J_72 _ _ h _ _ _ hP hD hS (lv_sub hl [0, 1] rfl)
          · have h := h.2 c_40
            refine lv_aload_n hx hb dX7_stops_43 rfl (lv_at hl 0 rfl) ?_
            refine kg (v := .ref (a 2)) S hE hP 0 rfl rfl 1 (by decide) q_4_15 rfl rfl inlX7 dX7_stops_44 ?_
            refine lv_iconst (v := (2 : Int32)) hx hb dX7_stops_47 (by decide) ?_
            refine kafl (v := (mf 2)) S hE hP 2 rfl (vi_2 (by decide)) tc_2 rfl dX7_stops_48 ?_
            refine kc_SfE (As := [.float (mf 2)]) (rest := []) S hE (ctX7_sizeOf l G cy   (mf 2) _ h) q_9_20 q_9_21 q_1_5 q_9_22 ydX7_sizeOf ⟨⟨rfl, rfl⟩, ⟨Nat.le_of_ble_eq_true rfl, Nat.le_of_ble_eq_true rfl⟩⟩ ⟨Nat.zero_le _, Nat.zero_le _⟩ hP hD hS (fun _ => rfl) rfl hl.1 rfl (Nat.le_of_ble_eq_true rfl) dX7_stops_49 (fun r_49 u_49 H locs h hP hD hS => ?_)
            refine lv_ldcf hx hb S.2.2.2.1 (S.2.2.2.2 _ q_21_17) dX7_stops_52 ?_
            refine lv_fcmp hx hb dX7_stops_54 ?_
            refine lv_if_ge (tgt := 72) hx hb dX7_stops_55 (by decide) (fun c_55 => ?_) (fun c_55 => ?_)
            · have h := h.1 c_55
              exact J_72 _ _ h _ _ _ hP hD hS (lv_sub hl [0, 1] rfl)
            · have h := h.2 c_55
              refine lv_aload_n hx hb dX7_stops_58 rfl (lv_at hl 0 rfl) ?_
              refine kg (v := .ref (a 1)) S hE hP 0 rfl rfl 0 (by decide) q_4_13 rfl rfl inlX7 dX7_stops_59 ?_
              refine lv_iconst (v := (0 : Int32)) hx hb dX7_stops_62 (by decide) ?_
              refine lv_iconst (v := (2 : Int32)) hx hb dX7_stops_63 (by decide) ?_
              refine kais S hE hP hD hS 1 rfl (vi_0 (by decide)) tc_0 dX7_stops_64 (fun H locs hP hD hS => ?_)
              have hP : va_P G vwCl (md_W cy a (upd mn 0 (2 : Int32)) mf mk mg mv mt mm) H := hP
              have hD : va_D A (md_W cy a (upd mn 0 (2 : Int32)) mf mk mg mv mt mm) := hD
              refine lv_aload_n hx hb dX7_stops_65 rfl (lv_at hl 0 rfl) ?_
              refine kg (v := .ref (a 1)) S hE hP 0 rfl rfl 0 (by decide) q_4_13 rfl rfl inlX7 dX7_stops_66 ?_
              refine lv_iconst (v := (5 : Int32)) hx hb dX7_stops_69 (by decide) ?_
              refine lv_iload_n hx hb dX7_stops_70 rfl (lv_at hl 1 rfl) ?_
              refine kais S hE hP hD hS 1 rfl (vi_5 (by decide)) tc_5 dX7_stops_71 (fun H locs hP hD hS => ?_)
              have hP : va_P G vwCl (md_W cy a (upd (upd mn 0 (2 : Int32)) 5 x1) mf mk mg mv mt mm) H := hP
              have hD : va_D A (md_W cy a (upd (upd mn 0 (2 : Int32)) 5 x1) mf mk mg mv mt mm) := hD
              exact J_72 _ _ h _ _ _ hP hD hS (lv_sub hl [0, 1] rfl)
  refine lv_aload_n hx hb dX7_stops_0 rfl (lv_at hl 0 rfl) ?_
  refine kg (v := .ref (a 1)) S hE hP 0 rfl rfl 0 (by decide) q_4_13 rfl rfl inlX7 dX7_stops_1 ?_
  refine lv_bipush (v := (11 : Int32)) hx hb dX7_stops_4 (by decide) ?_
  refine kail (v := (mn 11)) S hE hP 1 rfl (vi_11 (by decide)) tc_11 rfl dX7_stops_6 ?_
  refine lv_iconst (v := (1 : Int32)) hx hb dX7_stops_7 (by decide) ?_
  refine lv_isub hx hb dX7_stops_8 ?_
  refine lv_istore_n (lv' := [(1, .int ((mn 11) - (1 : Int32))), (0, .ref (a 0))]) hx hb dX7_stops_9 rfl hl (by decide) rfl (fun ls hl => ?_)
  obtain ⟨k0, h⟩ := h
  exact L_10 _ k0 _ _ h _ _ _ hP hD hS (lv_sub hl [1, 0] rfl)
def vX7_judges_72 (mn : Nat → Int32) (mf : Nat → UInt32) (x1 : Int32) (K : ((Nat → Int32) × (Nat → UInt32)) → Prop)  : Prop :=
  (¬ (mn 0) = (3 : Int32) → K (mn, mf)) ∧ ((mn 0) = (3 : Int32) → (¬ x1 = (0 : Int32) → K (mn, mf)) ∧ (x1 = (0 : Int32) → ((fcl (mf 0) (1112014848 : UInt32)) ≤ (0 : Int32) → K (mn, mf)) ∧ (¬ (fcl (mf 0) (1112014848 : UInt32)) ≤ (0 : Int32) → K ((upd (upd mn 0 (2 : Int32)) 5 (-5 : Int32)), (vf_upd mf 4 (mf 0))))))
def vX7_judges_36 (mn : Nat → Int32) (mf : Nat → UInt32) (x1 : Int32) (y1 : Int32) (y2 : Int32) (K : ((Nat → Int32) × (Nat → UInt32)) → Prop)  : Prop :=
  vp_in y1 40 ∧ (¬ ((upd mn (Int32.toNatClampNeg y1) y2) 2) = (2 : Int32) → vX7_judges_72 (upd mn (Int32.toNatClampNeg y1) y2) mf x1 K ) ∧ (((upd mn (Int32.toNatClampNeg y1) y2) 2) = (2 : Int32) → vX7_judges_72 (upd (upd (upd (upd mn (Int32.toNatClampNeg y1) y2) 0 (3 : Int32)) 2 (0 : Int32)) 8 (((upd mn (Int32.toNatClampNeg y1) y2) 8) + (1 : Int32))) mf x1 K )
def vX7_judges (mn : Nat → Int32) (mf : Nat → UInt32) (K : ((Nat → Int32) × (Nat → UInt32)) → Prop) : Prop :=
  vX7_judged mn mf (fun r_1 u_1 => (¬ (mn 0) = (1 : Int32) → vX7_judges_72 mn mf r_1 K ) ∧ ((mn 0) = (1 : Int32) → (¬ r_1 = (0 : Int32) → vX7_judges_36 mn mf r_1 (2 : Int32) ((mn 2) + (1 : Int32)) K ) ∧ (r_1 = (0 : Int32) → vX7_judges_36 mn mf r_1 (2 : Int32) (0 : Int32) K )))
set_option maxRecDepth 100000 in
set_option maxHeartbeats 4000000 in
theorem ctX7_judges (l : Launch) (G : va_G) (cy : Nat → ClassId) (a : Nat → Nat) (mn : Nat → Int32) (mf : Nat → UInt32) (mk : Nat → Int32) (mg : Nat → UInt32) (mv : Nat → Int32) (mt : Nat → Int32) (mm : Nat → Int32)  (K : ((Nat → Int32) × (Nat → UInt32)) → Prop) (h : vX7_judges mn mf K) : Met l yX7_judges (ws_ yX7_judges cX7_judges 2 none) ({ frames := 5, cells := 0, slots := 0, locals := 109 } : Room) (CP G cy [.ref (a 0)] (md_W cy a mn mf mk mg mv mt mm)) (RV G K (fun u => md_W cy a u.1 u.2 mk mg mv mt mm) (A1 (md_W cy a mn mf mk mg mv mt mm))) 0 0 (A1 (md_W cy a mn mf mk mg mv mt mm)) := by
  refine hd_go (Qf := fun A => (RV G K (fun u => md_W cy a u.1 u.2 mk mg mv mt mm) A)) (by decide +kernel) (Nat.le_of_ble_eq_true rfl) ?_
  intro p e s m below meth c ls A hx hb hr hlocks S hE hP hD hS hl
  have hl : lv_has ls 2 [(0, .ref (a 0))] := hl
  unfold vX7_judges at h
  have J_72 : ∀ (mn : Nat → Int32) (mf : Nat → UInt32) (x1 : Int32), vX7_judges_72 mn mf x1 K  → ∀ (H : Heap) (locs : List Loc) (ls : Array Slot), va_P G vwCl (md_W cy a mn mf mk mg mv mt mm) H → va_D A (md_W cy a mn mf mk mg mv mt mm) → va_S A s.heap H locs → lv_has ls 2 [(0, .ref (a 0)), (1, .int x1)] → W p l e (headSpec (ws_ yX7_judges cX7_judges 2 none) ({ frames := 5, cells := 0, slots := 0, locals := 109 } : Room)).room s m ([.ref (a 0)] : List Value).toArray below meth c H locs 0 0 (MQ below (RV G K (fun u => md_W cy a u.1 u.2 mk mg mv mt mm) A) ([.ref (a 0)] : List Value).toArray s 0 0 A) (F0 m 72 ls []) := by
    intro mn mf x1 h H locs ls hP hD hS hl
    unfold vX7_judges_72 at h
    refine lv_aload_n hx hb dX7_judges_72 rfl (lv_at hl 0 rfl) ?_
    refine kg (v := .ref (a 1)) S hE hP 0 rfl rfl 0 (by decide) q_4_13 rfl rfl inlX7 dX7_judges_73 ?_
    refine lv_iconst (v := (0 : Int32)) hx hb dX7_judges_76 (by decide) ?_
    refine kail (v := (mn 0)) S hE hP 1 rfl (vi_0 (by decide)) tc_0 rfl dX7_judges_77 ?_
    refine lv_iconst (v := (3 : Int32)) hx hb dX7_judges_78 (by decide) ?_
    refine lv_icmp_ne (tgt := 125) hx hb dX7_judges_79 (by decide) (fun c_79 => ?_) (fun c_79 => ?_)
    · have h := h.1 c_79
      exact W.vret hx hb hr (fun t ht hW => ⟨⟨(mn, mf), rfl, h, ⟨hp_at ht hP, hD⟩⟩, hS.F ht⟩) hS.2.2 dX7_judges_125
    · have h := h.2 c_79
      refine lv_iload_n hx hb dX7_judges_82 rfl (lv_at hl 1 rfl) ?_
      refine lv_if_ne (tgt := 125) hx hb dX7_judges_83 (by decide) (fun c_83 => ?_) (fun c_83 => ?_)
      · have h := h.1 c_83
        exact W.vret hx hb hr (fun t ht hW => ⟨⟨(mn, mf), rfl, h, ⟨hp_at ht hP, hD⟩⟩, hS.F ht⟩) hS.2.2 dX7_judges_125
      · have h := h.2 c_83
        refine lv_aload_n hx hb dX7_judges_86 rfl (lv_at hl 0 rfl) ?_
        refine kg (v := .ref (a 2)) S hE hP 0 rfl rfl 1 (by decide) q_4_15 rfl rfl inlX7 dX7_judges_87 ?_
        refine lv_iconst (v := (0 : Int32)) hx hb dX7_judges_90 (by decide) ?_
        refine kafl (v := (mf 0)) S hE hP 2 rfl (vi_0 (by decide)) tc_0 rfl dX7_judges_91 ?_
        refine lv_ldcf hx hb S.2.2.2.1 (S.2.2.2.2 _ q_23_12) dX7_judges_92 ?_
        refine lv_fcmp hx hb dX7_judges_94 ?_
        refine lv_if_le (tgt := 125) hx hb dX7_judges_95 (by decide) (fun c_95 => ?_) (fun c_95 => ?_)
        · have h := h.1 c_95
          exact W.vret hx hb hr (fun t ht hW => ⟨⟨(mn, mf), rfl, h, ⟨hp_at ht hP, hD⟩⟩, hS.F ht⟩) hS.2.2 dX7_judges_125
        · have h := h.2 c_95
          refine lv_aload_n hx hb dX7_judges_98 rfl (lv_at hl 0 rfl) ?_
          refine kg (v := .ref (a 1)) S hE hP 0 rfl rfl 0 (by decide) q_4_13 rfl rfl inlX7 dX7_judges_99 ?_
          refine lv_iconst (v := (0 : Int32)) hx hb dX7_judges_102 (by decide) ?_
          refine lv_iconst (v := (2 : Int32)) hx hb dX7_judges_103 (by decide) ?_
          refine kais S hE hP hD hS 1 rfl (vi_0 (by decide)) tc_0 dX7_judges_104 (fun H locs hP hD hS => ?_)
          have hP : va_P G vwCl (md_W cy a (upd mn 0 (2 : Int32)) mf mk mg mv mt mm) H := hP
          have hD : va_D A (md_W cy a (upd mn 0 (2 : Int32)) mf mk mg mv mt mm) := hD
          refine lv_aload_n hx hb dX7_judges_105 rfl (lv_at hl 0 rfl) ?_
          refine kg (v := .ref (a 1)) S hE hP 0 rfl rfl 0 (by decide) q_4_13 rfl rfl inlX7 dX7_judges_106 ?_
          refine lv_iconst (v := (5 : Int32)) hx hb dX7_judges_109 (by decide) ?_
          refine lv_bipush (v := (-5 : Int32)) hx hb dX7_judges_110 (by decide) ?_
          refine kais S hE hP hD hS 1 rfl (vi_5 (by decide)) tc_5 dX7_judges_112 (fun H locs hP hD hS => ?_)
          have hP : va_P G vwCl (md_W cy a (upd (upd mn 0 (2 : Int32)) 5 (-5 : Int32)) mf mk mg mv mt mm) H := hP
          have hD : va_D A (md_W cy a (upd (upd mn 0 (2 : Int32)) 5 (-5 : Int32)) mf mk mg mv mt mm) := hD
          refine lv_aload_n hx hb dX7_judges_113 rfl (lv_at hl 0 rfl) ?_
          refine kg (v := .ref (a 2)) S hE hP 0 rfl rfl 1 (by decide) q_4_15 rfl rfl inlX7 dX7_judges_114 ?_
          refine lv_iconst (v := (4 : Int32)) hx hb dX7_judges_117 (by decide) ?_
          refine lv_aload_n hx hb dX7_judges_118 rfl (lv_at hl 0 rfl) ?_
          refine kg (v := .ref (a 2)) S hE hP 0 rfl rfl 1 (by decide) q_4_15 rfl rfl inlX7 dX7_judges_119 ?_
          refine lv_iconst (v := (0 : Int32)) hx hb dX7_judges_122 (by decide) ?_
          refine kafl (v := (mf 0)) S hE hP 2 rfl (vi_0 (by decide)) tc_0 rfl dX7_judges_123 ?_
          refine kafs S hE hP hD hS 2 rfl (vi_4 (by decide)) tc_4 dX7_judges_124 (fun H locs hP hD hS => ?_)
          have hP : va_P G vwCl (md_W cy a (upd (upd mn 0 (2 : Int32)) 5 (-5 : Int32)) (vf_upd mf 4 (mf 0)) mk mg mv mt mm) H := hP
          have hD : va_D A (md_W cy a (upd (upd mn 0 (2 : Int32)) 5 (-5 : Int32)) (vf_upd mf 4 (mf 0)) mk mg mv mt mm) := hD
          exact W.vret hx hb hr (fun t ht hW => ⟨⟨((upd (upd mn 0 (2 : Int32)) 5 (-5 : Int32)), (vf_upd mf 4 (mf 0))), rfl, h, ⟨hp_at ht hP, hD⟩⟩, hS.F ht⟩) hS.2.2 dX7_judges_125
  have J_36 : ∀ (mn : Nat → Int32) (mf : Nat → UInt32) (x1 : Int32) (y1 : Int32) (y2 : Int32), vX7_judges_36 mn mf x1 y1 y2 K  → ∀ (H : Heap) (locs : List Loc) (ls : Array Slot), va_P G vwCl (md_W cy a mn mf mk mg mv mt mm) H → va_D A (md_W cy a mn mf mk mg mv mt mm) → va_S A s.heap H locs → lv_has ls 2 [(0, .ref (a 0)), (1, .int x1)] → W p l e (headSpec (ws_ yX7_judges cX7_judges 2 none) ({ frames := 5, cells := 0, slots := 0, locals := 109 } : Room)).room s m ([.ref (a 0)] : List Value).toArray below meth c H locs 0 0 (MQ below (RV G K (fun u => md_W cy a u.1 u.2 mk mg mv mt mm) A) ([.ref (a 0)] : List Value).toArray s 0 0 A) (F0 m 36 ls [.int y2, .int y1, .ref (a 1)]) := by
    intro mn mf x1 y1 y2 h H locs ls hP hD hS hl
    unfold vX7_judges_36 at h
    refine kais S hE hP hD hS 1 rfl h.1 rfl dX7_judges_36 (fun H locs hP hD hS => ?_)
    have h := h.2
    have hP : va_P G vwCl (md_W cy a (upd mn (Int32.toNatClampNeg y1) y2) mf mk mg mv mt mm) H := hP
    have hD : va_D A (md_W cy a (upd mn (Int32.toNatClampNeg y1) y2) mf mk mg mv mt mm) := hD
    refine lv_aload_n hx hb dX7_judges_37 rfl (lv_at hl 0 rfl) ?_
    refine kg (v := .ref (a 1)) S hE hP 0 rfl rfl 0 (by decide) q_4_13 rfl rfl inlX7 dX7_judges_38 ?_
    refine lv_iconst (v := (2 : Int32)) hx hb dX7_judges_41 (by decide) ?_
    refine kail (v := ((upd mn (Int32.toNatClampNeg y1) y2) 2)) S hE hP 1 rfl (vi_2 (by decide)) tc_2 rfl dX7_judges_42 ?_
    refine lv_iconst (v := (2 : Int32)) hx hb dX7_judges_43 (by decide) ?_
    refine lv_icmp_ne (tgt := 72) hx hb dX7_judges_44 (by decide) (fun c_44 => ?_) (fun c_44 => ?_)
    · have h := h.1 c_44
      exact J_72 _ _ _ h _ _ _ hP hD hS (lv_sub hl [0, 1] rfl)
    · have h := h.2 c_44
      refine lv_aload_n hx hb dX7_judges_47 rfl (lv_at hl 0 rfl) ?_
      refine kg (v := .ref (a 1)) S hE hP 0 rfl rfl 0 (by decide) q_4_13 rfl rfl inlX7 dX7_judges_48 ?_
      refine lv_iconst (v := (0 : Int32)) hx hb dX7_judges_51 (by decide) ?_
      refine lv_iconst (v := (3 : Int32)) hx hb dX7_judges_52 (by decide) ?_
      refine kais S hE hP hD hS 1 rfl (vi_0 (by decide)) tc_0 dX7_judges_53 (fun H locs hP hD hS => ?_)
      have hP : va_P G vwCl (md_W cy a (upd (upd mn (Int32.toNatClampNeg y1) y2) 0 (3 : Int32)) mf mk mg mv mt mm) H := hP
      have hD : va_D A (md_W cy a (upd (upd mn (Int32.toNatClampNeg y1) y2) 0 (3 : Int32)) mf mk mg mv mt mm) := hD
      refine lv_aload_n hx hb dX7_judges_54 rfl (lv_at hl 0 rfl) ?_
      refine kg (v := .ref (a 1)) S hE hP 0 rfl rfl 0 (by decide) q_4_13 rfl rfl inlX7 dX7_judges_55 ?_
      refine lv_iconst (v := (2 : Int32)) hx hb dX7_judges_58 (by decide) ?_
      refine lv_iconst (v := (0 : Int32)) hx hb dX7_judges_59 (by decide) ?_
      refine kais S hE hP hD hS 1 rfl (vi_2 (by decide)) tc_2 dX7_judges_60 (fun H locs hP hD hS => ?_)
      have hP : va_P G vwCl (md_W cy a (upd (upd (upd mn (Int32.toNatClampNeg y1) y2) 0 (3 : Int32)) 2 (0 : Int32)) mf mk mg mv mt mm) H := hP
      have hD : va_D A (md_W cy a (upd (upd (upd mn (Int32.toNatClampNeg y1) y2) 0 (3 : Int32)) 2 (0 : Int32)) mf mk mg mv mt mm) := hD
      refine lv_aload_n hx hb dX7_judges_61 rfl (lv_at hl 0 rfl) ?_
      refine kg (v := .ref (a 1)) S hE hP 0 rfl rfl 0 (by decide) q_4_13 rfl rfl inlX7 dX7_judges_62 ?_
      refine lv_bipush (v := (8 : Int32)) hx hb dX7_judges_65 (by decide) ?_
      refine lv_dup2_11 hx hb dX7_judges_67 rfl rfl ?_
      refine kail (v := ((upd mn (Int32.toNatClampNeg y1) y2) 8)) S hE hP 1 rfl (vi_8 (by decide)) tc_8 rfl dX7_judges_68 ?_
      refine lv_iconst (v := (1 : Int32)) hx hb dX7_judges_69 (by decide) ?_
      refine lv_iadd hx hb dX7_judges_70 ?_
      refine kais S hE hP hD hS 1 rfl (vi_8 (by decide)) tc_8 dX7_judges_71 (fun H locs hP hD hS => ?_)
      have hP : va_P G vwCl (md_W cy a (upd (upd (upd (upd mn (Int32.toNatClampNeg y1) y2) 0 (3 : Int32)) 2 (0 : Int32)) 8 (((upd mn (Int32.toNatClampNeg y1) y2) 8) + (1 : Int32))) mf mk mg mv mt mm) H := hP
      have hD : va_D A (md_W cy a (upd (upd (upd (upd mn (Int32.toNatClampNeg y1) y2) 0 (3 : Int32)) 2 (0 : Int32)) 8 (((upd mn (Int32.toNatClampNeg y1) y2) 8) + (1 : Int32))) mf mk mg mv mt mm) := hD
      exact J_72 _ _ _ h _ _ _ hP hD hS (lv_sub hl [0, 1] rfl)
  refine lv_aload_n hx hb dX7_judges_0 rfl (lv_at hl 0 rfl) ?_
  refine kc_Vi0 (As := []) (rest := []) S hE (ctX7_judged l G cy a mn mf mk mg mv mt mm  _ h) q_9_12 q_9_13 q_9_14 q_1_5 q_9_15 rfl 0 rfl rfl ydX7_judged ⟨⟨rfl, rfl⟩, ⟨Nat.le_of_ble_eq_true rfl, Nat.le_of_ble_eq_true rfl⟩⟩ ⟨Nat.zero_le _, Nat.zero_le _⟩ hP hD hS rfl hl.1 rfl (Nat.le_of_ble_eq_true rfl) dX7_judges_1 (fun r_1 u_1 H locs h hP hD hS => ?_)
  refine lv_istore_n (lv' := [(1, .int r_1), (0, .ref (a 0))]) hx hb dX7_judges_4 rfl hl (by decide) rfl (fun ls hl => ?_)
  refine lv_aload_n hx hb dX7_judges_5 rfl (lv_at hl 1 rfl) ?_
  refine kg (v := .ref (a 1)) S hE hP 0 rfl rfl 0 (by decide) q_4_13 rfl rfl inlX7 dX7_judges_6 ?_
  refine lv_iconst (v := (0 : Int32)) hx hb dX7_judges_9 (by decide) ?_
  refine kail (v := (mn 0)) S hE hP 1 rfl (vi_0 (by decide)) tc_0 rfl dX7_judges_10 ?_
  refine lv_iconst (v := (1 : Int32)) hx hb dX7_judges_11 (by decide) ?_
  refine lv_icmp_ne (tgt := 72) hx hb dX7_judges_12 (by decide) (fun c_12 => ?_) (fun c_12 => ?_)
  · have h := h.1 c_12
    exact J_72 _ _ _ h _ _ _ hP hD hS (lv_sub hl [1, 0] rfl)
  · have h := h.2 c_12
    refine lv_aload_n hx hb dX7_judges_15 rfl (lv_at hl 1 rfl) ?_
    refine kg (v := .ref (a 1)) S hE hP 0 rfl rfl 0 (by decide) q_4_13 rfl rfl inlX7 dX7_judges_16 ?_
    refine lv_iconst (v := (2 : Int32)) hx hb dX7_judges_19 (by decide) ?_
    refine lv_iload_n hx hb dX7_judges_20 rfl (lv_at hl 0 rfl) ?_
    refine lv_if_ne (tgt := 28) hx hb dX7_judges_21 (by decide) (fun c_21 => ?_) (fun c_21 => ?_)
    · have h := h.1 c_21
      refine lv_aload_n hx hb dX7_judges_28 rfl (lv_at hl 1 rfl) ?_
      refine kg (v := .ref (a 1)) S hE hP 0 rfl rfl 0 (by decide) q_4_13 rfl rfl inlX7 dX7_judges_29 ?_
      refine lv_iconst (v := (2 : Int32)) hx hb dX7_judges_32 (by decide) ?_
      refine kail (v := (mn 2)) S hE hP 1 rfl (vi_2 (by decide)) tc_2 rfl dX7_judges_33 ?_
      refine lv_iconst (v := (1 : Int32)) hx hb dX7_judges_34 (by decide) ?_
      refine lv_iadd hx hb dX7_judges_35 ?_
      exact J_36 _ _ _ _ _ h _ _ _ hP hD hS (lv_sub hl [1, 0] rfl)
    · have h := h.2 c_21
      refine lv_iconst (v := (0 : Int32)) hx hb dX7_judges_24 (by decide) ?_
      refine lv_goto (tgt := 36) hx hb dX7_judges_25 (by decide) ?_
      exact J_36 _ _ _ _ _ h _ _ _ hP hD hS (lv_sub hl [1, 0] rfl)
def vX7_passesSecond_97 (mn : Nat → Int32) (mf : Nat → UInt32) (K : ((Nat → Int32) × (Nat → UInt32)) → Prop)  : Prop :=
  vX7_judges mn mf (fun u_98 => K (u_98.1, u_98.2))
def vX7_passesSecond_77 (mn : Nat → Int32) (mf : Nat → UInt32) (K : ((Nat → Int32) × (Nat → UInt32)) → Prop)  : Prop :=
  ((mn 0) = (1 : Int32) → vX7_passesSecond_97 mn mf K ) ∧ (¬ (mn 0) = (1 : Int32) → (¬ (mn 0) = (3 : Int32) → K (mn, mf)) ∧ ((mn 0) = (3 : Int32) → vX7_passesSecond_97 mn mf K ))
def vX7_passesSecond_43 (mn : Nat → Int32) (mf : Nat → UInt32) (K : ((Nat → Int32) × (Nat → UInt32)) → Prop)  : Prop :=
  ((0 : Int32) < (fcg (mf 0) FP.fconst0) → vX7_senses mn mf (fun u_60 => (¬ (u_60 0) = (1 : Int32) → vX7_passesSecond_77 u_60 mf K ) ∧ ((u_60 0) = (1 : Int32) → vX7_stops u_60 mf (fun u_74 => vX7_passesSecond_77 u_74 mf K )))) ∧ (¬ (0 : Int32) < (fcg (mf 0) FP.fconst0) → vX7_arrives mn mf (fun u_55 => K (u_55.1, u_55.2)))
def vX7_passesSecond (mn : Nat → Int32) (mf : Nat → UInt32) (K : ((Nat → Int32) × (Nat → UInt32)) → Prop) : Prop :=
  ((mn 0) < (4 : Int32) → (¬ (mn 0) = (0 : Int32) → vX7_guides (upd mn 1 ((mn 1) + (1 : Int32))) mf (fun u_40 => vX7_passesSecond_43 (upd mn 1 ((mn 1) + (1 : Int32))) u_40 K )) ∧ ((mn 0) = (0 : Int32) → vX7_moves mf FP.fconst0 FP.fconst0 (fun u_33 => vX7_passesSecond_43 (upd mn 1 ((mn 1) + (1 : Int32))) u_33 K ))) ∧ (¬ (mn 0) < (4 : Int32) → K ((upd mn 1 ((mn 1) + (1 : Int32))), mf))
set_option maxRecDepth 100000 in
set_option maxHeartbeats 4000000 in
theorem ctX7_passesSecond (l : Launch) (G : va_G) (cy : Nat → ClassId) (a : Nat → Nat) (mn : Nat → Int32) (mf : Nat → UInt32) (mk : Nat → Int32) (mg : Nat → UInt32) (mv : Nat → Int32) (mt : Nat → Int32) (mm : Nat → Int32)  (K : ((Nat → Int32) × (Nat → UInt32)) → Prop) (h : vX7_passesSecond mn mf K) : Met l yX7_passesSecond (ws_ yX7_passesSecond cX7_passesSecond 1 none) ({ frames := 6, cells := 0, slots := 0, locals := 130 } : Room) (CP G cy [.ref (a 0)] (md_W cy a mn mf mk mg mv mt mm)) (RV G K (fun u => md_W cy a u.1 u.2 mk mg mv mt mm) (A1 (md_W cy a mn mf mk mg mv mt mm))) 0 0 (A1 (md_W cy a mn mf mk mg mv mt mm)) := by
  refine hd_go (Qf := fun A => (RV G K (fun u => md_W cy a u.1 u.2 mk mg mv mt mm) A)) (by decide +kernel) (Nat.le_of_ble_eq_true rfl) ?_
  intro p e s m below meth c ls A hx hb hr hlocks S hE hP hD hS hl
  have hl : lv_has ls 1 [(0, .ref (a 0))] := hl
  unfold vX7_passesSecond at h
  have J_97 : ∀ (mn : Nat → Int32) (mf : Nat → UInt32), vX7_passesSecond_97 mn mf K  → ∀ (H : Heap) (locs : List Loc) (ls : Array Slot), va_P G vwCl (md_W cy a mn mf mk mg mv mt mm) H → va_D A (md_W cy a mn mf mk mg mv mt mm) → va_S A s.heap H locs → lv_has ls 1 [(0, .ref (a 0))] → W p l e (headSpec (ws_ yX7_passesSecond cX7_passesSecond 1 none) ({ frames := 6, cells := 0, slots := 0, locals := 130 } : Room)).room s m ([.ref (a 0)] : List Value).toArray below meth c H locs 0 0 (MQ below (RV G K (fun u => md_W cy a u.1 u.2 mk mg mv mt mm) A) ([.ref (a 0)] : List Value).toArray s 0 0 A) (F0 m 97 ls []) := by
    intro mn mf h H locs ls hP hD hS hl
    unfold vX7_passesSecond_97 at h
    refine lv_aload_n hx hb dX7_passesSecond_97 rfl (lv_at hl 0 rfl) ?_
    refine kc_Vv0 (As := []) (rest := []) S hE (ctX7_judges l G cy a mn mf mk mg mv mt mm  _ h) q_23_8 q_23_9 q_23_10 q_1_5 q_23_11 rfl 0 rfl rfl ydX7_judges ⟨⟨rfl, rfl⟩, ⟨Nat.le_of_ble_eq_true rfl, Nat.le_of_ble_eq_true rfl⟩⟩ ⟨Nat.zero_le _, Nat.zero_le _⟩ hP hD hS rfl hl.1 rfl (Nat.le_of_ble_eq_true rfl) dX7_passesSecond_98 (fun u_98 H locs h hP hD hS => ?_)
    exact W.vret hx hb hr (fun t ht hW => ⟨⟨(u_98.1, u_98.2), rfl, h, ⟨hp_at ht hP, hD⟩⟩, hS.F ht⟩) hS.2.2 dX7_passesSecond_101
  have J_77 : ∀ (mn : Nat → Int32) (mf : Nat → UInt32), vX7_passesSecond_77 mn mf K  → ∀ (H : Heap) (locs : List Loc) (ls : Array Slot), va_P G vwCl (md_W cy a mn mf mk mg mv mt mm) H → va_D A (md_W cy a mn mf mk mg mv mt mm) → va_S A s.heap H locs → lv_has ls 1 [(0, .ref (a 0))] → W p l e (headSpec (ws_ yX7_passesSecond cX7_passesSecond 1 none) ({ frames := 6, cells := 0, slots := 0, locals := 130 } : Room)).room s m ([.ref (a 0)] : List Value).toArray below meth c H locs 0 0 (MQ below (RV G K (fun u => md_W cy a u.1 u.2 mk mg mv mt mm) A) ([.ref (a 0)] : List Value).toArray s 0 0 A) (F0 m 77 ls []) := by
    intro mn mf h H locs ls hP hD hS hl
    unfold vX7_passesSecond_77 at h
    refine lv_aload_n hx hb dX7_passesSecond_77 rfl (lv_at hl 0 rfl) ?_
    refine kg (v := .ref (a 1)) S hE hP 0 rfl rfl 0 (by decide) q_4_13 rfl rfl inlX7 dX7_passesSecond_78 ?_
    refine lv_iconst (v := (0 : Int32)) hx hb dX7_passesSecond_81 (by decide) ?_
    refine kail (v := (mn 0)) S hE hP 1 rfl (vi_0 (by decide)) tc_0 rfl dX7_passesSecond_82 ?_
    refine lv_iconst (v := (1 : Int32)) hx hb dX7_passesSecond_83 (by decide) ?_
    refine lv_icmp_eq (tgt := 97) hx hb dX7_passesSecond_84 (by decide) (fun c_84 => ?_) (fun c_84 => ?_)
    · have h := h.1 c_84
      exact J_97 _ _ h _ _ _ hP hD hS (lv_sub hl [0] rfl)
    · have h := h.2 c_84
      refine lv_aload_n hx hb dX7_passesSecond_87 rfl (lv_at hl 0 rfl) ?_
      refine kg (v := .ref (a 1)) S hE hP 0 rfl rfl 0 (by decide) q_4_13 rfl rfl inlX7 dX7_passesSecond_88 ?_
      refine lv_iconst (v := (0 : Int32)) hx hb dX7_passesSecond_91 (by decide) ?_
      refine kail (v := (mn 0)) S hE hP 1 rfl (vi_0 (by decide)) tc_0 rfl dX7_passesSecond_92 ?_
      refine lv_iconst (v := (3 : Int32)) hx hb dX7_passesSecond_93 (by decide) ?_
      refine lv_icmp_ne (tgt := 101) hx hb dX7_passesSecond_94 (by decide) (fun c_94 => ?_) (fun c_94 => ?_)
      · have h := h.1 c_94
        exact W.vret hx hb hr (fun t ht hW => ⟨⟨(mn, mf), rfl, h, ⟨hp_at ht hP, hD⟩⟩, hS.F ht⟩) hS.2.2 dX7_passesSecond_101
      · have h := h.2 c_94
        exact J_97 _ _ h _ _ _ hP hD hS (lv_sub hl [0] rfl)
  have J_43 : ∀ (mn : Nat → Int32) (mf : Nat → UInt32), vX7_passesSecond_43 mn mf K  → ∀ (H : Heap) (locs : List Loc) (ls : Array Slot), va_P G vwCl (md_W cy a mn mf mk mg mv mt mm) H → va_D A (md_W cy a mn mf mk mg mv mt mm) → va_S A s.heap H locs → lv_has ls 1 [(0, .ref (a 0))] → W p l e (headSpec (ws_ yX7_passesSecond cX7_passesSecond 1 none) ({ frames := 6, cells := 0, slots := 0, locals := 130 } : Room)).room s m ([.ref (a 0)] : List Value).toArray below meth c H locs 0 0 (MQ below (RV G K (fun u => md_W cy a u.1 u.2 mk mg mv mt mm) A) ([.ref (a 0)] : List Value).toArray s 0 0 A) (F0 m 43 ls []) := by
    intro mn mf h H locs ls hP hD hS hl
    unfold vX7_passesSecond_43 at h
    refine lv_aload_n hx hb dX7_passesSecond_43 rfl (lv_at hl 0 rfl) ?_
    refine kg (v := .ref (a 2)) S hE hP 0 rfl rfl 1 (by decide) q_4_15 rfl rfl inlX7 dX7_passesSecond_44 ?_
    refine lv_iconst (v := (0 : Int32)) hx hb dX7_passesSecond_47 (by decide) ?_
    refine kafl (v := (mf 0)) S hE hP 2 rfl (vi_0 (by decide)) tc_0 rfl dX7_passesSecond_48 ?_
    refine lv_fconst0 hx hb dX7_passesSecond_49 ?_
    refine lv_fcmp hx hb dX7_passesSecond_50 ?_
    refine lv_if_gt (tgt := 59) hx hb dX7_passesSecond_51 (by decide) (fun c_51 => ?_) (fun c_51 => ?_)
    · have h := h.1 c_51
      refine lv_aload_n hx hb dX7_passesSecond_59 rfl (lv_at hl 0 rfl) ?_
      refine kc_Vv0 (As := []) (rest := []) S hE (ctX7_senses l G cy a mn mf mk mg mv mt mm  _ h) q_22_18 q_22_19 q_22_20 q_1_5 q_22_21 rfl 0 rfl rfl ydX7_senses ⟨⟨rfl, rfl⟩, ⟨Nat.le_of_ble_eq_true rfl, Nat.le_of_ble_eq_true rfl⟩⟩ ⟨Nat.zero_le _, Nat.zero_le _⟩ hP hD hS rfl hl.1 rfl (Nat.le_of_ble_eq_true rfl) dX7_passesSecond_60 (fun u_60 H locs h hP hD hS => ?_)
      refine lv_aload_n hx hb dX7_passesSecond_63 rfl (lv_at hl 0 rfl) ?_
      refine kg (v := .ref (a 1)) S hE hP 0 rfl rfl 0 (by decide) q_4_13 rfl rfl inlX7 dX7_passesSecond_64 ?_
      refine lv_iconst (v := (0 : Int32)) hx hb dX7_passesSecond_67 (by decide) ?_
      refine kail (v := (u_60 0)) S hE hP 1 rfl (vi_0 (by decide)) tc_0 rfl dX7_passesSecond_68 ?_
      refine lv_iconst (v := (1 : Int32)) hx hb dX7_passesSecond_69 (by decide) ?_
      refine lv_icmp_ne (tgt := 77) hx hb dX7_passesSecond_70 (by decide) (fun c_70 => ?_) (fun c_70 => ?_)
      · have h := h.1 c_70
        exact J_77 _ _ h _ _ _ hP hD hS (lv_sub hl [0] rfl)
      · have h := h.2 c_70
        refine lv_aload_n hx hb dX7_passesSecond_73 rfl (lv_at hl 0 rfl) ?_
        refine kc_Vv0 (As := []) (rest := []) S hE (ctX7_stops l G cy a u_60 mf mk mg mv mt mm  _ h) q_23_3 q_23_4 q_23_5 q_1_5 q_23_6 rfl 0 rfl rfl ydX7_stops ⟨⟨rfl, rfl⟩, ⟨Nat.le_of_ble_eq_true rfl, Nat.le_of_ble_eq_true rfl⟩⟩ ⟨Nat.zero_le _, Nat.zero_le _⟩ hP hD hS rfl hl.1 rfl (Nat.le_of_ble_eq_true rfl) dX7_passesSecond_74 (fun u_74 H locs h hP hD hS => ?_)
        exact J_77 _ _ h _ _ _ hP hD hS (lv_sub hl [0] rfl)
    · have h := h.2 c_51
      refine lv_aload_n hx hb dX7_passesSecond_54 rfl (lv_at hl 0 rfl) ?_
      refine kc_Vv0 (As := []) (rest := []) S hE (ctX7_arrives l G cy a mn mf mk mg mv mt mm  _ h) q_22_14 q_22_15 q_22_16 q_1_5 q_22_17 rfl 0 rfl rfl ydX7_arrives ⟨⟨rfl, rfl⟩, ⟨Nat.le_of_ble_eq_true rfl, Nat.le_of_ble_eq_true rfl⟩⟩ ⟨Nat.zero_le _, Nat.zero_le _⟩ hP hD hS rfl hl.1 rfl (Nat.le_of_ble_eq_true rfl) dX7_passesSecond_55 (fun u_55 H locs h hP hD hS => ?_)
      exact W.vret hx hb hr (fun t ht hW => ⟨⟨(u_55.1, u_55.2), rfl, h, ⟨hp_at ht hP, hD⟩⟩, hS.F ht⟩) hS.2.2 dX7_passesSecond_58
  refine lv_aload_n hx hb dX7_passesSecond_0 rfl (lv_at hl 0 rfl) ?_
  refine kg (v := .ref (a 1)) S hE hP 0 rfl rfl 0 (by decide) q_4_13 rfl rfl inlX7 dX7_passesSecond_1 ?_
  refine lv_iconst (v := (1 : Int32)) hx hb dX7_passesSecond_4 (by decide) ?_
  refine lv_dup2_11 hx hb dX7_passesSecond_5 rfl rfl ?_
  refine kail (v := (mn 1)) S hE hP 1 rfl (vi_1 (by decide)) tc_1 rfl dX7_passesSecond_6 ?_
  refine lv_iconst (v := (1 : Int32)) hx hb dX7_passesSecond_7 (by decide) ?_
  refine lv_iadd hx hb dX7_passesSecond_8 ?_
  refine kais S hE hP hD hS 1 rfl (vi_1 (by decide)) tc_1 dX7_passesSecond_9 (fun H locs hP hD hS => ?_)
  have hP : va_P G vwCl (md_W cy a (upd mn 1 ((mn 1) + (1 : Int32))) mf mk mg mv mt mm) H := hP
  have hD : va_D A (md_W cy a (upd mn 1 ((mn 1) + (1 : Int32))) mf mk mg mv mt mm) := hD
  refine lv_aload_n hx hb dX7_passesSecond_10 rfl (lv_at hl 0 rfl) ?_
  refine kg (v := .ref (a 1)) S hE hP 0 rfl rfl 0 (by decide) q_4_13 rfl rfl inlX7 dX7_passesSecond_11 ?_
  refine lv_iconst (v := (0 : Int32)) hx hb dX7_passesSecond_14 (by decide) ?_
  refine kail (v := (mn 0)) S hE hP 1 rfl (vi_0 (by decide)) tc_0 rfl dX7_passesSecond_15 ?_
  refine lv_iconst (v := (4 : Int32)) hx hb dX7_passesSecond_16 (by decide) ?_
  refine lv_icmp_lt (tgt := 21) hx hb dX7_passesSecond_17 (by decide) (fun c_17 => ?_) (fun c_17 => ?_)
  · have h := h.1 c_17
    refine lv_aload_n hx hb dX7_passesSecond_21 rfl (lv_at hl 0 rfl) ?_
    refine kg (v := .ref (a 1)) S hE hP 0 rfl rfl 0 (by decide) q_4_13 rfl rfl inlX7 dX7_passesSecond_22 ?_
    refine lv_iconst (v := (0 : Int32)) hx hb dX7_passesSecond_25 (by decide) ?_
    refine kail (v := (mn 0)) S hE hP 1 rfl (vi_0 (by decide)) tc_0 rfl dX7_passesSecond_26 ?_
    refine lv_if_ne (tgt := 39) hx hb dX7_passesSecond_27 (by decide) (fun c_27 => ?_) (fun c_27 => ?_)
    · have h := h.1 c_27
      refine lv_aload_n hx hb dX7_passesSecond_39 rfl (lv_at hl 0 rfl) ?_
      refine kc_Vv0 (As := []) (rest := []) S hE (ctX7_guides l G cy a (upd mn 1 ((mn 1) + (1 : Int32))) mf mk mg mv mt mm  _ h) q_21_13 q_21_14 q_21_15 q_1_5 q_21_16 rfl 0 rfl rfl ydX7_guides ⟨⟨rfl, rfl⟩, ⟨Nat.le_of_ble_eq_true rfl, Nat.le_of_ble_eq_true rfl⟩⟩ ⟨Nat.zero_le _, Nat.zero_le _⟩ hP hD hS rfl hl.1 rfl (Nat.le_of_ble_eq_true rfl) dX7_passesSecond_40 (fun u_40 H locs h hP hD hS => ?_)
      exact J_43 _ _ h _ _ _ hP hD hS (lv_sub hl [0] rfl)
    · have h := h.2 c_27
      refine lv_aload_n hx hb dX7_passesSecond_30 rfl (lv_at hl 0 rfl) ?_
      refine lv_fconst0 hx hb dX7_passesSecond_31 ?_
      refine lv_fconst0 hx hb dX7_passesSecond_32 ?_
      refine kc_Vv0 (As := [.float FP.fconst0, .float FP.fconst0]) (rest := []) S hE (ctX7_moves l G cy a (upd mn 1 ((mn 1) + (1 : Int32))) mf mk mg mv mt mm FP.fconst0 FP.fconst0 _ h) q_21_9 q_21_10 q_21_11 q_1_5 q_21_12 rfl 0 rfl rfl ydX7_moves ⟨⟨rfl, rfl⟩, ⟨Nat.le_of_ble_eq_true rfl, Nat.le_of_ble_eq_true rfl⟩⟩ ⟨Nat.zero_le _, Nat.zero_le _⟩ hP hD hS rfl hl.1 rfl (Nat.le_of_ble_eq_true rfl) dX7_passesSecond_33 (fun u_33 H locs h hP hD hS => ?_)
      refine lv_goto (tgt := 43) hx hb dX7_passesSecond_36 (by decide) ?_
      exact J_43 _ _ h _ _ _ hP hD hS (lv_sub hl [0] rfl)
  · have h := h.2 c_17
    exact W.vret hx hb hr (fun t ht hW => ⟨⟨((upd mn 1 ((mn 1) + (1 : Int32))), mf), rfl, h, ⟨hp_at ht hP, hD⟩⟩, hS.F ht⟩) hS.2.2 dX7_passesSecond_20
def vX7_modeError_20 (mn : Nat → Int32) (K : Int32 → Unit → Prop)  : Prop :=
  K (-3 : Int32) ()
def vX7_modeError (mn : Nat → Int32) (p1 : Int32) (K : Int32 → Unit → Prop) : Prop :=
  ((mn 0) = p1 → vX7_modeError_20 mn K ) ∧ (¬ (mn 0) = p1 → ((mn 0) < (4 : Int32) → K (0 : Int32) ()) ∧ (¬ (mn 0) < (4 : Int32) → vX7_modeError_20 mn K ))
set_option maxRecDepth 100000 in
set_option maxHeartbeats 4000000 in
theorem ctX7_modeError (l : Launch) (G : va_G) (cy : Nat → ClassId) (a : Nat → Nat) (mn : Nat → Int32) (mf : Nat → UInt32) (mk : Nat → Int32) (mg : Nat → UInt32) (mv : Nat → Int32) (mt : Nat → Int32) (mm : Nat → Int32) (p1 : Int32) (K : Int32 → Unit → Prop) (h : vX7_modeError mn p1 K) : Met l yX7_modeError (ws_ yX7_modeError cX7_modeError 2 (some .int)) ({ frames := 0, cells := 0, slots := 0, locals := 0 } : Room) (CP G cy [.ref (a 0), .int p1] (md_W cy a mn mf mk mg mv mt mm)) (RI G K (fun u => md_W cy a mn mf mk mg mv mt mm) (A1 (md_W cy a mn mf mk mg mv mt mm))) 0 0 (A1 (md_W cy a mn mf mk mg mv mt mm)) := by
  refine hd_go (Qf := fun A => (RI G K (fun u => md_W cy a mn mf mk mg mv mt mm) A)) (by decide +kernel) (Nat.le_of_ble_eq_true rfl) ?_
  intro p e s m below meth c ls A hx hb hr hlocks S hE hP hD hS hl
  have hl : lv_has ls 2 [(0, .ref (a 0)), (1, .int p1)] := hl
  unfold vX7_modeError at h
  have J_20 : ∀ (mn : Nat → Int32), vX7_modeError_20 mn K  → ∀ (H : Heap) (locs : List Loc) (ls : Array Slot), va_P G vwCl (md_W cy a mn mf mk mg mv mt mm) H → va_D A (md_W cy a mn mf mk mg mv mt mm) → va_S A s.heap H locs → lv_has ls 2 [] → W p l e (headSpec (ws_ yX7_modeError cX7_modeError 2 (some .int)) ({ frames := 0, cells := 0, slots := 0, locals := 0 } : Room)).room s m ([.ref (a 0), .int p1] : List Value).toArray below meth c H locs 0 0 (MQ below (RI G K (fun u => md_W cy a mn mf mk mg mv mt mm) A) ([.ref (a 0), .int p1] : List Value).toArray s 0 0 A) (F0 m 20 ls []) := by
    intro mn h H locs ls hP hD hS hl
    unfold vX7_modeError_20 at h
    refine lv_bipush (v := (-3 : Int32)) hx hb dX7_modeError_20 (by decide) ?_
    refine lv_goto (tgt := 26) hx hb dX7_modeError_22 (by decide) ?_
    exact W.iret (v := (-3 : Int32)) hx hb hr (fun t ht hW => ⟨⟨(-3 : Int32), (), rfl, h, ⟨hp_at ht hP, hD⟩⟩, hS.F ht⟩) hS.2.2 dX7_modeError_26
  refine lv_aload_n hx hb dX7_modeError_0 rfl (lv_at hl 0 rfl) ?_
  refine kg (v := .ref (a 1)) S hE hP 0 rfl rfl 0 (by decide) q_4_13 rfl rfl inlX7 dX7_modeError_1 ?_
  refine lv_iconst (v := (0 : Int32)) hx hb dX7_modeError_4 (by decide) ?_
  refine kail (v := (mn 0)) S hE hP 1 rfl (vi_0 (by decide)) tc_0 rfl dX7_modeError_5 ?_
  refine lv_iload_n hx hb dX7_modeError_6 rfl (lv_at hl 1 rfl) ?_
  refine lv_icmp_eq (tgt := 20) hx hb dX7_modeError_7 (by decide) (fun c_7 => ?_) (fun c_7 => ?_)
  · have h := h.1 c_7
    exact J_20 _ h _ _ _ hP hD hS (lv_sub hl [] rfl)
  · have h := h.2 c_7
    refine lv_aload_n hx hb dX7_modeError_10 rfl (lv_at hl 0 rfl) ?_
    refine kg (v := .ref (a 1)) S hE hP 0 rfl rfl 0 (by decide) q_4_13 rfl rfl inlX7 dX7_modeError_11 ?_
    refine lv_iconst (v := (0 : Int32)) hx hb dX7_modeError_14 (by decide) ?_
    refine kail (v := (mn 0)) S hE hP 1 rfl (vi_0 (by decide)) tc_0 rfl dX7_modeError_15 ?_
    refine lv_iconst (v := (4 : Int32)) hx hb dX7_modeError_16 (by decide) ?_
    refine lv_icmp_lt (tgt := 25) hx hb dX7_modeError_17 (by decide) (fun c_17 => ?_) (fun c_17 => ?_)
    · have h := h.1 c_17
      refine lv_iconst (v := (0 : Int32)) hx hb dX7_modeError_25 (by decide) ?_
      exact W.iret (v := (0 : Int32)) hx hb hr (fun t ht hW => ⟨⟨(0 : Int32), (), rfl, h, ⟨hp_at ht hP, hD⟩⟩, hS.F ht⟩) hS.2.2 dX7_modeError_26
    · have h := h.2 c_17
      exact J_20 _ h _ _ _ hP hD hS (lv_sub hl [] rfl)
def vX7_becomes_35 (mn : Nat → Int32) (mf : Nat → UInt32) (y1 : Int32) (y2 : Int32) (K : Int32 → (Nat → Int32) → Prop)  : Prop :=
  vp_in y1 40 ∧ vX7_judged (upd mn (Int32.toNatClampNeg y1) y2) mf (fun r_37 u_37 => K r_37 (upd mn (Int32.toNatClampNeg y1) y2))
def vX7_becomes (mn : Nat → Int32) (mf : Nat → UInt32) (p1 : Int32) (K : Int32 → (Nat → Int32) → Prop) : Prop :=
  (¬ p1 = (1 : Int32) → vX7_becomes_35 (upd (upd mn 0 p1) 5 (-5 : Int32)) mf (2 : Int32) (mn 2) K ) ∧ (p1 = (1 : Int32) → vX7_becomes_35 (upd (upd mn 0 p1) 5 (-5 : Int32)) mf (2 : Int32) (0 : Int32) K )
set_option maxRecDepth 100000 in
set_option maxHeartbeats 4000000 in
theorem ctX7_becomes (l : Launch) (G : va_G) (cy : Nat → ClassId) (a : Nat → Nat) (mn : Nat → Int32) (mf : Nat → UInt32) (mk : Nat → Int32) (mg : Nat → UInt32) (mv : Nat → Int32) (mt : Nat → Int32) (mm : Nat → Int32) (p1 : Int32) (K : Int32 → (Nat → Int32) → Prop) (h : vX7_becomes mn mf p1 K) : Met l yX7_becomes (ws_ yX7_becomes cX7_becomes 2 (some .int)) ({ frames := 5, cells := 0, slots := 0, locals := 109 } : Room) (CP G cy [.ref (a 0), .int p1] (md_W cy a mn mf mk mg mv mt mm)) (RI G K (fun u => md_W cy a u mf mk mg mv mt mm) (A1 (md_W cy a mn mf mk mg mv mt mm))) 0 0 (A1 (md_W cy a mn mf mk mg mv mt mm)) := by
  refine hd_go (Qf := fun A => (RI G K (fun u => md_W cy a u mf mk mg mv mt mm) A)) (by decide +kernel) (Nat.le_of_ble_eq_true rfl) ?_
  intro p e s m below meth c ls A hx hb hr hlocks S hE hP hD hS hl
  have hl : lv_has ls 2 [(0, .ref (a 0)), (1, .int p1)] := hl
  unfold vX7_becomes at h
  have J_35 : ∀ (mn : Nat → Int32) (mf : Nat → UInt32) (y1 : Int32) (y2 : Int32), vX7_becomes_35 mn mf y1 y2 K  → ∀ (H : Heap) (locs : List Loc) (ls : Array Slot), va_P G vwCl (md_W cy a mn mf mk mg mv mt mm) H → va_D A (md_W cy a mn mf mk mg mv mt mm) → va_S A s.heap H locs → lv_has ls 2 [(0, .ref (a 0))] → W p l e (headSpec (ws_ yX7_becomes cX7_becomes 2 (some .int)) ({ frames := 5, cells := 0, slots := 0, locals := 109 } : Room)).room s m ([.ref (a 0), .int p1] : List Value).toArray below meth c H locs 0 0 (MQ below (RI G K (fun u => md_W cy a u mf mk mg mv mt mm) A) ([.ref (a 0), .int p1] : List Value).toArray s 0 0 A) (F0 m 35 ls [.int y2, .int y1, .ref (a 1)]) := by
    intro mn mf y1 y2 h H locs ls hP hD hS hl
    unfold vX7_becomes_35 at h
    refine kais S hE hP hD hS 1 rfl h.1 rfl dX7_becomes_35 (fun H locs hP hD hS => ?_)
    have h := h.2
    have hP : va_P G vwCl (md_W cy a (upd mn (Int32.toNatClampNeg y1) y2) mf mk mg mv mt mm) H := hP
    have hD : va_D A (md_W cy a (upd mn (Int32.toNatClampNeg y1) y2) mf mk mg mv mt mm) := hD
    refine lv_aload_n hx hb dX7_becomes_36 rfl (lv_at hl 0 rfl) ?_
    refine kc_Vi0 (As := []) (rest := []) S hE (ctX7_judged l G cy a (upd mn (Int32.toNatClampNeg y1) y2) mf mk mg mv mt mm  _ h) q_9_12 q_9_13 q_9_14 q_1_5 q_9_15 rfl 0 rfl rfl ydX7_judged ⟨⟨rfl, rfl⟩, ⟨Nat.le_of_ble_eq_true rfl, Nat.le_of_ble_eq_true rfl⟩⟩ ⟨Nat.zero_le _, Nat.zero_le _⟩ hP hD hS rfl hl.1 rfl (Nat.le_of_ble_eq_true rfl) dX7_becomes_37 (fun r_37 u_37 H locs h hP hD hS => ?_)
    exact W.iret (v := r_37) hx hb hr (fun t ht hW => ⟨⟨r_37, (upd mn (Int32.toNatClampNeg y1) y2), rfl, h, ⟨hp_at ht hP, hD⟩⟩, hS.F ht⟩) hS.2.2 dX7_becomes_40
  refine lv_aload_n hx hb dX7_becomes_0 rfl (lv_at hl 0 rfl) ?_
  refine kg (v := .ref (a 1)) S hE hP 0 rfl rfl 0 (by decide) q_4_13 rfl rfl inlX7 dX7_becomes_1 ?_
  refine lv_iconst (v := (0 : Int32)) hx hb dX7_becomes_4 (by decide) ?_
  refine lv_iload_n hx hb dX7_becomes_5 rfl (lv_at hl 1 rfl) ?_
  refine kais S hE hP hD hS 1 rfl (vi_0 (by decide)) tc_0 dX7_becomes_6 (fun H locs hP hD hS => ?_)
  have hP : va_P G vwCl (md_W cy a (upd mn 0 p1) mf mk mg mv mt mm) H := hP
  have hD : va_D A (md_W cy a (upd mn 0 p1) mf mk mg mv mt mm) := hD
  refine lv_aload_n hx hb dX7_becomes_7 rfl (lv_at hl 0 rfl) ?_
  refine kg (v := .ref (a 1)) S hE hP 0 rfl rfl 0 (by decide) q_4_13 rfl rfl inlX7 dX7_becomes_8 ?_
  refine lv_iconst (v := (5 : Int32)) hx hb dX7_becomes_11 (by decide) ?_
  refine lv_bipush (v := (-5 : Int32)) hx hb dX7_becomes_12 (by decide) ?_
  refine kais S hE hP hD hS 1 rfl (vi_5 (by decide)) tc_5 dX7_becomes_14 (fun H locs hP hD hS => ?_)
  have hP : va_P G vwCl (md_W cy a (upd (upd mn 0 p1) 5 (-5 : Int32)) mf mk mg mv mt mm) H := hP
  have hD : va_D A (md_W cy a (upd (upd mn 0 p1) 5 (-5 : Int32)) mf mk mg mv mt mm) := hD
  refine lv_aload_n hx hb dX7_becomes_15 rfl (lv_at hl 0 rfl) ?_
  refine kg (v := .ref (a 1)) S hE hP 0 rfl rfl 0 (by decide) q_4_13 rfl rfl inlX7 dX7_becomes_16 ?_
  refine lv_iconst (v := (2 : Int32)) hx hb dX7_becomes_19 (by decide) ?_
  refine lv_iload_n hx hb dX7_becomes_20 rfl (lv_at hl 1 rfl) ?_
  refine lv_iconst (v := (1 : Int32)) hx hb dX7_becomes_21 (by decide) ?_
  refine lv_icmp_ne (tgt := 29) hx hb dX7_becomes_22 (by decide) (fun c_22 => ?_) (fun c_22 => ?_)
  · have h := h.1 c_22
    refine lv_aload_n hx hb dX7_becomes_29 rfl (lv_at hl 0 rfl) ?_
    refine kg (v := .ref (a 1)) S hE hP 0 rfl rfl 0 (by decide) q_4_13 rfl rfl inlX7 dX7_becomes_30 ?_
    refine lv_iconst (v := (2 : Int32)) hx hb dX7_becomes_33 (by decide) ?_
    refine kail (v := (mn 2)) S hE hP 1 rfl (vi_2 (by decide)) tc_2 rfl dX7_becomes_34 ?_
    exact J_35 _ _ _ _ h _ _ _ hP hD hS (lv_sub hl [0] rfl)
  · have h := h.2 c_22
    refine lv_iconst (v := (0 : Int32)) hx hb dX7_becomes_25 (by decide) ?_
    refine lv_goto (tgt := 35) hx hb dX7_becomes_26 (by decide) ?_
    exact J_35 _ _ _ _ h _ _ _ hP hD hS (lv_sub hl [0] rfl)
def vX7_changesTo (mn : Nat → Int32) (mf : Nat → UInt32) (mk : Nat → Int32) (mg : Nat → UInt32) (mm : Nat → Int32) (p1 : Int32) (K : Int32 → ((Nat → Int32) × (Nat → Int32) × (Nat → UInt32) × (Nat → Int32)) → Prop) : Prop :=
  vX7_modeError mn p1 (fun r_2 u_2 => (r_2 = (0 : Int32) → vX7_records mn mf mk mg mm (fun u_13 => vX7_becomes mn mf p1 (fun r_18 u_18 => K r_18 (u_18, u_13.1, u_13.2.1, u_13.2.2)))) ∧ (¬ r_2 = (0 : Int32) → K r_2 (mn, mk, mg, mm)))
set_option maxRecDepth 100000 in
set_option maxHeartbeats 4000000 in
theorem ctX7_changesTo (l : Launch) (G : va_G) (cy : Nat → ClassId) (a : Nat → Nat) (mn : Nat → Int32) (mf : Nat → UInt32) (mk : Nat → Int32) (mg : Nat → UInt32) (mv : Nat → Int32) (mt : Nat → Int32) (mm : Nat → Int32) (p1 : Int32) (K : Int32 → ((Nat → Int32) × (Nat → Int32) × (Nat → UInt32) × (Nat → Int32)) → Prop) (h : vX7_changesTo mn mf mk mg mm p1 K) : Met l yX7_changesTo (ws_ yX7_changesTo cX7_changesTo 3 (some .int)) ({ frames := 6, cells := 0, slots := 0, locals := 130 } : Room) (CP G cy [.ref (a 0), .int p1] (md_W cy a mn mf mk mg mv mt mm)) (RI G K (fun u => md_W cy a u.1 mf u.2.1 u.2.2.1 mv mt u.2.2.2) (A1 (md_W cy a mn mf mk mg mv mt mm))) 0 0 (A1 (md_W cy a mn mf mk mg mv mt mm)) := by
  refine hd_go (Qf := fun A => (RI G K (fun u => md_W cy a u.1 mf u.2.1 u.2.2.1 mv mt u.2.2.2) A)) (by decide +kernel) (Nat.le_of_ble_eq_true rfl) ?_
  intro p e s m below meth c ls A hx hb hr hlocks S hE hP hD hS hl
  have hl : lv_has ls 3 [(0, .ref (a 0)), (1, .int p1)] := hl
  unfold vX7_changesTo at h
  refine lv_aload_n hx hb dX7_changesTo_0 rfl (lv_at hl 0 rfl) ?_
  refine lv_iload_n hx hb dX7_changesTo_1 rfl (lv_at hl 1 rfl) ?_
  refine kc_Vi0 (As := [.int p1]) (rest := []) S hE (ctX7_modeError l G cy a mn mf mk mg mv mt mm p1 _ h) q_18_17 q_18_18 q_18_19 q_1_5 q_18_20 rfl 0 rfl rfl ydX7_modeError ⟨⟨rfl, rfl⟩, ⟨Nat.le_of_ble_eq_true rfl, Nat.le_of_ble_eq_true rfl⟩⟩ ⟨Nat.zero_le _, Nat.zero_le _⟩ hP hD hS rfl hl.1 rfl (Nat.le_of_ble_eq_true rfl) dX7_changesTo_2 (fun r_2 u_2 H locs h hP hD hS => ?_)
  refine lv_istore_n (lv' := [(2, .int r_2), (0, .ref (a 0)), (1, .int p1)]) hx hb dX7_changesTo_5 rfl hl (by decide) rfl (fun ls hl => ?_)
  refine lv_iload_n hx hb dX7_changesTo_6 rfl (lv_at hl 0 rfl) ?_
  refine lv_if_eq (tgt := 12) hx hb dX7_changesTo_7 (by decide) (fun c_7 => ?_) (fun c_7 => ?_)
  · have h := h.1 c_7
    refine lv_aload_n hx hb dX7_changesTo_12 rfl (lv_at hl 1 rfl) ?_
    refine kc_Vv0 (As := []) (rest := []) S hE (ctX7_records l G cy a mn mf mk mg mv mt mm  _ h) q_8_20 q_8_21 q_8_22 q_1_5 q_8_23 rfl 0 rfl rfl ydX7_records ⟨⟨rfl, rfl⟩, ⟨Nat.le_of_ble_eq_true rfl, Nat.le_of_ble_eq_true rfl⟩⟩ ⟨Nat.zero_le _, Nat.zero_le _⟩ hP hD hS rfl hl.1 rfl (Nat.le_of_ble_eq_true rfl) dX7_changesTo_13 (fun u_13 H locs h hP hD hS => ?_)
    refine lv_aload_n hx hb dX7_changesTo_16 rfl (lv_at hl 1 rfl) ?_
    refine lv_iload_n hx hb dX7_changesTo_17 rfl (lv_at hl 2 rfl) ?_
    refine kc_Vi0 (As := [.int p1]) (rest := []) S hE (ctX7_becomes l G cy a mn mf u_13.1 u_13.2.1 mv mt u_13.2.2 p1 _ h) q_18_21 q_18_22 q_18_23 q_1_5 q_19_0 rfl 0 rfl rfl ydX7_becomes ⟨⟨rfl, rfl⟩, ⟨Nat.le_of_ble_eq_true rfl, Nat.le_of_ble_eq_true rfl⟩⟩ ⟨Nat.zero_le _, Nat.zero_le _⟩ hP hD hS rfl hl.1 rfl (Nat.le_of_ble_eq_true rfl) dX7_changesTo_18 (fun r_18 u_18 H locs h hP hD hS => ?_)
    exact W.iret (v := r_18) hx hb hr (fun t ht hW => ⟨⟨r_18, (u_18, u_13.1, u_13.2.1, u_13.2.2), rfl, h, ⟨hp_at ht hP, hD⟩⟩, hS.F ht⟩) hS.2.2 dX7_changesTo_21
  · have h := h.2 c_7
    refine lv_iload_n hx hb dX7_changesTo_10 rfl (lv_at hl 0 rfl) ?_
    exact W.iret (v := r_2) hx hb hr (fun t ht hW => ⟨⟨r_2, (mn, mk, mg, mm), rfl, h, ⟨hp_at ht hP, hD⟩⟩, hS.F ht⟩) hS.2.2 dX7_changesTo_11
def vX7_approach (mn : Nat → Int32) (mf : Nat → UInt32) (mk : Nat → Int32) (mg : Nat → UInt32) (mm : Nat → Int32) (K : Int32 → ((Nat → Int32) × (Nat → Int32) × (Nat → UInt32) × (Nat → Int32)) → Prop) : Prop :=
  vX7_changesTo mn mf mk mg mm (1 : Int32) (fun r_2 u_2 => K r_2 (u_2.1, u_2.2.1, u_2.2.2.1, u_2.2.2.2))
set_option maxRecDepth 100000 in
set_option maxHeartbeats 4000000 in
theorem ctX7_approach (l : Launch) (G : va_G) (cy : Nat → ClassId) (a : Nat → Nat) (mn : Nat → Int32) (mf : Nat → UInt32) (mk : Nat → Int32) (mg : Nat → UInt32) (mv : Nat → Int32) (mt : Nat → Int32) (mm : Nat → Int32)  (K : Int32 → ((Nat → Int32) × (Nat → Int32) × (Nat → UInt32) × (Nat → Int32)) → Prop) (h : vX7_approach mn mf mk mg mm K) : Met l yX7_approach (ws_ yX7_approach cX7_approach 1 (some .int)) ({ frames := 7, cells := 0, slots := 0, locals := 152 } : Room) (CP G cy [.ref (a 0)] (md_W cy a mn mf mk mg mv mt mm)) (RI G K (fun u => md_W cy a u.1 mf u.2.1 u.2.2.1 mv mt u.2.2.2) (A1 (md_W cy a mn mf mk mg mv mt mm))) 0 0 (A1 (md_W cy a mn mf mk mg mv mt mm)) := by
  refine hd_go (Qf := fun A => (RI G K (fun u => md_W cy a u.1 mf u.2.1 u.2.2.1 mv mt u.2.2.2) A)) (by decide +kernel) (Nat.le_of_ble_eq_true rfl) ?_
  intro p e s m below meth c ls A hx hb hr hlocks S hE hP hD hS hl
  have hl : lv_has ls 1 [(0, .ref (a 0))] := hl
  unfold vX7_approach at h
  refine lv_aload_n hx hb dX7_approach_0 rfl (lv_at hl 0 rfl) ?_
  refine lv_iconst (v := (1 : Int32)) hx hb dX7_approach_1 (by decide) ?_
  refine kc_Vi0 (As := [.int (1 : Int32)]) (rest := []) S hE (ctX7_changesTo l G cy a mn mf mk mg mv mt mm (1 : Int32) _ h) q_18_13 q_18_14 q_18_15 q_1_5 q_18_16 rfl 0 rfl rfl ydX7_changesTo ⟨⟨rfl, rfl⟩, ⟨Nat.le_of_ble_eq_true rfl, Nat.le_of_ble_eq_true rfl⟩⟩ ⟨Nat.zero_le _, Nat.zero_le _⟩ hP hD hS rfl hl.1 rfl (Nat.le_of_ble_eq_true rfl) dX7_approach_2 (fun r_2 u_2 H locs h hP hD hS => ?_)
  exact W.iret (v := r_2) hx hb hr (fun t ht hW => ⟨⟨r_2, (u_2.1, u_2.2.1, u_2.2.2.1, u_2.2.2.2), rfl, h, ⟨hp_at ht hP, hD⟩⟩, hS.F ht⟩) hS.2.2 dX7_approach_5
def vX7_release (mn : Nat → Int32) (mf : Nat → UInt32) (mk : Nat → Int32) (mg : Nat → UInt32) (mm : Nat → Int32) (K : Int32 → ((Nat → Int32) × (Nat → Int32) × (Nat → UInt32) × (Nat → Int32)) → Prop) : Prop :=
  vX7_changesTo mn mf mk mg mm (0 : Int32) (fun r_2 u_2 => K r_2 (u_2.1, u_2.2.1, u_2.2.2.1, u_2.2.2.2))
set_option maxRecDepth 100000 in
set_option maxHeartbeats 4000000 in
theorem ctX7_release (l : Launch) (G : va_G) (cy : Nat → ClassId) (a : Nat → Nat) (mn : Nat → Int32) (mf : Nat → UInt32) (mk : Nat → Int32) (mg : Nat → UInt32) (mv : Nat → Int32) (mt : Nat → Int32) (mm : Nat → Int32)  (K : Int32 → ((Nat → Int32) × (Nat → Int32) × (Nat → UInt32) × (Nat → Int32)) → Prop) (h : vX7_release mn mf mk mg mm K) : Met l yX7_release (ws_ yX7_release cX7_release 1 (some .int)) ({ frames := 7, cells := 0, slots := 0, locals := 152 } : Room) (CP G cy [.ref (a 0)] (md_W cy a mn mf mk mg mv mt mm)) (RI G K (fun u => md_W cy a u.1 mf u.2.1 u.2.2.1 mv mt u.2.2.2) (A1 (md_W cy a mn mf mk mg mv mt mm))) 0 0 (A1 (md_W cy a mn mf mk mg mv mt mm)) := by
  refine hd_go (Qf := fun A => (RI G K (fun u => md_W cy a u.1 mf u.2.1 u.2.2.1 mv mt u.2.2.2) A)) (by decide +kernel) (Nat.le_of_ble_eq_true rfl) ?_
  intro p e s m below meth c ls A hx hb hr hlocks S hE hP hD hS hl
  have hl : lv_has ls 1 [(0, .ref (a 0))] := hl
  unfold vX7_release at h
  refine lv_aload_n hx hb dX7_release_0 rfl (lv_at hl 0 rfl) ?_
  refine lv_iconst (v := (0 : Int32)) hx hb dX7_release_1 (by decide) ?_
  refine kc_Vi0 (As := [.int (0 : Int32)]) (rest := []) S hE (ctX7_changesTo l G cy a mn mf mk mg mv mt mm (0 : Int32) _ h) q_18_13 q_18_14 q_18_15 q_1_5 q_18_16 rfl 0 rfl rfl ydX7_changesTo ⟨⟨rfl, rfl⟩, ⟨Nat.le_of_ble_eq_true rfl, Nat.le_of_ble_eq_true rfl⟩⟩ ⟨Nat.zero_le _, Nat.zero_le _⟩ hP hD hS rfl hl.1 rfl (Nat.le_of_ble_eq_true rfl) dX7_release_2 (fun r_2 u_2 H locs h hP hD hS => ?_)
  exact W.iret (v := r_2) hx hb hr (fun t ht hW => ⟨⟨r_2, (u_2.1, u_2.2.1, u_2.2.2.1, u_2.2.2.2), rfl, h, ⟨hp_at ht hP, hD⟩⟩, hS.F ht⟩) hS.2.2 dX7_release_5
def vX7_retreat (mn : Nat → Int32) (mf : Nat → UInt32) (mk : Nat → Int32) (mg : Nat → UInt32) (mm : Nat → Int32) (K : Int32 → ((Nat → Int32) × (Nat → Int32) × (Nat → UInt32) × (Nat → Int32)) → Prop) : Prop :=
  vX7_changesTo mn mf mk mg mm (3 : Int32) (fun r_2 u_2 => K r_2 (u_2.1, u_2.2.1, u_2.2.2.1, u_2.2.2.2))
set_option maxRecDepth 100000 in
set_option maxHeartbeats 4000000 in
theorem ctX7_retreat (l : Launch) (G : va_G) (cy : Nat → ClassId) (a : Nat → Nat) (mn : Nat → Int32) (mf : Nat → UInt32) (mk : Nat → Int32) (mg : Nat → UInt32) (mv : Nat → Int32) (mt : Nat → Int32) (mm : Nat → Int32)  (K : Int32 → ((Nat → Int32) × (Nat → Int32) × (Nat → UInt32) × (Nat → Int32)) → Prop) (h : vX7_retreat mn mf mk mg mm K) : Met l yX7_retreat (ws_ yX7_retreat cX7_retreat 1 (some .int)) ({ frames := 7, cells := 0, slots := 0, locals := 152 } : Room) (CP G cy [.ref (a 0)] (md_W cy a mn mf mk mg mv mt mm)) (RI G K (fun u => md_W cy a u.1 mf u.2.1 u.2.2.1 mv mt u.2.2.2) (A1 (md_W cy a mn mf mk mg mv mt mm))) 0 0 (A1 (md_W cy a mn mf mk mg mv mt mm)) := by
  refine hd_go (Qf := fun A => (RI G K (fun u => md_W cy a u.1 mf u.2.1 u.2.2.1 mv mt u.2.2.2) A)) (by decide +kernel) (Nat.le_of_ble_eq_true rfl) ?_
  intro p e s m below meth c ls A hx hb hr hlocks S hE hP hD hS hl
  have hl : lv_has ls 1 [(0, .ref (a 0))] := hl
  unfold vX7_retreat at h
  refine lv_aload_n hx hb dX7_retreat_0 rfl (lv_at hl 0 rfl) ?_
  refine lv_iconst (v := (3 : Int32)) hx hb dX7_retreat_1 (by decide) ?_
  refine kc_Vi0 (As := [.int (3 : Int32)]) (rest := []) S hE (ctX7_changesTo l G cy a mn mf mk mg mv mt mm (3 : Int32) _ h) q_18_13 q_18_14 q_18_15 q_1_5 q_18_16 rfl 0 rfl rfl ydX7_changesTo ⟨⟨rfl, rfl⟩, ⟨Nat.le_of_ble_eq_true rfl, Nat.le_of_ble_eq_true rfl⟩⟩ ⟨Nat.zero_le _, Nat.zero_le _⟩ hP hD hS rfl hl.1 rfl (Nat.le_of_ble_eq_true rfl) dX7_retreat_2 (fun r_2 u_2 H locs h hP hD hS => ?_)
  exact W.iret (v := r_2) hx hb hr (fun t ht hW => ⟨⟨r_2, (u_2.1, u_2.2.1, u_2.2.2.1, u_2.2.2.2), rfl, h, ⟨hp_at ht hP, hD⟩⟩, hS.F ht⟩) hS.2.2 dX7_retreat_5
def vX7_openError (mn : Nat → Int32) (p1 : Int32) (K : Int32 → Unit → Prop) : Prop :=
  vX7_isIn p1 (0 : Int32) ((mn 11) - (1 : Int32)) (fun r_11 u_11 => (¬ r_11 = (0 : Int32) → vX7_isClosed mn p1 (fun r_21 u_21 => (r_21 = (0 : Int32) → K (-3 : Int32) ()) ∧ (¬ r_21 = (0 : Int32) → K (0 : Int32) ()))) ∧ (r_11 = (0 : Int32) → K (-1 : Int32) ()))
set_option maxRecDepth 100000 in
set_option maxHeartbeats 4000000 in
theorem ctX7_openError (l : Launch) (G : va_G) (cy : Nat → ClassId) (a : Nat → Nat) (mn : Nat → Int32) (mf : Nat → UInt32) (mk : Nat → Int32) (mg : Nat → UInt32) (mv : Nat → Int32) (mt : Nat → Int32) (mm : Nat → Int32) (p1 : Int32) (K : Int32 → Unit → Prop) (h : vX7_openError mn p1 K) : Met l yX7_openError (ws_ yX7_openError cX7_openError 2 (some .int)) ({ frames := 1, cells := 0, slots := 0, locals := 22 } : Room) (CP G cy [.ref (a 0), .int p1] (md_W cy a mn mf mk mg mv mt mm)) (RI G K (fun u => md_W cy a mn mf mk mg mv mt mm) (A1 (md_W cy a mn mf mk mg mv mt mm))) 0 0 (A1 (md_W cy a mn mf mk mg mv mt mm)) := by
  refine hd_go (Qf := fun A => (RI G K (fun u => md_W cy a mn mf mk mg mv mt mm) A)) (by decide +kernel) (Nat.le_of_ble_eq_true rfl) ?_
  intro p e s m below meth c ls A hx hb hr hlocks S hE hP hD hS hl
  have hl : lv_has ls 2 [(0, .ref (a 0)), (1, .int p1)] := hl
  unfold vX7_openError at h
  refine lv_iload_n hx hb dX7_openError_0 rfl (lv_at hl 1 rfl) ?_
  refine lv_iconst (v := (0 : Int32)) hx hb dX7_openError_1 (by decide) ?_
  refine lv_aload_n hx hb dX7_openError_2 rfl (lv_at hl 0 rfl) ?_
  refine kg (v := .ref (a 1)) S hE hP 0 rfl rfl 0 (by decide) q_4_13 rfl rfl inlX7 dX7_openError_3 ?_
  refine lv_bipush (v := (11 : Int32)) hx hb dX7_openError_6 (by decide) ?_
  refine kail (v := (mn 11)) S hE hP 1 rfl (vi_11 (by decide)) tc_11 rfl dX7_openError_8 ?_
  refine lv_iconst (v := (1 : Int32)) hx hb dX7_openError_9 (by decide) ?_
  refine lv_isub hx hb dX7_openError_10 ?_
  refine kc_SiE (As := [.int p1, .int (0 : Int32), .int ((mn 11) - (1 : Int32))]) (rest := []) S hE (ctX7_isIn l G cy   p1 (0 : Int32) ((mn 11) - (1 : Int32)) _ h) q_8_17 q_8_18 q_1_5 q_8_19 ydX7_isIn ⟨⟨rfl, rfl⟩, ⟨Nat.le_of_ble_eq_true rfl, Nat.le_of_ble_eq_true rfl⟩⟩ ⟨Nat.zero_le _, Nat.zero_le _⟩ hP hD hS (fun _ => rfl) rfl hl.1 rfl (Nat.le_of_ble_eq_true rfl) dX7_openError_11 (fun r_11 u_11 H locs h hP hD hS => ?_)
  refine lv_if_ne (tgt := 19) hx hb dX7_openError_14 (by decide) (fun c_14 => ?_) (fun c_14 => ?_)
  · have h := h.1 c_14
    refine lv_aload_n hx hb dX7_openError_19 rfl (lv_at hl 0 rfl) ?_
    refine lv_iload_n hx hb dX7_openError_20 rfl (lv_at hl 1 rfl) ?_
    refine kc_Vi0 (As := [.int p1]) (rest := []) S hE (ctX7_isClosed l G cy a mn mf mk mg mv mt mm p1 _ h) q_20_5 q_20_6 q_20_7 q_1_5 q_20_8 rfl 0 rfl rfl ydX7_isClosed ⟨⟨rfl, rfl⟩, ⟨Nat.le_of_ble_eq_true rfl, Nat.le_of_ble_eq_true rfl⟩⟩ ⟨Nat.zero_le _, Nat.zero_le _⟩ hP hD hS rfl hl.1 rfl (Nat.le_of_ble_eq_true rfl) dX7_openError_21 (fun r_21 u_21 H locs h hP hD hS => ?_)
    refine lv_if_eq (tgt := 31) hx hb dX7_openError_24 (by decide) (fun c_24 => ?_) (fun c_24 => ?_)
    · have h := h.1 c_24
      refine lv_bipush (v := (-3 : Int32)) hx hb dX7_openError_31 (by decide) ?_
      exact W.iret (v := (-3 : Int32)) hx hb hr (fun t ht hW => ⟨⟨(-3 : Int32), (), rfl, h, ⟨hp_at ht hP, hD⟩⟩, hS.F ht⟩) hS.2.2 dX7_openError_33
    · have h := h.2 c_24
      refine lv_iconst (v := (0 : Int32)) hx hb dX7_openError_27 (by decide) ?_
      refine lv_goto (tgt := 33) hx hb dX7_openError_28 (by decide) ?_
      exact W.iret (v := (0 : Int32)) hx hb hr (fun t ht hW => ⟨⟨(0 : Int32), (), rfl, h, ⟨hp_at ht hP, hD⟩⟩, hS.F ht⟩) hS.2.2 dX7_openError_33
  · have h := h.2 c_14
    refine lv_iconst (v := (-1 : Int32)) hx hb dX7_openError_17 (by decide) ?_
    exact W.iret (v := (-1 : Int32)) hx hb hr (fun t ht hW => ⟨⟨(-1 : Int32), (), rfl, h, ⟨hp_at ht hP, hD⟩⟩, hS.F ht⟩) hS.2.2 dX7_openError_18
def vX7_closed_29 (mn : Nat → Int32) (x2 : Int32) (y0 : Int32) (y1 : Int32) (K : Int32 → Unit → Prop) (B4 : Int32 → Int32 → Prop) : Prop :=
  B4 (y0 + y1) (x2 + (1 : Int32))
def vX7_closed_4b (mn : Nat → Int32) (K : Int32 → Unit → Prop)  (B4 : Int32 → Int32 → Prop) (x1 : Int32) (x2 : Int32) : Prop :=
  ((mn 11) ≤ x2 → K x1 ()) ∧ (¬ (mn 11) ≤ x2 → vX7_isClosed mn x2 (fun r_18 u_18 => (r_18 = (0 : Int32) → vX7_closed_29 mn x2 x1 (0 : Int32) K B4) ∧ (¬ r_18 = (0 : Int32) → vX7_closed_29 mn x2 x1 (1 : Int32) K B4)))
def vX7_closed_4F (mn : Nat → Int32) (K : Int32 → Unit → Prop)  : ((Int32 × Int32) → Prop) → (Int32 × Int32) → Prop := fun B z => vX7_closed_4b mn K  (fun z0 z1 => B (z0, z1)) z.1 z.2
def vX7_closed (mn : Nat → Int32) (K : Int32 → Unit → Prop) : Prop :=
  ∃ k, lp (vX7_closed_4F mn K ) k ((0 : Int32), (0 : Int32))
set_option maxRecDepth 100000 in
set_option maxHeartbeats 4000000 in
theorem ctX7_closed (l : Launch) (G : va_G) (cy : Nat → ClassId) (a : Nat → Nat) (mn : Nat → Int32) (mf : Nat → UInt32) (mk : Nat → Int32) (mg : Nat → UInt32) (mv : Nat → Int32) (mt : Nat → Int32) (mm : Nat → Int32)  (K : Int32 → Unit → Prop) (h : vX7_closed mn K) : Met l yX7_closed (ws_ yX7_closed cX7_closed 3 (some .int)) ({ frames := 1, cells := 0, slots := 0, locals := 21 } : Room) (CP G cy [.ref (a 0)] (md_W cy a mn mf mk mg mv mt mm)) (RI G K (fun u => md_W cy a mn mf mk mg mv mt mm) (A1 (md_W cy a mn mf mk mg mv mt mm))) 0 0 (A1 (md_W cy a mn mf mk mg mv mt mm)) := by
  refine hd_go (Qf := fun A => (RI G K (fun u => md_W cy a mn mf mk mg mv mt mm) A)) (by decide +kernel) (Nat.le_of_ble_eq_true rfl) ?_
  intro p e s m below meth c ls A hx hb hr hlocks S hE hP hD hS hl
  have hl : lv_has ls 3 [(0, .ref (a 0))] := hl
  unfold vX7_closed at h
  have L_4 : ∀ (mn : Nat → Int32) (k_4 : Nat) (x1 : Int32) (x2 : Int32), lp (vX7_closed_4F mn K ) k_4 (x1, x2) → ∀ (H : Heap) (locs : List Loc) (ls : Array Slot), va_P G vwCl (md_W cy a mn mf mk mg mv mt mm) H → va_D A (md_W cy a mn mf mk mg mv mt mm) → va_S A s.heap H locs → lv_has ls 3 [(0, .ref (a 0)), (1, .int x1), (2, .int x2)] → W p l e (headSpec (ws_ yX7_closed cX7_closed 3 (some .int)) ({ frames := 1, cells := 0, slots := 0, locals := 21 } : Room)).room s m ([.ref (a 0)] : List Value).toArray below meth c H locs 0 0 (MQ below (RI G K (fun u => md_W cy a mn mf mk mg mv mt mm) A) ([.ref (a 0)] : List Value).toArray s 0 0 A) (F0 m 4 ls []) := by
    intro mn k_4
    induction k_4 with
    | zero => intro x1 x2 h; exact h.elim
    | succ k_4 ih_4 =>
      have J_29 : ∀ (x2 : Int32) (y0 : Int32) (y1 : Int32), vX7_closed_29 mn x2 y0 y1 K (fun z0 z1 => lp (vX7_closed_4F mn K ) k_4 (z0, z1)) → ∀ (H : Heap) (locs : List Loc) (ls : Array Slot), va_P G vwCl (md_W cy a mn mf mk mg mv mt mm) H → va_D A (md_W cy a mn mf mk mg mv mt mm) → va_S A s.heap H locs → lv_has ls 3 [(0, .ref (a 0)), (2, .int x2)] → W p l e (headSpec (ws_ yX7_closed cX7_closed 3 (some .int)) ({ frames := 1, cells := 0, slots := 0, locals := 21 } : Room)).room s m ([.ref (a 0)] : List Value).toArray below meth c H locs 0 0 (MQ below (RI G K (fun u => md_W cy a mn mf mk mg mv mt mm) A) ([.ref (a 0)] : List Value).toArray s 0 0 A) (F0 m 29 ls [.int y1, .int y0]) := by
        intro x2 y0 y1 h H locs ls hP hD hS hl
        unfold vX7_closed_29 at h
        refine lv_iadd hx hb dX7_closed_29 ?_
        refine lv_istore_n (lv' := [(1, .int (y0 + y1)), (0, .ref (a 0)), (2, .int x2)]) hx hb dX7_closed_30 rfl hl (by decide) rfl (fun ls hl => ?_)
        refine lv_iinc (v := (x2 + (1 : Int32))) (lv' := [(2, .int (x2 + (1 : Int32))), (1, .int (y0 + y1)), (0, .ref (a 0))]) hx hb dX7_closed_31 hl (k := 2) rfl (by rfl) (by decide) rfl (fun ls hl => ?_)
        refine lv_goto (tgt := 4) hx hb dX7_closed_34 (by decide) ?_
        exact ih_4 _ _ h _ _ _ hP hD hS (lv_sub hl [2, 1, 0] rfl)
      intro x1 x2 h H locs ls hP hD hS hl
      have h : vX7_closed_4b mn K  (fun z0 z1 => lp (vX7_closed_4F mn K ) k_4 (z0, z1)) x1 x2 := h
      unfold vX7_closed_4b at h
      refine lv_iload_n hx hb dX7_closed_4 rfl (lv_at hl 2 rfl) ?_
      refine lv_aload_n hx hb dX7_closed_5 rfl (lv_at hl 0 rfl) ?_
      refine kg (v := .ref (a 1)) S hE hP 0 rfl rfl 0 (by decide) q_4_13 rfl rfl inlX7 dX7_closed_6 ?_
      refine lv_bipush (v := (11 : Int32)) hx hb dX7_closed_9 (by decide) ?_
      refine kail (v := (mn 11)) S hE hP 1 rfl (vi_11 (by decide)) tc_11 rfl dX7_closed_11 ?_
      refine lv_icmp_ge (tgt := 37) hx hb dX7_closed_12 (by decide) (fun c_12 => ?_) (fun c_12 => ?_)
      · have h := h.1 c_12
        refine lv_iload_n hx hb dX7_closed_37 rfl (lv_at hl 1 rfl) ?_
        exact W.iret (v := x1) hx hb hr (fun t ht hW => ⟨⟨x1, (), rfl, h, ⟨hp_at ht hP, hD⟩⟩, hS.F ht⟩) hS.2.2 dX7_closed_38
      · have h := h.2 c_12
        refine lv_iload_n hx hb dX7_closed_15 rfl (lv_at hl 1 rfl) ?_
        refine lv_aload_n hx hb dX7_closed_16 rfl (lv_at hl 0 rfl) ?_
        refine lv_iload_n hx hb dX7_closed_17 rfl (lv_at hl 2 rfl) ?_
        refine kc_Vi0 (As := [.int x2]) (rest := [.int x1]) S hE (ctX7_isClosed l G cy a mn mf mk mg mv mt mm x2 _ h) q_20_5 q_20_6 q_20_7 q_1_5 q_20_8 rfl 0 rfl rfl ydX7_isClosed ⟨⟨rfl, rfl⟩, ⟨Nat.le_of_ble_eq_true rfl, Nat.le_of_ble_eq_true rfl⟩⟩ ⟨Nat.zero_le _, Nat.zero_le _⟩ hP hD hS rfl hl.1 rfl (Nat.le_of_ble_eq_true rfl) dX7_closed_18 (fun r_18 u_18 H locs h hP hD hS => ?_)
        refine lv_if_eq (tgt := 28) hx hb dX7_closed_21 (by decide) (fun c_21 => ?_) (fun c_21 => ?_)
        · have h := h.1 c_21
          refine lv_iconst (v := (0 : Int32)) hx hb dX7_closed_28 (by decide) ?_
          exact J_29 _ _ _ h _ _ _ hP hD hS (lv_sub hl [0, 2] rfl)
        · have h := h.2 c_21
          refine lv_iconst (v := (1 : Int32)) hx hb dX7_closed_24 (by decide) ?_
          refine lv_goto (tgt := 29) hx hb dX7_closed_25 (by decide) ?_
          exact J_29 _ _ _ h _ _ _ hP hD hS (lv_sub hl [0, 2] rfl)
  refine lv_iconst (v := (0 : Int32)) hx hb dX7_closed_0 (by decide) ?_
  refine lv_istore_n (lv' := [(1, .int (0 : Int32)), (0, .ref (a 0))]) hx hb dX7_closed_1 rfl hl (by decide) rfl (fun ls hl => ?_)
  refine lv_iconst (v := (0 : Int32)) hx hb dX7_closed_2 (by decide) ?_
  refine lv_istore_n (lv' := [(2, .int (0 : Int32)), (1, .int (0 : Int32)), (0, .ref (a 0))]) hx hb dX7_closed_3 rfl hl (by decide) rfl (fun ls hl => ?_)
  obtain ⟨k0, h⟩ := h
  exact L_4 _ k0 _ _ h _ _ _ hP hD hS (lv_sub hl [2, 1, 0] rfl)
def vX7_opens_56 (mn : Nat → Int32) (K : Int32 → (Nat → Int32) → Prop)  : Prop :=
  vX7_closed mn (fun r_57 u_57 => K r_57 mn)
def vX7_opens (mn : Nat → Int32) (p1 : Int32) (K : Int32 → (Nat → Int32) → Prop) : Prop :=
  vp_in (((32 : Int32) + ((2 : Int32) * p1)) + (1 : Int32)) 40 ∧ (¬ ((upd mn (Int32.toNatClampNeg (((32 : Int32) + ((2 : Int32) * p1)) + (1 : Int32))) (1 : Int32)) 0) = (2 : Int32) → vX7_opens_56 (upd mn (Int32.toNatClampNeg (((32 : Int32) + ((2 : Int32) * p1)) + (1 : Int32))) (1 : Int32)) K ) ∧ (((upd mn (Int32.toNatClampNeg (((32 : Int32) + ((2 : Int32) * p1)) + (1 : Int32))) (1 : Int32)) 0) = (2 : Int32) → (¬ ((upd mn (Int32.toNatClampNeg (((32 : Int32) + ((2 : Int32) * p1)) + (1 : Int32))) (1 : Int32)) 5) = p1 → vX7_opens_56 (upd mn (Int32.toNatClampNeg (((32 : Int32) + ((2 : Int32) * p1)) + (1 : Int32))) (1 : Int32)) K ) ∧ (((upd mn (Int32.toNatClampNeg (((32 : Int32) + ((2 : Int32) * p1)) + (1 : Int32))) (1 : Int32)) 5) = p1 → vX7_opens_56 (upd (upd (upd (upd mn (Int32.toNatClampNeg (((32 : Int32) + ((2 : Int32) * p1)) + (1 : Int32))) (1 : Int32)) 0 (1 : Int32)) 5 (-5 : Int32)) 2 (0 : Int32)) K ))
set_option maxRecDepth 100000 in
set_option maxHeartbeats 4000000 in
theorem ctX7_opens (l : Launch) (G : va_G) (cy : Nat → ClassId) (a : Nat → Nat) (mn : Nat → Int32) (mf : Nat → UInt32) (mk : Nat → Int32) (mg : Nat → UInt32) (mv : Nat → Int32) (mt : Nat → Int32) (mm : Nat → Int32) (p1 : Int32) (K : Int32 → (Nat → Int32) → Prop) (h : vX7_opens mn p1 K) : Met l yX7_opens (ws_ yX7_opens cX7_opens 2 (some .int)) ({ frames := 2, cells := 0, slots := 0, locals := 43 } : Room) (CP G cy [.ref (a 0), .int p1] (md_W cy a mn mf mk mg mv mt mm)) (RI G K (fun u => md_W cy a u mf mk mg mv mt mm) (A1 (md_W cy a mn mf mk mg mv mt mm))) 0 0 (A1 (md_W cy a mn mf mk mg mv mt mm)) := by
  refine hd_go (Qf := fun A => (RI G K (fun u => md_W cy a u mf mk mg mv mt mm) A)) (by decide +kernel) (Nat.le_of_ble_eq_true rfl) ?_
  intro p e s m below meth c ls A hx hb hr hlocks S hE hP hD hS hl
  have hl : lv_has ls 2 [(0, .ref (a 0)), (1, .int p1)] := hl
  unfold vX7_opens at h
  have J_56 : ∀ (mn : Nat → Int32), vX7_opens_56 mn K  → ∀ (H : Heap) (locs : List Loc) (ls : Array Slot), va_P G vwCl (md_W cy a mn mf mk mg mv mt mm) H → va_D A (md_W cy a mn mf mk mg mv mt mm) → va_S A s.heap H locs → lv_has ls 2 [(0, .ref (a 0))] → W p l e (headSpec (ws_ yX7_opens cX7_opens 2 (some .int)) ({ frames := 2, cells := 0, slots := 0, locals := 43 } : Room)).room s m ([.ref (a 0), .int p1] : List Value).toArray below meth c H locs 0 0 (MQ below (RI G K (fun u => md_W cy a u mf mk mg mv mt mm) A) ([.ref (a 0), .int p1] : List Value).toArray s 0 0 A) (F0 m 56 ls []) := by
    intro mn h H locs ls hP hD hS hl
    unfold vX7_opens_56 at h
    refine lv_aload_n hx hb dX7_opens_56 rfl (lv_at hl 0 rfl) ?_
    refine kc_Vi0 (As := []) (rest := []) S hE (ctX7_closed l G cy a mn mf mk mg mv mt mm  _ h) q_20_13 q_20_14 q_20_15 q_1_5 q_20_16 rfl 0 rfl rfl ydX7_closed ⟨⟨rfl, rfl⟩, ⟨Nat.le_of_ble_eq_true rfl, Nat.le_of_ble_eq_true rfl⟩⟩ ⟨Nat.zero_le _, Nat.zero_le _⟩ hP hD hS rfl hl.1 rfl (Nat.le_of_ble_eq_true rfl) dX7_opens_57 (fun r_57 u_57 H locs h hP hD hS => ?_)
    exact W.iret (v := r_57) hx hb hr (fun t ht hW => ⟨⟨r_57, mn, rfl, h, ⟨hp_at ht hP, hD⟩⟩, hS.F ht⟩) hS.2.2 dX7_opens_60
  refine lv_aload_n hx hb dX7_opens_0 rfl (lv_at hl 0 rfl) ?_
  refine kg (v := .ref (a 1)) S hE hP 0 rfl rfl 0 (by decide) q_4_13 rfl rfl inlX7 dX7_opens_1 ?_
  refine lv_bipush (v := (32 : Int32)) hx hb dX7_opens_4 (by decide) ?_
  refine lv_iconst (v := (2 : Int32)) hx hb dX7_opens_6 (by decide) ?_
  refine lv_iload_n hx hb dX7_opens_7 rfl (lv_at hl 1 rfl) ?_
  refine lv_imul hx hb dX7_opens_8 ?_
  refine lv_iadd hx hb dX7_opens_9 ?_
  refine lv_iconst (v := (1 : Int32)) hx hb dX7_opens_10 (by decide) ?_
  refine lv_iadd hx hb dX7_opens_11 ?_
  refine lv_iconst (v := (1 : Int32)) hx hb dX7_opens_12 (by decide) ?_
  refine kais S hE hP hD hS 1 rfl h.1 rfl dX7_opens_13 (fun H locs hP hD hS => ?_)
  have h := h.2
  have hP : va_P G vwCl (md_W cy a (upd mn (Int32.toNatClampNeg (((32 : Int32) + ((2 : Int32) * p1)) + (1 : Int32))) (1 : Int32)) mf mk mg mv mt mm) H := hP
  have hD : va_D A (md_W cy a (upd mn (Int32.toNatClampNeg (((32 : Int32) + ((2 : Int32) * p1)) + (1 : Int32))) (1 : Int32)) mf mk mg mv mt mm) := hD
  refine lv_aload_n hx hb dX7_opens_14 rfl (lv_at hl 0 rfl) ?_
  refine kg (v := .ref (a 1)) S hE hP 0 rfl rfl 0 (by decide) q_4_13 rfl rfl inlX7 dX7_opens_15 ?_
  refine lv_iconst (v := (0 : Int32)) hx hb dX7_opens_18 (by decide) ?_
  refine kail (v := ((upd mn (Int32.toNatClampNeg (((32 : Int32) + ((2 : Int32) * p1)) + (1 : Int32))) (1 : Int32)) 0)) S hE hP 1 rfl (vi_0 (by decide)) tc_0 rfl dX7_opens_19 ?_
  refine lv_iconst (v := (2 : Int32)) hx hb dX7_opens_20 (by decide) ?_
  refine lv_icmp_ne (tgt := 56) hx hb dX7_opens_21 (by decide) (fun c_21 => ?_) (fun c_21 => ?_)
  · have h := h.1 c_21
    exact J_56 _ h _ _ _ hP hD hS (lv_sub hl [0] rfl)
  · have h := h.2 c_21
    refine lv_aload_n hx hb dX7_opens_24 rfl (lv_at hl 0 rfl) ?_
    refine kg (v := .ref (a 1)) S hE hP 0 rfl rfl 0 (by decide) q_4_13 rfl rfl inlX7 dX7_opens_25 ?_
    refine lv_iconst (v := (5 : Int32)) hx hb dX7_opens_28 (by decide) ?_
    refine kail (v := ((upd mn (Int32.toNatClampNeg (((32 : Int32) + ((2 : Int32) * p1)) + (1 : Int32))) (1 : Int32)) 5)) S hE hP 1 rfl (vi_5 (by decide)) tc_5 rfl dX7_opens_29 ?_
    refine lv_iload_n hx hb dX7_opens_30 rfl (lv_at hl 1 rfl) ?_
    refine lv_icmp_ne (tgt := 56) hx hb dX7_opens_31 (by decide) (fun c_31 => ?_) (fun c_31 => ?_)
    · have h := h.1 c_31
      exact J_56 _ h _ _ _ hP hD hS (lv_sub hl [0] rfl)
    · have h := h.2 c_31
      refine lv_aload_n hx hb dX7_opens_34 rfl (lv_at hl 0 rfl) ?_
      refine kg (v := .ref (a 1)) S hE hP 0 rfl rfl 0 (by decide) q_4_13 rfl rfl inlX7 dX7_opens_35 ?_
      refine lv_iconst (v := (0 : Int32)) hx hb dX7_opens_38 (by decide) ?_
      refine lv_iconst (v := (1 : Int32)) hx hb dX7_opens_39 (by decide) ?_
      refine kais S hE hP hD hS 1 rfl (vi_0 (by decide)) tc_0 dX7_opens_40 (fun H locs hP hD hS => ?_)
      have hP : va_P G vwCl (md_W cy a (upd (upd mn (Int32.toNatClampNeg (((32 : Int32) + ((2 : Int32) * p1)) + (1 : Int32))) (1 : Int32)) 0 (1 : Int32)) mf mk mg mv mt mm) H := hP
      have hD : va_D A (md_W cy a (upd (upd mn (Int32.toNatClampNeg (((32 : Int32) + ((2 : Int32) * p1)) + (1 : Int32))) (1 : Int32)) 0 (1 : Int32)) mf mk mg mv mt mm) := hD
      refine lv_aload_n hx hb dX7_opens_41 rfl (lv_at hl 0 rfl) ?_
      refine kg (v := .ref (a 1)) S hE hP 0 rfl rfl 0 (by decide) q_4_13 rfl rfl inlX7 dX7_opens_42 ?_
      refine lv_iconst (v := (5 : Int32)) hx hb dX7_opens_45 (by decide) ?_
      refine lv_bipush (v := (-5 : Int32)) hx hb dX7_opens_46 (by decide) ?_
      refine kais S hE hP hD hS 1 rfl (vi_5 (by decide)) tc_5 dX7_opens_48 (fun H locs hP hD hS => ?_)
      have hP : va_P G vwCl (md_W cy a (upd (upd (upd mn (Int32.toNatClampNeg (((32 : Int32) + ((2 : Int32) * p1)) + (1 : Int32))) (1 : Int32)) 0 (1 : Int32)) 5 (-5 : Int32)) mf mk mg mv mt mm) H := hP
      have hD : va_D A (md_W cy a (upd (upd (upd mn (Int32.toNatClampNeg (((32 : Int32) + ((2 : Int32) * p1)) + (1 : Int32))) (1 : Int32)) 0 (1 : Int32)) 5 (-5 : Int32)) mf mk mg mv mt mm) := hD
      refine lv_aload_n hx hb dX7_opens_49 rfl (lv_at hl 0 rfl) ?_
      refine kg (v := .ref (a 1)) S hE hP 0 rfl rfl 0 (by decide) q_4_13 rfl rfl inlX7 dX7_opens_50 ?_
      refine lv_iconst (v := (2 : Int32)) hx hb dX7_opens_53 (by decide) ?_
      refine lv_iconst (v := (0 : Int32)) hx hb dX7_opens_54 (by decide) ?_
      refine kais S hE hP hD hS 1 rfl (vi_2 (by decide)) tc_2 dX7_opens_55 (fun H locs hP hD hS => ?_)
      have hP : va_P G vwCl (md_W cy a (upd (upd (upd (upd mn (Int32.toNatClampNeg (((32 : Int32) + ((2 : Int32) * p1)) + (1 : Int32))) (1 : Int32)) 0 (1 : Int32)) 5 (-5 : Int32)) 2 (0 : Int32)) mf mk mg mv mt mm) H := hP
      have hD : va_D A (md_W cy a (upd (upd (upd (upd mn (Int32.toNatClampNeg (((32 : Int32) + ((2 : Int32) * p1)) + (1 : Int32))) (1 : Int32)) 0 (1 : Int32)) 5 (-5 : Int32)) 2 (0 : Int32)) mf mk mg mv mt mm) := hD
      exact J_56 _ h _ _ _ hP hD hS (lv_sub hl [0] rfl)
def vX7_open (mn : Nat → Int32) (mf : Nat → UInt32) (mk : Nat → Int32) (mg : Nat → UInt32) (mm : Nat → Int32) (p1 : Int32) (K : Int32 → ((Nat → Int32) × (Nat → Int32) × (Nat → UInt32) × (Nat → Int32)) → Prop) : Prop :=
  vX7_openError mn p1 (fun r_2 u_2 => (r_2 = (0 : Int32) → vX7_records mn mf mk mg mm (fun u_13 => vX7_opens mn p1 (fun r_18 u_18 => K r_18 (u_18, u_13.1, u_13.2.1, u_13.2.2)))) ∧ (¬ r_2 = (0 : Int32) → K r_2 (mn, mk, mg, mm)))
set_option maxRecDepth 100000 in
set_option maxHeartbeats 4000000 in
theorem ctX7_open (l : Launch) (G : va_G) (cy : Nat → ClassId) (a : Nat → Nat) (mn : Nat → Int32) (mf : Nat → UInt32) (mk : Nat → Int32) (mg : Nat → UInt32) (mv : Nat → Int32) (mt : Nat → Int32) (mm : Nat → Int32) (p1 : Int32) (K : Int32 → ((Nat → Int32) × (Nat → Int32) × (Nat → UInt32) × (Nat → Int32)) → Prop) (h : vX7_open mn mf mk mg mm p1 K) : Met l yX7_open (ws_ yX7_open cX7_open 3 (some .int)) ({ frames := 3, cells := 0, slots := 0, locals := 64 } : Room) (CP G cy [.ref (a 0), .int p1] (md_W cy a mn mf mk mg mv mt mm)) (RI G K (fun u => md_W cy a u.1 mf u.2.1 u.2.2.1 mv mt u.2.2.2) (A1 (md_W cy a mn mf mk mg mv mt mm))) 0 0 (A1 (md_W cy a mn mf mk mg mv mt mm)) := by
  refine hd_go (Qf := fun A => (RI G K (fun u => md_W cy a u.1 mf u.2.1 u.2.2.1 mv mt u.2.2.2) A)) (by decide +kernel) (Nat.le_of_ble_eq_true rfl) ?_
  intro p e s m below meth c ls A hx hb hr hlocks S hE hP hD hS hl
  have hl : lv_has ls 3 [(0, .ref (a 0)), (1, .int p1)] := hl
  unfold vX7_open at h
  refine lv_aload_n hx hb dX7_open_0 rfl (lv_at hl 0 rfl) ?_
  refine lv_iload_n hx hb dX7_open_1 rfl (lv_at hl 1 rfl) ?_
  refine kc_Vi0 (As := [.int p1]) (rest := []) S hE (ctX7_openError l G cy a mn mf mk mg mv mt mm p1 _ h) q_20_1 q_20_2 q_20_3 q_1_5 q_20_4 rfl 0 rfl rfl ydX7_openError ⟨⟨rfl, rfl⟩, ⟨Nat.le_of_ble_eq_true rfl, Nat.le_of_ble_eq_true rfl⟩⟩ ⟨Nat.zero_le _, Nat.zero_le _⟩ hP hD hS rfl hl.1 rfl (Nat.le_of_ble_eq_true rfl) dX7_open_2 (fun r_2 u_2 H locs h hP hD hS => ?_)
  refine lv_istore_n (lv' := [(2, .int r_2), (0, .ref (a 0)), (1, .int p1)]) hx hb dX7_open_5 rfl hl (by decide) rfl (fun ls hl => ?_)
  refine lv_iload_n hx hb dX7_open_6 rfl (lv_at hl 0 rfl) ?_
  refine lv_if_eq (tgt := 12) hx hb dX7_open_7 (by decide) (fun c_7 => ?_) (fun c_7 => ?_)
  · have h := h.1 c_7
    refine lv_aload_n hx hb dX7_open_12 rfl (lv_at hl 1 rfl) ?_
    refine kc_Vv0 (As := []) (rest := []) S hE (ctX7_records l G cy a mn mf mk mg mv mt mm  _ h) q_8_20 q_8_21 q_8_22 q_1_5 q_8_23 rfl 0 rfl rfl ydX7_records ⟨⟨rfl, rfl⟩, ⟨Nat.le_of_ble_eq_true rfl, Nat.le_of_ble_eq_true rfl⟩⟩ ⟨Nat.zero_le _, Nat.zero_le _⟩ hP hD hS rfl hl.1 rfl (Nat.le_of_ble_eq_true rfl) dX7_open_13 (fun u_13 H locs h hP hD hS => ?_)
    refine lv_aload_n hx hb dX7_open_16 rfl (lv_at hl 1 rfl) ?_
    refine lv_iload_n hx hb dX7_open_17 rfl (lv_at hl 2 rfl) ?_
    refine kc_Vi0 (As := [.int p1]) (rest := []) S hE (ctX7_opens l G cy a mn mf u_13.1 u_13.2.1 mv mt u_13.2.2 p1 _ h) q_20_9 q_20_10 q_20_11 q_1_5 q_20_12 rfl 0 rfl rfl ydX7_opens ⟨⟨rfl, rfl⟩, ⟨Nat.le_of_ble_eq_true rfl, Nat.le_of_ble_eq_true rfl⟩⟩ ⟨Nat.zero_le _, Nat.zero_le _⟩ hP hD hS rfl hl.1 rfl (Nat.le_of_ble_eq_true rfl) dX7_open_18 (fun r_18 u_18 H locs h hP hD hS => ?_)
    exact W.iret (v := r_18) hx hb hr (fun t ht hW => ⟨⟨r_18, (u_18, u_13.1, u_13.2.1, u_13.2.2), rfl, h, ⟨hp_at ht hP, hD⟩⟩, hS.F ht⟩) hS.2.2 dX7_open_21
  · have h := h.2 c_7
    refine lv_iload_n hx hb dX7_open_10 rfl (lv_at hl 0 rfl) ?_
    exact W.iret (v := r_2) hx hb hr (fun t ht hW => ⟨⟨r_2, (mn, mk, mg, mm), rfl, h, ⟨hp_at ht hP, hD⟩⟩, hS.F ht⟩) hS.2.2 dX7_open_11
def vX7_passes_2b (x1 : Int32) (K : Int32 → ((Nat → Int32) × (Nat → UInt32)) → Prop)  (B2 : (Nat → Int32) → (Nat → UInt32) → Int32 → Prop) (mn : Nat → Int32) (mf : Nat → UInt32) (x2 : Int32) : Prop :=
  (x1 ≤ x2 → K (mn 0) (mn, mf)) ∧ (¬ x1 ≤ x2 → vX7_passesSecond mn mf (fun u_8 => B2 u_8.1 u_8.2 (x2 + (1 : Int32))))
def vX7_passes_2F (x1 : Int32) (K : Int32 → ((Nat → Int32) × (Nat → UInt32)) → Prop)  : (((Nat → Int32) × (Nat → UInt32) × Int32) → Prop) → ((Nat → Int32) × (Nat → UInt32) × Int32) → Prop := fun B z => vX7_passes_2b x1 K  (fun z0 z1 z2 => B (z0, z1, z2)) z.1 z.2.1 z.2.2
def vX7_passes (mn : Nat → Int32) (mf : Nat → UInt32) (p1 : Int32) (K : Int32 → ((Nat → Int32) × (Nat → UInt32)) → Prop) : Prop :=
  ∃ k, lp (vX7_passes_2F p1 K ) k (mn, mf, (0 : Int32))
set_option maxRecDepth 100000 in
set_option maxHeartbeats 4000000 in
theorem ctX7_passes (l : Launch) (G : va_G) (cy : Nat → ClassId) (a : Nat → Nat) (mn : Nat → Int32) (mf : Nat → UInt32) (mk : Nat → Int32) (mg : Nat → UInt32) (mv : Nat → Int32) (mt : Nat → Int32) (mm : Nat → Int32) (p1 : Int32) (K : Int32 → ((Nat → Int32) × (Nat → UInt32)) → Prop) (h : vX7_passes mn mf p1 K) : Met l yX7_passes (ws_ yX7_passes cX7_passes 3 (some .int)) ({ frames := 7, cells := 0, slots := 0, locals := 150 } : Room) (CP G cy [.ref (a 0), .int p1] (md_W cy a mn mf mk mg mv mt mm)) (RI G K (fun u => md_W cy a u.1 u.2 mk mg mv mt mm) (A1 (md_W cy a mn mf mk mg mv mt mm))) 0 0 (A1 (md_W cy a mn mf mk mg mv mt mm)) := by
  refine hd_go (Qf := fun A => (RI G K (fun u => md_W cy a u.1 u.2 mk mg mv mt mm) A)) (by decide +kernel) (Nat.le_of_ble_eq_true rfl) ?_
  intro p e s m below meth c ls A hx hb hr hlocks S hE hP hD hS hl
  have hl : lv_has ls 3 [(0, .ref (a 0)), (1, .int p1)] := hl
  unfold vX7_passes at h
  have L_2 : ∀ (x1 : Int32) (k_2 : Nat) (mn : Nat → Int32) (mf : Nat → UInt32) (x2 : Int32), lp (vX7_passes_2F x1 K ) k_2 (mn, mf, x2) → ∀ (H : Heap) (locs : List Loc) (ls : Array Slot), va_P G vwCl (md_W cy a mn mf mk mg mv mt mm) H → va_D A (md_W cy a mn mf mk mg mv mt mm) → va_S A s.heap H locs → lv_has ls 3 [(0, .ref (a 0)), (1, .int x1), (2, .int x2)] → W p l e (headSpec (ws_ yX7_passes cX7_passes 3 (some .int)) ({ frames := 7, cells := 0, slots := 0, locals := 150 } : Room)).room s m ([.ref (a 0), .int p1] : List Value).toArray below meth c H locs 0 0 (MQ below (RI G K (fun u => md_W cy a u.1 u.2 mk mg mv mt mm) A) ([.ref (a 0), .int p1] : List Value).toArray s 0 0 A) (F0 m 2 ls []) := by
    intro x1 k_2
    induction k_2 with
    | zero => intro mn mf x2 h; exact h.elim
    | succ k_2 ih_2 =>
      intro mn mf x2 h H locs ls hP hD hS hl
      have h : vX7_passes_2b x1 K  (fun z0 z1 z2 => lp (vX7_passes_2F x1 K ) k_2 (z0, z1, z2)) mn mf x2 := h
      unfold vX7_passes_2b at h
      refine lv_iload_n hx hb dX7_passes_2 rfl (lv_at hl 2 rfl) ?_
      refine lv_iload_n hx hb dX7_passes_3 rfl (lv_at hl 1 rfl) ?_
      refine lv_icmp_ge (tgt := 17) hx hb dX7_passes_4 (by decide) (fun c_4 => ?_) (fun c_4 => ?_)
      · have h := h.1 c_4
        refine lv_aload_n hx hb dX7_passes_17 rfl (lv_at hl 0 rfl) ?_
        refine kg (v := .ref (a 1)) S hE hP 0 rfl rfl 0 (by decide) q_4_13 rfl rfl inlX7 dX7_passes_18 ?_
        refine lv_iconst (v := (0 : Int32)) hx hb dX7_passes_21 (by decide) ?_
        refine kail (v := (mn 0)) S hE hP 1 rfl (vi_0 (by decide)) tc_0 rfl dX7_passes_22 ?_
        exact W.iret (v := (mn 0)) hx hb hr (fun t ht hW => ⟨⟨(mn 0), (mn, mf), rfl, h, ⟨hp_at ht hP, hD⟩⟩, hS.F ht⟩) hS.2.2 dX7_passes_23
      · have h := h.2 c_4
        refine lv_aload_n hx hb dX7_passes_7 rfl (lv_at hl 0 rfl) ?_
        refine kc_Vv0 (As := []) (rest := []) S hE (ctX7_passesSecond l G cy a mn mf mk mg mv mt mm  _ h) q_21_5 q_21_6 q_21_7 q_1_5 q_21_8 rfl 0 rfl rfl ydX7_passesSecond ⟨⟨rfl, rfl⟩, ⟨Nat.le_of_ble_eq_true rfl, Nat.le_of_ble_eq_true rfl⟩⟩ ⟨Nat.zero_le _, Nat.zero_le _⟩ hP hD hS rfl hl.1 rfl (Nat.le_of_ble_eq_true rfl) dX7_passes_8 (fun u_8 H locs h hP hD hS => ?_)
        refine lv_iinc (v := (x2 + (1 : Int32))) (lv' := [(2, .int (x2 + (1 : Int32))), (0, .ref (a 0)), (1, .int x1)]) hx hb dX7_passes_11 hl (k := 2) rfl (by rfl) (by decide) rfl (fun ls hl => ?_)
        refine lv_goto (tgt := 2) hx hb dX7_passes_14 (by decide) ?_
        exact ih_2 _ _ _ h _ _ _ hP hD hS (lv_sub hl [1, 2, 0] rfl)
  refine lv_iconst (v := (0 : Int32)) hx hb dX7_passes_0 (by decide) ?_
  refine lv_istore_n (lv' := [(2, .int (0 : Int32)), (0, .ref (a 0)), (1, .int p1)]) hx hb dX7_passes_1 rfl hl (by decide) rfl (fun ls hl => ?_)
  obtain ⟨k0, h⟩ := h
  exact L_2 _ k0 _ _ _ h _ _ _ hP hD hS (lv_sub hl [1, 2, 0] rfl)
def vX7_pass (mn : Nat → Int32) (mf : Nat → UInt32) (mk : Nat → Int32) (mg : Nat → UInt32) (mm : Nat → Int32) (p1 : Int32) (K : Int32 → ((Nat → Int32) × (Nat → UInt32) × (Nat → Int32) × (Nat → UInt32) × (Nat → Int32)) → Prop) : Prop :=
  vX7_isIn p1 (1 : Int32) (200 : Int32) (fun r_5 u_5 => (¬ r_5 = (0 : Int32) → vX7_records mn mf mk mg mm (fun u_15 => vX7_passes mn mf p1 (fun r_20 u_20 => K r_20 (u_20.1, u_20.2, u_15.1, u_15.2.1, u_15.2.2)))) ∧ (r_5 = (0 : Int32) → K (-2 : Int32) (mn, mf, mk, mg, mm)))
set_option maxRecDepth 100000 in
set_option maxHeartbeats 4000000 in
theorem ctX7_pass (l : Launch) (G : va_G) (cy : Nat → ClassId) (a : Nat → Nat) (mn : Nat → Int32) (mf : Nat → UInt32) (mk : Nat → Int32) (mg : Nat → UInt32) (mv : Nat → Int32) (mt : Nat → Int32) (mm : Nat → Int32) (p1 : Int32) (K : Int32 → ((Nat → Int32) × (Nat → UInt32) × (Nat → Int32) × (Nat → UInt32) × (Nat → Int32)) → Prop) (h : vX7_pass mn mf mk mg mm p1 K) : Met l yX7_pass (ws_ yX7_pass cX7_pass 2 (some .int)) ({ frames := 8, cells := 0, slots := 0, locals := 172 } : Room) (CP G cy [.ref (a 0), .int p1] (md_W cy a mn mf mk mg mv mt mm)) (RI G K (fun u => md_W cy a u.1 u.2.1 u.2.2.1 u.2.2.2.1 mv mt u.2.2.2.2) (A1 (md_W cy a mn mf mk mg mv mt mm))) 0 0 (A1 (md_W cy a mn mf mk mg mv mt mm)) := by
  refine hd_go (Qf := fun A => (RI G K (fun u => md_W cy a u.1 u.2.1 u.2.2.1 u.2.2.2.1 mv mt u.2.2.2.2) A)) (by decide +kernel) (Nat.le_of_ble_eq_true rfl) ?_
  intro p e s m below meth c ls A hx hb hr hlocks S hE hP hD hS hl
  have hl : lv_has ls 2 [(0, .ref (a 0)), (1, .int p1)] := hl
  unfold vX7_pass at h
  refine lv_iload_n hx hb dX7_pass_0 rfl (lv_at hl 1 rfl) ?_
  refine lv_iconst (v := (1 : Int32)) hx hb dX7_pass_1 (by decide) ?_
  refine lv_sipush (v := (200 : Int32)) hx hb dX7_pass_2 (by decide) ?_
  refine kc_SiE (As := [.int p1, .int (1 : Int32), .int (200 : Int32)]) (rest := []) S hE (ctX7_isIn l G cy   p1 (1 : Int32) (200 : Int32) _ h) q_8_17 q_8_18 q_1_5 q_8_19 ydX7_isIn ⟨⟨rfl, rfl⟩, ⟨Nat.le_of_ble_eq_true rfl, Nat.le_of_ble_eq_true rfl⟩⟩ ⟨Nat.zero_le _, Nat.zero_le _⟩ hP hD hS (fun _ => rfl) rfl hl.1 rfl (Nat.le_of_ble_eq_true rfl) dX7_pass_5 (fun r_5 u_5 H locs h hP hD hS => ?_)
  refine lv_if_ne (tgt := 14) hx hb dX7_pass_8 (by decide) (fun c_8 => ?_) (fun c_8 => ?_)
  · have h := h.1 c_8
    refine lv_aload_n hx hb dX7_pass_14 rfl (lv_at hl 0 rfl) ?_
    refine kc_Vv0 (As := []) (rest := []) S hE (ctX7_records l G cy a mn mf mk mg mv mt mm  _ h) q_8_20 q_8_21 q_8_22 q_1_5 q_8_23 rfl 0 rfl rfl ydX7_records ⟨⟨rfl, rfl⟩, ⟨Nat.le_of_ble_eq_true rfl, Nat.le_of_ble_eq_true rfl⟩⟩ ⟨Nat.zero_le _, Nat.zero_le _⟩ hP hD hS rfl hl.1 rfl (Nat.le_of_ble_eq_true rfl) dX7_pass_15 (fun u_15 H locs h hP hD hS => ?_)
    refine lv_aload_n hx hb dX7_pass_18 rfl (lv_at hl 0 rfl) ?_
    refine lv_iload_n hx hb dX7_pass_19 rfl (lv_at hl 1 rfl) ?_
    refine kc_Vi0 (As := [.int p1]) (rest := []) S hE (ctX7_passes l G cy a mn mf u_15.1 u_15.2.1 mv mt u_15.2.2 p1 _ h) q_21_1 q_21_2 q_21_3 q_1_5 q_21_4 rfl 0 rfl rfl ydX7_passes ⟨⟨rfl, rfl⟩, ⟨Nat.le_of_ble_eq_true rfl, Nat.le_of_ble_eq_true rfl⟩⟩ ⟨Nat.zero_le _, Nat.zero_le _⟩ hP hD hS rfl hl.1 rfl (Nat.le_of_ble_eq_true rfl) dX7_pass_20 (fun r_20 u_20 H locs h hP hD hS => ?_)
    exact W.iret (v := r_20) hx hb hr (fun t ht hW => ⟨⟨r_20, (u_20.1, u_20.2, u_15.1, u_15.2.1, u_15.2.2), rfl, h, ⟨hp_at ht hP, hD⟩⟩, hS.F ht⟩) hS.2.2 dX7_pass_23
  · have h := h.2 c_8
    refine lv_bipush (v := (-2 : Int32)) hx hb dX7_pass_11 (by decide) ?_
    exact W.iret (v := (-2 : Int32)) hx hb hr (fun t ht hW => ⟨⟨(-2 : Int32), (mn, mf, mk, mg, mm), rfl, h, ⟨hp_at ht hP, hD⟩⟩, hS.F ht⟩) hS.2.2 dX7_pass_13
