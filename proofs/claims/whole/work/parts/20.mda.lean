def vX7_isIn (p0 : Int32) (p1 : Int32) (p2 : Int32) (K : Int32 → Unit → Prop) : Prop :=
  (p0 < p1 → K (0 : Int32) ()) ∧ (¬ p0 < p1 → (p2 < p0 → K (0 : Int32) ()) ∧ (¬ p2 < p0 → K (1 : Int32) ()))
set_option maxRecDepth 100000 in
set_option maxHeartbeats 4000000 in
theorem ctX7_isIn (l : Launch) (G : va_G) (cy : Nat → ClassId)   (p0 : Int32) (p1 : Int32) (p2 : Int32) (K : Int32 → Unit → Prop) (h : vX7_isIn p0 p1 p2 K) : Met l yX7_isIn (ws_ yX7_isIn cX7_isIn 3 (some .boolean)) ({ frames := 0, cells := 0, slots := 0, locals := 0 } : Room) (CP G cy [.int p0, .int p1, .int p2] ([])) (RI G K (fun u => []) (A1 ([]))) 0 0 (A1 ([])) := by
  refine hd_go (Qf := fun A => (RI G K (fun u => []) A)) (by decide +kernel) (Nat.le_of_ble_eq_true rfl) ?_
  intro p e s m below meth c ls A hx hb hr hlocks S hE hP hD hS hl
  have hl : lv_has ls 3 [(0, .int p0), (1, .int p1), (2, .int p2)] := hl
  unfold vX7_isIn at h
  refine lv_iload_n hx hb dX7_isIn_0 rfl (lv_at hl 0 rfl) ?_
  refine lv_iload_n hx hb dX7_isIn_1 rfl (lv_at hl 1 rfl) ?_
  refine lv_icmp_lt (tgt := 14) hx hb dX7_isIn_2 (by decide) (fun c_2 => ?_) (fun c_2 => ?_)
  · have h := h.1 c_2
    refine lv_iconst (v := (0 : Int32)) hx hb dX7_isIn_14 (by decide) ?_
    exact W.zret (v := (0 : Int32)) hx hb hr (by decide +kernel) (fun t ht hW => ⟨⟨(0 : Int32), (), rfl, h, ⟨hp_at ht hP, hD⟩⟩, hS.F ht⟩) hS.2.2 dX7_isIn_15
  · have h := h.2 c_2
    refine lv_iload_n hx hb dX7_isIn_5 rfl (lv_at hl 0 rfl) ?_
    refine lv_iload_n hx hb dX7_isIn_6 rfl (lv_at hl 2 rfl) ?_
    refine lv_icmp_gt (tgt := 14) hx hb dX7_isIn_7 (by decide) (fun c_7 => ?_) (fun c_7 => ?_)
    · have h := h.1 c_7
      refine lv_iconst (v := (0 : Int32)) hx hb dX7_isIn_14 (by decide) ?_
      exact W.zret (v := (0 : Int32)) hx hb hr (by decide +kernel) (fun t ht hW => ⟨⟨(0 : Int32), (), rfl, h, ⟨hp_at ht hP, hD⟩⟩, hS.F ht⟩) hS.2.2 dX7_isIn_15
    · have h := h.2 c_7
      refine lv_iconst (v := (1 : Int32)) hx hb dX7_isIn_10 (by decide) ?_
      refine lv_goto (tgt := 15) hx hb dX7_isIn_11 (by decide) ?_
      exact W.zret (v := (1 : Int32)) hx hb hr (by decide +kernel) (fun t ht hW => ⟨⟨(1 : Int32), (), rfl, h, ⟨hp_at ht hP, hD⟩⟩, hS.F ht⟩) hS.2.2 dX7_isIn_15
def vX7_metres (p0 : Int32) (K : UInt32 → Unit → Prop) : Prop :=
  vf_n32 (FP.fdiv (FP.i2f p0) (1120403456 : UInt32)) ∧ K (FP.fdiv (FP.i2f p0) (1120403456 : UInt32)) ()
set_option maxRecDepth 100000 in
set_option maxHeartbeats 4000000 in
theorem ctX7_metres (l : Launch) (G : va_G) (cy : Nat → ClassId)   (p0 : Int32) (K : UInt32 → Unit → Prop) (h : vX7_metres p0 K) : Met l yX7_metres (ws_ yX7_metres cX7_metres 1 (some .float)) ({ frames := 0, cells := 0, slots := 0, locals := 0 } : Room) (CP G cy [.int p0] ([])) (RF G K (fun u => []) (A1 ([]))) 0 0 (A1 ([])) := by
  refine hd_go (Qf := fun A => (RF G K (fun u => []) A)) (by decide +kernel) (Nat.le_of_ble_eq_true rfl) ?_
  intro p e s m below meth c ls A hx hb hr hlocks S hE hP hD hS hl
  have hl : lv_has ls 1 [(0, .int p0)] := hl
  unfold vX7_metres at h
  refine lv_iload_n hx hb dX7_metres_0 rfl (lv_at hl 0 rfl) ?_
  refine lv_i2f hx hb dX7_metres_1 ?_
  refine lv_ldcf hx hb S.2.2.2.1 (S.2.2.2.2 _ q_4_20) dX7_metres_2 ?_
  refine lv_fdiv hx hb dX7_metres_4 h.1 ?_
  have h := h.2
  exact W.fret (v := (FP.fdiv (FP.i2f p0) (1120403456 : UInt32))) hx hb hr (fun t ht hW => ⟨⟨(FP.fdiv (FP.i2f p0) (1120403456 : UInt32)), (), rfl, h, ⟨hp_at ht hP, hD⟩⟩, hS.F ht⟩) hS.2.2 dX7_metres_5
def vX7_thousandth (p0 : Int32) (K : UInt32 → Unit → Prop) : Prop :=
  vf_n32 (FP.fdiv (FP.i2f p0) (1148846080 : UInt32)) ∧ K (FP.fdiv (FP.i2f p0) (1148846080 : UInt32)) ()
set_option maxRecDepth 100000 in
set_option maxHeartbeats 4000000 in
theorem ctX7_thousandth (l : Launch) (G : va_G) (cy : Nat → ClassId)   (p0 : Int32) (K : UInt32 → Unit → Prop) (h : vX7_thousandth p0 K) : Met l yX7_thousandth (ws_ yX7_thousandth cX7_thousandth 1 (some .float)) ({ frames := 0, cells := 0, slots := 0, locals := 0 } : Room) (CP G cy [.int p0] ([])) (RF G K (fun u => []) (A1 ([]))) 0 0 (A1 ([])) := by
  refine hd_go (Qf := fun A => (RF G K (fun u => []) A)) (by decide +kernel) (Nat.le_of_ble_eq_true rfl) ?_
  intro p e s m below meth c ls A hx hb hr hlocks S hE hP hD hS hl
  have hl : lv_has ls 1 [(0, .int p0)] := hl
  unfold vX7_thousandth at h
  refine lv_iload_n hx hb dX7_thousandth_0 rfl (lv_at hl 0 rfl) ?_
  refine lv_i2f hx hb dX7_thousandth_1 ?_
  refine lv_ldcf hx hb S.2.2.2.1 (S.2.2.2.2 _ q_9_11) dX7_thousandth_2 ?_
  refine lv_fdiv hx hb dX7_thousandth_4 h.1 ?_
  have h := h.2
  exact W.fret (v := (FP.fdiv (FP.i2f p0) (1148846080 : UInt32))) hx hb hr (fun t ht hW => ⟨⟨(FP.fdiv (FP.i2f p0) (1148846080 : UInt32)), (), rfl, h, ⟨hp_at ht hP, hD⟩⟩, hS.F ht⟩) hS.2.2 dX7_thousandth_5
def vX7_sizeOf (p0 : UInt32) (K : UInt32 → Unit → Prop) : Prop :=
  ((0 : Int32) ≤ (fcg p0 FP.fconst0) → K p0 ()) ∧ (¬ (0 : Int32) ≤ (fcg p0 FP.fconst0) → K (FP.fneg p0) ())
set_option maxRecDepth 100000 in
set_option maxHeartbeats 4000000 in
theorem ctX7_sizeOf (l : Launch) (G : va_G) (cy : Nat → ClassId)   (p0 : UInt32) (K : UInt32 → Unit → Prop) (h : vX7_sizeOf p0 K) : Met l yX7_sizeOf (ws_ yX7_sizeOf cX7_sizeOf 1 (some .float)) ({ frames := 0, cells := 0, slots := 0, locals := 0 } : Room) (CP G cy [.float p0] ([])) (RF G K (fun u => []) (A1 ([]))) 0 0 (A1 ([])) := by
  refine hd_go (Qf := fun A => (RF G K (fun u => []) A)) (by decide +kernel) (Nat.le_of_ble_eq_true rfl) ?_
  intro p e s m below meth c ls A hx hb hr hlocks S hE hP hD hS hl
  have hl : lv_has ls 1 [(0, .float p0)] := hl
  unfold vX7_sizeOf at h
  refine lv_fload_n hx hb dX7_sizeOf_0 rfl (lv_at hl 0 rfl) ?_
  refine lv_fconst0 hx hb dX7_sizeOf_1 ?_
  refine lv_fcmp hx hb dX7_sizeOf_2 ?_
  refine lv_if_ge (tgt := 11) hx hb dX7_sizeOf_3 (by decide) (fun c_3 => ?_) (fun c_3 => ?_)
  · have h := h.1 c_3
    refine lv_fload_n hx hb dX7_sizeOf_11 rfl (lv_at hl 0 rfl) ?_
    exact W.fret (v := p0) hx hb hr (fun t ht hW => ⟨⟨p0, (), rfl, h, ⟨hp_at ht hP, hD⟩⟩, hS.F ht⟩) hS.2.2 dX7_sizeOf_12
  · have h := h.2 c_3
    refine lv_fload_n hx hb dX7_sizeOf_6 rfl (lv_at hl 0 rfl) ?_
    refine lv_fneg hx hb dX7_sizeOf_7 ?_
    refine lv_goto (tgt := 12) hx hb dX7_sizeOf_8 (by decide) ?_
    exact W.fret (v := (FP.fneg p0)) hx hb hr (fun t ht hW => ⟨⟨(FP.fneg p0), (), rfl, h, ⟨hp_at ht hP, hD⟩⟩, hS.F ht⟩) hS.2.2 dX7_sizeOf_12
def vX7_held (p0 : UInt32) (p1 : UInt32) (p2 : UInt32) (K : UInt32 → Unit → Prop) : Prop :=
  ((0 : Int32) ≤ (fcg p0 p1) → ((fcl p0 p2) ≤ (0 : Int32) → K p0 ()) ∧ (¬ (fcl p0 p2) ≤ (0 : Int32) → K p2 ())) ∧ (¬ (0 : Int32) ≤ (fcg p0 p1) → K p1 ())
set_option maxRecDepth 100000 in
set_option maxHeartbeats 4000000 in
theorem ctX7_held (l : Launch) (G : va_G) (cy : Nat → ClassId)   (p0 : UInt32) (p1 : UInt32) (p2 : UInt32) (K : UInt32 → Unit → Prop) (h : vX7_held p0 p1 p2 K) : Met l yX7_held (ws_ yX7_held cX7_held 3 (some .float)) ({ frames := 0, cells := 0, slots := 0, locals := 0 } : Room) (CP G cy [.float p0, .float p1, .float p2] ([])) (RF G K (fun u => []) (A1 ([]))) 0 0 (A1 ([])) := by
  refine hd_go (Qf := fun A => (RF G K (fun u => []) A)) (by decide +kernel) (Nat.le_of_ble_eq_true rfl) ?_
  intro p e s m below meth c ls A hx hb hr hlocks S hE hP hD hS hl
  have hl : lv_has ls 3 [(0, .float p0), (1, .float p1), (2, .float p2)] := hl
  unfold vX7_held at h
  refine lv_fload_n hx hb dX7_held_0 rfl (lv_at hl 0 rfl) ?_
  refine lv_fload_n hx hb dX7_held_1 rfl (lv_at hl 1 rfl) ?_
  refine lv_fcmp hx hb dX7_held_2 ?_
  refine lv_if_ge (tgt := 10) hx hb dX7_held_3 (by decide) (fun c_3 => ?_) (fun c_3 => ?_)
  · have h := h.1 c_3
    refine lv_fload_n hx hb dX7_held_10 rfl (lv_at hl 0 rfl) ?_
    refine lv_fload_n hx hb dX7_held_11 rfl (lv_at hl 2 rfl) ?_
    refine lv_fcmp hx hb dX7_held_12 ?_
    refine lv_if_le (tgt := 20) hx hb dX7_held_13 (by decide) (fun c_13 => ?_) (fun c_13 => ?_)
    · have h := h.1 c_13
      refine lv_fload_n hx hb dX7_held_20 rfl (lv_at hl 0 rfl) ?_
      exact W.fret (v := p0) hx hb hr (fun t ht hW => ⟨⟨p0, (), rfl, h, ⟨hp_at ht hP, hD⟩⟩, hS.F ht⟩) hS.2.2 dX7_held_21
    · have h := h.2 c_13
      refine lv_fload_n hx hb dX7_held_16 rfl (lv_at hl 2 rfl) ?_
      refine lv_goto (tgt := 21) hx hb dX7_held_17 (by decide) ?_
      exact W.fret (v := p2) hx hb hr (fun t ht hW => ⟨⟨p2, (), rfl, h, ⟨hp_at ht hP, hD⟩⟩, hS.F ht⟩) hS.2.2 dX7_held_21
  · have h := h.2 c_3
    refine lv_fload_n hx hb dX7_held_6 rfl (lv_at hl 1 rfl) ?_
    refine lv_goto (tgt := 21) hx hb dX7_held_7 (by decide) ?_
    exact W.fret (v := p1) hx hb hr (fun t ht hW => ⟨⟨p1, (), rfl, h, ⟨hp_at ht hP, hD⟩⟩, hS.F ht⟩) hS.2.2 dX7_held_21
def vX7_keeps_33b (mn : Nat → Int32) (mf : Nat → UInt32) (mk : Nat → Int32) (x1 : Int32) (K : ((Nat → Int32) × (Nat → UInt32)) → Prop)  (B33 : (Nat → UInt32) → Int32 → Prop) (mg : Nat → UInt32) (x2 : Int32) : Prop :=
  ((5 : Int32) ≤ x2 → K (mk, mg)) ∧ (¬ (5 : Int32) ≤ x2 → vp_in x2 5 ∧ vp_in (((5 : Int32) * x1) + x2) 40 ∧ B33 (vf_upd mg (Int32.toNatClampNeg (((5 : Int32) * x1) + x2)) (mf (Int32.toNatClampNeg x2))) (x2 + (1 : Int32)))
def vX7_keeps_33F (mn : Nat → Int32) (mf : Nat → UInt32) (mk : Nat → Int32) (x1 : Int32) (K : ((Nat → Int32) × (Nat → UInt32)) → Prop)  : (((Nat → UInt32) × Int32) → Prop) → ((Nat → UInt32) × Int32) → Prop := fun B z => vX7_keeps_33b mn mf mk x1 K  (fun z0 z1 => B (z0, z1)) z.1 z.2
def vX7_keeps_2b (mn : Nat → Int32) (mf : Nat → UInt32) (mg : Nat → UInt32) (x1 : Int32) (K : ((Nat → Int32) × (Nat → UInt32)) → Prop)  (B2 : (Nat → Int32) → Int32 → Prop) (mk : Nat → Int32) (x2 : Int32) : Prop :=
  ((40 : Int32) ≤ x2 → ∃ k, lp (vX7_keeps_33F mn mf mk x1 K ) k (mg, (0 : Int32))) ∧ (¬ (40 : Int32) ≤ x2 → vp_in x2 40 ∧ vp_in ((x1 * (40 : Int32)) + x2) 320 ∧ B2 (upd mk (Int32.toNatClampNeg ((x1 * (40 : Int32)) + x2)) (mn (Int32.toNatClampNeg x2))) (x2 + (1 : Int32)))
def vX7_keeps_2F (mn : Nat → Int32) (mf : Nat → UInt32) (mg : Nat → UInt32) (x1 : Int32) (K : ((Nat → Int32) × (Nat → UInt32)) → Prop)  : (((Nat → Int32) × Int32) → Prop) → ((Nat → Int32) × Int32) → Prop := fun B z => vX7_keeps_2b mn mf mg x1 K  (fun z0 z1 => B (z0, z1)) z.1 z.2
def vX7_keeps (mn : Nat → Int32) (mf : Nat → UInt32) (mk : Nat → Int32) (mg : Nat → UInt32) (p1 : Int32) (K : ((Nat → Int32) × (Nat → UInt32)) → Prop) : Prop :=
  ∃ k, lp (vX7_keeps_2F mn mf mg p1 K ) k (mk, (0 : Int32))
set_option maxRecDepth 100000 in
set_option maxHeartbeats 4000000 in
theorem ctX7_keeps (l : Launch) (G : va_G) (cy : Nat → ClassId) (a : Nat → Nat) (mn : Nat → Int32) (mf : Nat → UInt32) (mk : Nat → Int32) (mg : Nat → UInt32) (mv : Nat → Int32) (mt : Nat → Int32) (mm : Nat → Int32) (p1 : Int32) (K : ((Nat → Int32) × (Nat → UInt32)) → Prop) (h : vX7_keeps mn mf mk mg p1 K) : Met l yX7_keeps (ws_ yX7_keeps cX7_keeps 3 none) ({ frames := 0, cells := 0, slots := 0, locals := 0 } : Room) (CP G cy [.ref (a 0), .int p1] (md_W cy a mn mf mk mg mv mt mm)) (RV G K (fun u => md_W cy a mn mf u.1 u.2 mv mt mm) (A1 (md_W cy a mn mf mk mg mv mt mm))) 0 0 (A1 (md_W cy a mn mf mk mg mv mt mm)) := by
  refine hd_go (Qf := fun A => (RV G K (fun u => md_W cy a mn mf u.1 u.2 mv mt mm) A)) (by decide +kernel) (Nat.le_of_ble_eq_true rfl) ?_
  intro p e s m below meth c ls A hx hb hr hlocks S hE hP hD hS hl
  have hl : lv_has ls 3 [(0, .ref (a 0)), (1, .int p1)] := hl
  unfold vX7_keeps at h
  have L_33 : ∀ (mn : Nat → Int32) (mf : Nat → UInt32) (mk : Nat → Int32) (x1 : Int32) (k_33 : Nat) (mg : Nat → UInt32) (x2 : Int32), lp (vX7_keeps_33F mn mf mk x1 K ) k_33 (mg, x2) → ∀ (H : Heap) (locs : List Loc) (ls : Array Slot), va_P G vwCl (md_W cy a mn mf mk mg mv mt mm) H → va_D A (md_W cy a mn mf mk mg mv mt mm) → va_S A s.heap H locs → lv_has ls 3 [(0, .ref (a 0)), (1, .int x1), (2, .int x2)] → W p l e (headSpec (ws_ yX7_keeps cX7_keeps 3 none) ({ frames := 0, cells := 0, slots := 0, locals := 0 } : Room)).room s m ([.ref (a 0), .int p1] : List Value).toArray below meth c H locs 0 0 (MQ below (RV G K (fun u => md_W cy a mn mf u.1 u.2 mv mt mm) A) ([.ref (a 0), .int p1] : List Value).toArray s 0 0 A) (F0 m 33 ls []) := by
    intro mn mf mk x1 k_33
    induction k_33 with
    | zero => intro mg x2 h; exact h.elim
    | succ k_33 ih_33 =>
      intro mg x2 h H locs ls hP hD hS hl
      have h : vX7_keeps_33b mn mf mk x1 K  (fun z0 z1 => lp (vX7_keeps_33F mn mf mk x1 K ) k_33 (z0, z1)) mg x2 := h
      unfold vX7_keeps_33b at h
      refine lv_iload_n hx hb dX7_keeps_33 rfl (lv_at hl 2 rfl) ?_
      refine lv_iconst (v := (5 : Int32)) hx hb dX7_keeps_34 (by decide) ?_
      refine lv_icmp_ge (tgt := 60) hx hb dX7_keeps_35 (by decide) (fun c_35 => ?_) (fun c_35 => ?_)
      · have h := h.1 c_35
        exact W.vret hx hb hr (fun t ht hW => ⟨⟨(mk, mg), rfl, h, ⟨hp_at ht hP, hD⟩⟩, hS.F ht⟩) hS.2.2 dX7_keeps_60
      · have h := h.2 c_35
        refine lv_aload_n hx hb dX7_keeps_38 rfl (lv_at hl 0 rfl) ?_
        refine kg (v := .ref (a 4)) S hE hP 0 rfl rfl 3 (by decide) q_4_17 rfl rfl inlX7 dX7_keeps_39 ?_
        refine lv_iconst (v := (5 : Int32)) hx hb dX7_keeps_42 (by decide) ?_
        refine lv_iload_n hx hb dX7_keeps_43 rfl (lv_at hl 1 rfl) ?_
        refine lv_imul hx hb dX7_keeps_44 ?_
        refine lv_iload_n hx hb dX7_keeps_45 rfl (lv_at hl 2 rfl) ?_
        refine lv_iadd hx hb dX7_keeps_46 ?_
        refine lv_aload_n hx hb dX7_keeps_47 rfl (lv_at hl 0 rfl) ?_
        refine kg (v := .ref (a 2)) S hE hP 0 rfl rfl 1 (by decide) q_4_15 rfl rfl inlX7 dX7_keeps_48 ?_
        refine lv_iload_n hx hb dX7_keeps_51 rfl (lv_at hl 2 rfl) ?_
        refine kafl (v := (mf (Int32.toNatClampNeg x2))) S hE hP 2 rfl h.1 rfl rfl dX7_keeps_52 ?_
        have h := h.2
        refine kafs S hE hP hD hS 4 rfl h.1 rfl dX7_keeps_53 (fun H locs hP hD hS => ?_)
        have h := h.2
        have hP : va_P G vwCl (md_W cy a mn mf mk (vf_upd mg (Int32.toNatClampNeg (((5 : Int32) * x1) + x2)) (mf (Int32.toNatClampNeg x2))) mv mt mm) H := hP
        have hD : va_D A (md_W cy a mn mf mk (vf_upd mg (Int32.toNatClampNeg (((5 : Int32) * x1) + x2)) (mf (Int32.toNatClampNeg x2))) mv mt mm) := hD
        refine lv_iinc (v := (x2 + (1 : Int32))) (lv' := [(2, .int (x2 + (1 : Int32))), (0, .ref (a 0)), (1, .int x1)]) hx hb dX7_keeps_54 hl (k := 2) rfl (by rfl) (by decide) rfl (fun ls hl => ?_)
        refine lv_goto (tgt := 33) hx hb dX7_keeps_57 (by decide) ?_
        exact ih_33 _ _ h _ _ _ hP hD hS (lv_sub hl [1, 2, 0] rfl)
  have L_2 : ∀ (mn : Nat → Int32) (mf : Nat → UInt32) (mg : Nat → UInt32) (x1 : Int32) (k_2 : Nat) (mk : Nat → Int32) (x2 : Int32), lp (vX7_keeps_2F mn mf mg x1 K ) k_2 (mk, x2) → ∀ (H : Heap) (locs : List Loc) (ls : Array Slot), va_P G vwCl (md_W cy a mn mf mk mg mv mt mm) H → va_D A (md_W cy a mn mf mk mg mv mt mm) → va_S A s.heap H locs → lv_has ls 3 [(0, .ref (a 0)), (1, .int x1), (2, .int x2)] → W p l e (headSpec (ws_ yX7_keeps cX7_keeps 3 none) ({ frames := 0, cells := 0, slots := 0, locals := 0 } : Room)).room s m ([.ref (a 0), .int p1] : List Value).toArray below meth c H locs 0 0 (MQ below (RV G K (fun u => md_W cy a mn mf u.1 u.2 mv mt mm) A) ([.ref (a 0), .int p1] : List Value).toArray s 0 0 A) (F0 m 2 ls []) := by
    intro mn mf mg x1 k_2
    induction k_2 with
    | zero => intro mk x2 h; exact h.elim
    | succ k_2 ih_2 =>
      intro mk x2 h H locs ls hP hD hS hl
      have h : vX7_keeps_2b mn mf mg x1 K  (fun z0 z1 => lp (vX7_keeps_2F mn mf mg x1 K ) k_2 (z0, z1)) mk x2 := h
      unfold vX7_keeps_2b at h
      refine lv_iload_n hx hb dX7_keeps_2 rfl (lv_at hl 2 rfl) ?_
      refine lv_bipush (v := (40 : Int32)) hx hb dX7_keeps_3 (by decide) ?_
      refine lv_icmp_ge (tgt := 31) hx hb dX7_keeps_5 (by decide) (fun c_5 => ?_) (fun c_5 => ?_)
      · have h := h.1 c_5
        refine lv_iconst (v := (0 : Int32)) hx hb dX7_keeps_31 (by decide) ?_
        refine lv_istore_n (lv' := [(2, .int (0 : Int32)), (0, .ref (a 0)), (1, .int x1)]) hx hb dX7_keeps_32 rfl hl (by decide) rfl (fun ls hl => ?_)
        obtain ⟨k0, h⟩ := h
        exact L_33 _ _ _ _ k0 _ _ h _ _ _ hP hD hS (lv_sub hl [1, 2, 0] rfl)
      · have h := h.2 c_5
        refine lv_aload_n hx hb dX7_keeps_8 rfl (lv_at hl 0 rfl) ?_
        refine kg (v := .ref (a 3)) S hE hP 0 rfl rfl 2 (by decide) q_4_16 rfl rfl inlX7 dX7_keeps_9 ?_
        refine lv_iload_n hx hb dX7_keeps_12 rfl (lv_at hl 1 rfl) ?_
        refine lv_bipush (v := (40 : Int32)) hx hb dX7_keeps_13 (by decide) ?_
        refine lv_imul hx hb dX7_keeps_15 ?_
        refine lv_iload_n hx hb dX7_keeps_16 rfl (lv_at hl 2 rfl) ?_
        refine lv_iadd hx hb dX7_keeps_17 ?_
        refine lv_aload_n hx hb dX7_keeps_18 rfl (lv_at hl 0 rfl) ?_
        refine kg (v := .ref (a 1)) S hE hP 0 rfl rfl 0 (by decide) q_4_13 rfl rfl inlX7 dX7_keeps_19 ?_
        refine lv_iload_n hx hb dX7_keeps_22 rfl (lv_at hl 2 rfl) ?_
        refine kail (v := (mn (Int32.toNatClampNeg x2))) S hE hP 1 rfl h.1 rfl rfl dX7_keeps_23 ?_
        have h := h.2
        refine kais S hE hP hD hS 3 rfl h.1 rfl dX7_keeps_24 (fun H locs hP hD hS => ?_)
        have h := h.2
        have hP : va_P G vwCl (md_W cy a mn mf (upd mk (Int32.toNatClampNeg ((x1 * (40 : Int32)) + x2)) (mn (Int32.toNatClampNeg x2))) mg mv mt mm) H := hP
        have hD : va_D A (md_W cy a mn mf (upd mk (Int32.toNatClampNeg ((x1 * (40 : Int32)) + x2)) (mn (Int32.toNatClampNeg x2))) mg mv mt mm) := hD
        refine lv_iinc (v := (x2 + (1 : Int32))) (lv' := [(2, .int (x2 + (1 : Int32))), (0, .ref (a 0)), (1, .int x1)]) hx hb dX7_keeps_25 hl (k := 2) rfl (by rfl) (by decide) rfl (fun ls hl => ?_)
        refine lv_goto (tgt := 2) hx hb dX7_keeps_28 (by decide) ?_
        exact ih_2 _ _ h _ _ _ hP hD hS (lv_sub hl [1, 2, 0] rfl)
  refine lv_iconst (v := (0 : Int32)) hx hb dX7_keeps_0 (by decide) ?_
  refine lv_istore_n (lv' := [(2, .int (0 : Int32)), (0, .ref (a 0)), (1, .int p1)]) hx hb dX7_keeps_1 rfl hl (by decide) rfl (fun ls hl => ?_)
  obtain ⟨k0, h⟩ := h
  exact L_2 _ _ _ _ k0 _ _ h _ _ _ hP hD hS (lv_sub hl [1, 2, 0] rfl)
def vX7_brings_33b (mn : Nat → Int32) (mk : Nat → Int32) (mg : Nat → UInt32) (x1 : Int32) (K : ((Nat → Int32) × (Nat → UInt32)) → Prop)  (B33 : (Nat → UInt32) → Int32 → Prop) (mf : Nat → UInt32) (x2 : Int32) : Prop :=
  ((5 : Int32) ≤ x2 → K (mn, mf)) ∧ (¬ (5 : Int32) ≤ x2 → vp_in (((5 : Int32) * x1) + x2) 40 ∧ vp_in x2 5 ∧ B33 (vf_upd mf (Int32.toNatClampNeg x2) (mg (Int32.toNatClampNeg (((5 : Int32) * x1) + x2)))) (x2 + (1 : Int32)))
def vX7_brings_33F (mn : Nat → Int32) (mk : Nat → Int32) (mg : Nat → UInt32) (x1 : Int32) (K : ((Nat → Int32) × (Nat → UInt32)) → Prop)  : (((Nat → UInt32) × Int32) → Prop) → ((Nat → UInt32) × Int32) → Prop := fun B z => vX7_brings_33b mn mk mg x1 K  (fun z0 z1 => B (z0, z1)) z.1 z.2
def vX7_brings_2b (mf : Nat → UInt32) (mk : Nat → Int32) (mg : Nat → UInt32) (x1 : Int32) (K : ((Nat → Int32) × (Nat → UInt32)) → Prop)  (B2 : (Nat → Int32) → Int32 → Prop) (mn : Nat → Int32) (x2 : Int32) : Prop :=
  ((40 : Int32) ≤ x2 → ∃ k, lp (vX7_brings_33F mn mk mg x1 K ) k (mf, (0 : Int32))) ∧ (¬ (40 : Int32) ≤ x2 → vp_in ((x1 * (40 : Int32)) + x2) 320 ∧ vp_in x2 40 ∧ B2 (upd mn (Int32.toNatClampNeg x2) (mk (Int32.toNatClampNeg ((x1 * (40 : Int32)) + x2)))) (x2 + (1 : Int32)))
def vX7_brings_2F (mf : Nat → UInt32) (mk : Nat → Int32) (mg : Nat → UInt32) (x1 : Int32) (K : ((Nat → Int32) × (Nat → UInt32)) → Prop)  : (((Nat → Int32) × Int32) → Prop) → ((Nat → Int32) × Int32) → Prop := fun B z => vX7_brings_2b mf mk mg x1 K  (fun z0 z1 => B (z0, z1)) z.1 z.2
def vX7_brings (mn : Nat → Int32) (mf : Nat → UInt32) (mk : Nat → Int32) (mg : Nat → UInt32) (p1 : Int32) (K : ((Nat → Int32) × (Nat → UInt32)) → Prop) : Prop :=
  ∃ k, lp (vX7_brings_2F mf mk mg p1 K ) k (mn, (0 : Int32))
set_option maxRecDepth 100000 in
set_option maxHeartbeats 4000000 in
theorem ctX7_brings (l : Launch) (G : va_G) (cy : Nat → ClassId) (a : Nat → Nat) (mn : Nat → Int32) (mf : Nat → UInt32) (mk : Nat → Int32) (mg : Nat → UInt32) (mv : Nat → Int32) (mt : Nat → Int32) (mm : Nat → Int32) (p1 : Int32) (K : ((Nat → Int32) × (Nat → UInt32)) → Prop) (h : vX7_brings mn mf mk mg p1 K) : Met l yX7_brings (ws_ yX7_brings cX7_brings 3 none) ({ frames := 0, cells := 0, slots := 0, locals := 0 } : Room) (CP G cy [.ref (a 0), .int p1] (md_W cy a mn mf mk mg mv mt mm)) (RV G K (fun u => md_W cy a u.1 u.2 mk mg mv mt mm) (A1 (md_W cy a mn mf mk mg mv mt mm))) 0 0 (A1 (md_W cy a mn mf mk mg mv mt mm)) := by
  refine hd_go (Qf := fun A => (RV G K (fun u => md_W cy a u.1 u.2 mk mg mv mt mm) A)) (by decide +kernel) (Nat.le_of_ble_eq_true rfl) ?_
  intro p e s m below meth c ls A hx hb hr hlocks S hE hP hD hS hl
  have hl : lv_has ls 3 [(0, .ref (a 0)), (1, .int p1)] := hl
  unfold vX7_brings at h
  have L_33 : ∀ (mn : Nat → Int32) (mk : Nat → Int32) (mg : Nat → UInt32) (x1 : Int32) (k_33 : Nat) (mf : Nat → UInt32) (x2 : Int32), lp (vX7_brings_33F mn mk mg x1 K ) k_33 (mf, x2) → ∀ (H : Heap) (locs : List Loc) (ls : Array Slot), va_P G vwCl (md_W cy a mn mf mk mg mv mt mm) H → va_D A (md_W cy a mn mf mk mg mv mt mm) → va_S A s.heap H locs → lv_has ls 3 [(0, .ref (a 0)), (1, .int x1), (2, .int x2)] → W p l e (headSpec (ws_ yX7_brings cX7_brings 3 none) ({ frames := 0, cells := 0, slots := 0, locals := 0 } : Room)).room s m ([.ref (a 0), .int p1] : List Value).toArray below meth c H locs 0 0 (MQ below (RV G K (fun u => md_W cy a u.1 u.2 mk mg mv mt mm) A) ([.ref (a 0), .int p1] : List Value).toArray s 0 0 A) (F0 m 33 ls []) := by
    intro mn mk mg x1 k_33
    induction k_33 with
    | zero => intro mf x2 h; exact h.elim
    | succ k_33 ih_33 =>
      intro mf x2 h H locs ls hP hD hS hl
      have h : vX7_brings_33b mn mk mg x1 K  (fun z0 z1 => lp (vX7_brings_33F mn mk mg x1 K ) k_33 (z0, z1)) mf x2 := h
      unfold vX7_brings_33b at h
      refine lv_iload_n hx hb dX7_brings_33 rfl (lv_at hl 2 rfl) ?_
      refine lv_iconst (v := (5 : Int32)) hx hb dX7_brings_34 (by decide) ?_
      refine lv_icmp_ge (tgt := 60) hx hb dX7_brings_35 (by decide) (fun c_35 => ?_) (fun c_35 => ?_)
      · have h := h.1 c_35
        exact W.vret hx hb hr (fun t ht hW => ⟨⟨(mn, mf), rfl, h, ⟨hp_at ht hP, hD⟩⟩, hS.F ht⟩) hS.2.2 dX7_brings_60
      · have h := h.2 c_35
        refine lv_aload_n hx hb dX7_brings_38 rfl (lv_at hl 0 rfl) ?_
        refine kg (v := .ref (a 2)) S hE hP 0 rfl rfl 1 (by decide) q_4_15 rfl rfl inlX7 dX7_brings_39 ?_
        refine lv_iload_n hx hb dX7_brings_42 rfl (lv_at hl 2 rfl) ?_
        refine lv_aload_n hx hb dX7_brings_43 rfl (lv_at hl 0 rfl) ?_
        refine kg (v := .ref (a 4)) S hE hP 0 rfl rfl 3 (by decide) q_4_17 rfl rfl inlX7 dX7_brings_44 ?_
        refine lv_iconst (v := (5 : Int32)) hx hb dX7_brings_47 (by decide) ?_
        refine lv_iload_n hx hb dX7_brings_48 rfl (lv_at hl 1 rfl) ?_
        refine lv_imul hx hb dX7_brings_49 ?_
        refine lv_iload_n hx hb dX7_brings_50 rfl (lv_at hl 2 rfl) ?_
        refine lv_iadd hx hb dX7_brings_51 ?_
        refine kafl (v := (mg (Int32.toNatClampNeg (((5 : Int32) * x1) + x2)))) S hE hP 4 rfl h.1 rfl rfl dX7_brings_52 ?_
        have h := h.2
        refine kafs S hE hP hD hS 2 rfl h.1 rfl dX7_brings_53 (fun H locs hP hD hS => ?_)
        have h := h.2
        have hP : va_P G vwCl (md_W cy a mn (vf_upd mf (Int32.toNatClampNeg x2) (mg (Int32.toNatClampNeg (((5 : Int32) * x1) + x2)))) mk mg mv mt mm) H := hP
        have hD : va_D A (md_W cy a mn (vf_upd mf (Int32.toNatClampNeg x2) (mg (Int32.toNatClampNeg (((5 : Int32) * x1) + x2)))) mk mg mv mt mm) := hD
        refine lv_iinc (v := (x2 + (1 : Int32))) (lv' := [(2, .int (x2 + (1 : Int32))), (0, .ref (a 0)), (1, .int x1)]) hx hb dX7_brings_54 hl (k := 2) rfl (by rfl) (by decide) rfl (fun ls hl => ?_)
        refine lv_goto (tgt := 33) hx hb dX7_brings_57 (by decide) ?_
        exact ih_33 _ _ h _ _ _ hP hD hS (lv_sub hl [1, 2, 0] rfl)
  have L_2 : ∀ (mf : Nat → UInt32) (mk : Nat → Int32) (mg : Nat → UInt32) (x1 : Int32) (k_2 : Nat) (mn : Nat → Int32) (x2 : Int32), lp (vX7_brings_2F mf mk mg x1 K ) k_2 (mn, x2) → ∀ (H : Heap) (locs : List Loc) (ls : Array Slot), va_P G vwCl (md_W cy a mn mf mk mg mv mt mm) H → va_D A (md_W cy a mn mf mk mg mv mt mm) → va_S A s.heap H locs → lv_has ls 3 [(0, .ref (a 0)), (1, .int x1), (2, .int x2)] → W p l e (headSpec (ws_ yX7_brings cX7_brings 3 none) ({ frames := 0, cells := 0, slots := 0, locals := 0 } : Room)).room s m ([.ref (a 0), .int p1] : List Value).toArray below meth c H locs 0 0 (MQ below (RV G K (fun u => md_W cy a u.1 u.2 mk mg mv mt mm) A) ([.ref (a 0), .int p1] : List Value).toArray s 0 0 A) (F0 m 2 ls []) := by
    intro mf mk mg x1 k_2
    induction k_2 with
    | zero => intro mn x2 h; exact h.elim
    | succ k_2 ih_2 =>
      intro mn x2 h H locs ls hP hD hS hl
      have h : vX7_brings_2b mf mk mg x1 K  (fun z0 z1 => lp (vX7_brings_2F mf mk mg x1 K ) k_2 (z0, z1)) mn x2 := h
      unfold vX7_brings_2b at h
      refine lv_iload_n hx hb dX7_brings_2 rfl (lv_at hl 2 rfl) ?_
      refine lv_bipush (v := (40 : Int32)) hx hb dX7_brings_3 (by decide) ?_
      refine lv_icmp_ge (tgt := 31) hx hb dX7_brings_5 (by decide) (fun c_5 => ?_) (fun c_5 => ?_)
      · have h := h.1 c_5
        refine lv_iconst (v := (0 : Int32)) hx hb dX7_brings_31 (by decide) ?_
        refine lv_istore_n (lv' := [(2, .int (0 : Int32)), (0, .ref (a 0)), (1, .int x1)]) hx hb dX7_brings_32 rfl hl (by decide) rfl (fun ls hl => ?_)
        obtain ⟨k0, h⟩ := h
        exact L_33 _ _ _ _ k0 _ _ h _ _ _ hP hD hS (lv_sub hl [1, 2, 0] rfl)
      · have h := h.2 c_5
        refine lv_aload_n hx hb dX7_brings_8 rfl (lv_at hl 0 rfl) ?_
        refine kg (v := .ref (a 1)) S hE hP 0 rfl rfl 0 (by decide) q_4_13 rfl rfl inlX7 dX7_brings_9 ?_
        refine lv_iload_n hx hb dX7_brings_12 rfl (lv_at hl 2 rfl) ?_
        refine lv_aload_n hx hb dX7_brings_13 rfl (lv_at hl 0 rfl) ?_
        refine kg (v := .ref (a 3)) S hE hP 0 rfl rfl 2 (by decide) q_4_16 rfl rfl inlX7 dX7_brings_14 ?_
        refine lv_iload_n hx hb dX7_brings_17 rfl (lv_at hl 1 rfl) ?_
        refine lv_bipush (v := (40 : Int32)) hx hb dX7_brings_18 (by decide) ?_
        refine lv_imul hx hb dX7_brings_20 ?_
        refine lv_iload_n hx hb dX7_brings_21 rfl (lv_at hl 2 rfl) ?_
        refine lv_iadd hx hb dX7_brings_22 ?_
        refine kail (v := (mk (Int32.toNatClampNeg ((x1 * (40 : Int32)) + x2)))) S hE hP 3 rfl h.1 rfl rfl dX7_brings_23 ?_
        have h := h.2
        refine kais S hE hP hD hS 1 rfl h.1 rfl dX7_brings_24 (fun H locs hP hD hS => ?_)
        have h := h.2
        have hP : va_P G vwCl (md_W cy a (upd mn (Int32.toNatClampNeg x2) (mk (Int32.toNatClampNeg ((x1 * (40 : Int32)) + x2)))) mf mk mg mv mt mm) H := hP
        have hD : va_D A (md_W cy a (upd mn (Int32.toNatClampNeg x2) (mk (Int32.toNatClampNeg ((x1 * (40 : Int32)) + x2)))) mf mk mg mv mt mm) := hD
        refine lv_iinc (v := (x2 + (1 : Int32))) (lv' := [(2, .int (x2 + (1 : Int32))), (0, .ref (a 0)), (1, .int x1)]) hx hb dX7_brings_25 hl (k := 2) rfl (by rfl) (by decide) rfl (fun ls hl => ?_)
        refine lv_goto (tgt := 2) hx hb dX7_brings_28 (by decide) ?_
        exact ih_2 _ _ h _ _ _ hP hD hS (lv_sub hl [1, 2, 0] rfl)
  refine lv_iconst (v := (0 : Int32)) hx hb dX7_brings_0 (by decide) ?_
  refine lv_istore_n (lv' := [(2, .int (0 : Int32)), (0, .ref (a 0)), (1, .int p1)]) hx hb dX7_brings_1 rfl hl (by decide) rfl (fun ls hl => ?_)
  obtain ⟨k0, h⟩ := h
  exact L_2 _ _ _ _ k0 _ _ h _ _ _ hP hD hS (lv_sub hl [1, 2, 0] rfl)
def vX7_records_76 (mn : Nat → Int32) (mf : Nat → UInt32) (mk : Nat → Int32) (mg : Nat → UInt32) (mm : Nat → Int32) (K : ((Nat → Int32) × (Nat → UInt32) × (Nat → Int32)) → Prop)  : Prop :=
  vX7_keeps mn mf mk mg (mm 0) (fun u_81 => K (u_81.1, u_81.2, (upd mm 0 ((mm 0) + (1 : Int32)))))
def vX7_records_40b (mn : Nat → Int32) (mf : Nat → UInt32) (mk : Nat → Int32) (mm : Nat → Int32) (K : ((Nat → Int32) × (Nat → UInt32) × (Nat → Int32)) → Prop)  (B40 : (Nat → UInt32) → Int32 → Prop) (mg : Nat → UInt32) (x1 : Int32) : Prop :=
  ((20 : Int32) ≤ x1 → vX7_records_76 mn mf mk mg (upd mm 0 ((mm 0) - (1 : Int32))) K ) ∧ (¬ (20 : Int32) ≤ x1 → vp_in (x1 + (5 : Int32)) 40 ∧ vp_in x1 40 ∧ B40 (vf_upd mg (Int32.toNatClampNeg x1) (mg (Int32.toNatClampNeg (x1 + (5 : Int32))))) (x1 + (1 : Int32)))
def vX7_records_40F (mn : Nat → Int32) (mf : Nat → UInt32) (mk : Nat → Int32) (mm : Nat → Int32) (K : ((Nat → Int32) × (Nat → UInt32) × (Nat → Int32)) → Prop)  : (((Nat → UInt32) × Int32) → Prop) → ((Nat → UInt32) × Int32) → Prop := fun B z => vX7_records_40b mn mf mk mm K  (fun z0 z1 => B (z0, z1)) z.1 z.2
def vX7_records_10b (mn : Nat → Int32) (mf : Nat → UInt32) (mg : Nat → UInt32) (mm : Nat → Int32) (K : ((Nat → Int32) × (Nat → UInt32) × (Nat → Int32)) → Prop)  (B10 : (Nat → Int32) → Int32 → Prop) (mk : Nat → Int32) (x1 : Int32) : Prop :=
  ((160 : Int32) ≤ x1 → ∃ k, lp (vX7_records_40F mn mf mk mm K ) k (mg, (0 : Int32))) ∧ (¬ (160 : Int32) ≤ x1 → vp_in (x1 + (40 : Int32)) 320 ∧ vp_in x1 320 ∧ B10 (upd mk (Int32.toNatClampNeg x1) (mk (Int32.toNatClampNeg (x1 + (40 : Int32))))) (x1 + (1 : Int32)))
def vX7_records_10F (mn : Nat → Int32) (mf : Nat → UInt32) (mg : Nat → UInt32) (mm : Nat → Int32) (K : ((Nat → Int32) × (Nat → UInt32) × (Nat → Int32)) → Prop)  : (((Nat → Int32) × Int32) → Prop) → ((Nat → Int32) × Int32) → Prop := fun B z => vX7_records_10b mn mf mg mm K  (fun z0 z1 => B (z0, z1)) z.1 z.2
def vX7_records (mn : Nat → Int32) (mf : Nat → UInt32) (mk : Nat → Int32) (mg : Nat → UInt32) (mm : Nat → Int32) (K : ((Nat → Int32) × (Nat → UInt32) × (Nat → Int32)) → Prop) : Prop :=
  (¬ (mm 0) = (5 : Int32) → vX7_records_76 mn mf mk mg mm K ) ∧ ((mm 0) = (5 : Int32) → ∃ k, lp (vX7_records_10F mn mf mg mm K ) k (mk, (0 : Int32)))
set_option maxRecDepth 100000 in
set_option maxHeartbeats 4000000 in
theorem ctX7_records (l : Launch) (G : va_G) (cy : Nat → ClassId) (a : Nat → Nat) (mn : Nat → Int32) (mf : Nat → UInt32) (mk : Nat → Int32) (mg : Nat → UInt32) (mv : Nat → Int32) (mt : Nat → Int32) (mm : Nat → Int32)  (K : ((Nat → Int32) × (Nat → UInt32) × (Nat → Int32)) → Prop) (h : vX7_records mn mf mk mg mm K) : Met l yX7_records (ws_ yX7_records cX7_records 2 none) ({ frames := 1, cells := 0, slots := 0, locals := 22 } : Room) (CP G cy [.ref (a 0)] (md_W cy a mn mf mk mg mv mt mm)) (RV G K (fun u => md_W cy a mn mf u.1 u.2.1 mv mt u.2.2) (A1 (md_W cy a mn mf mk mg mv mt mm))) 0 0 (A1 (md_W cy a mn mf mk mg mv mt mm)) := by
  refine hd_go (Qf := fun A => (RV G K (fun u => md_W cy a mn mf u.1 u.2.1 mv mt u.2.2) A)) (by decide +kernel) (Nat.le_of_ble_eq_true rfl) ?_
  intro p e s m below meth c ls A hx hb hr hlocks S hE hP hD hS hl
  have hl : lv_has ls 2 [(0, .ref (a 0))] := hl
  unfold vX7_records at h
  have J_76 : ∀ (mn : Nat → Int32) (mf : Nat → UInt32) (mk : Nat → Int32) (mg : Nat → UInt32) (mm : Nat → Int32), vX7_records_76 mn mf mk mg mm K  → ∀ (H : Heap) (locs : List Loc) (ls : Array Slot), va_P G vwCl (md_W cy a mn mf mk mg mv mt mm) H → va_D A (md_W cy a mn mf mk mg mv mt mm) → va_S A s.heap H locs → lv_has ls 2 [(0, .ref (a 0))] → W p l e (headSpec (ws_ yX7_records cX7_records 2 none) ({ frames := 1, cells := 0, slots := 0, locals := 22 } : Room)).room s m ([.ref (a 0)] : List Value).toArray below meth c H locs 0 0 (MQ below (RV G K (fun u => md_W cy a mn mf u.1 u.2.1 mv mt u.2.2) A) ([.ref (a 0)] : List Value).toArray s 0 0 A) (F0 m 76 ls []) := by
    intro mn mf mk mg mm h H locs ls hP hD hS hl
    unfold vX7_records_76 at h
    refine lv_aload_n hx hb dX7_records_76 rfl (lv_at hl 0 rfl) ?_
    refine lv_aload_n hx hb dX7_records_77 rfl (lv_at hl 0 rfl) ?_
    refine kg (v := .int (mm 0)) S hE hP 0 rfl rfl 5 (by decide) q_9_0 rfl rfl inlX7 dX7_records_78 ?_
    refine kc_Vv0 (As := [.int (mm 0)]) (rest := []) S hE (ctX7_keeps l G cy a mn mf mk mg mv mt mm (mm 0) _ h) q_9_1 q_9_2 q_9_3 q_1_5 q_9_4 rfl 0 rfl rfl ydX7_keeps ⟨⟨rfl, rfl⟩, ⟨Nat.le_of_ble_eq_true rfl, Nat.le_of_ble_eq_true rfl⟩⟩ ⟨Nat.zero_le _, Nat.zero_le _⟩ hP hD hS rfl hl.1 rfl (Nat.le_of_ble_eq_true rfl) dX7_records_81 (fun u_81 H locs h hP hD hS => ?_)
    refine lv_aload_n hx hb dX7_records_84 rfl (lv_at hl 0 rfl) ?_
    refine lv_dup hx hb dX7_records_85 rfl ?_
    refine kg (v := .int (mm 0)) S hE hP 0 rfl rfl 5 (by decide) q_9_0 rfl rfl inlX7 dX7_records_86 ?_
    refine lv_iconst (v := (1 : Int32)) hx hb dX7_records_89 (by decide) ?_
    refine lv_iadd hx hb dX7_records_90 ?_
    refine kp S hE hP hD hS 0 rfl rfl 5 (by decide) q_9_0 rfl rfl tyX7_ok nmX7 inlX7 rfl rfl (Nat.le_of_ble_eq_true rfl) dX7_records_91 (fun H locs hP hD hS => ?_)
    have hP : va_P G vwCl (md_W cy a mn mf u_81.1 u_81.2 mv mt (upd mm 0 ((mm 0) + (1 : Int32)))) H := hP
    have hD : va_D A (md_W cy a mn mf u_81.1 u_81.2 mv mt (upd mm 0 ((mm 0) + (1 : Int32)))) := hD
    exact W.vret hx hb hr (fun t ht hW => ⟨⟨(u_81.1, u_81.2, (upd mm 0 ((mm 0) + (1 : Int32)))), rfl, h, ⟨hp_at ht hP, hD⟩⟩, hS.F ht⟩) hS.2.2 dX7_records_94
  have L_40 : ∀ (mn : Nat → Int32) (mf : Nat → UInt32) (mk : Nat → Int32) (mm : Nat → Int32) (k_40 : Nat) (mg : Nat → UInt32) (x1 : Int32), lp (vX7_records_40F mn mf mk mm K ) k_40 (mg, x1) → ∀ (H : Heap) (locs : List Loc) (ls : Array Slot), va_P G vwCl (md_W cy a mn mf mk mg mv mt mm) H → va_D A (md_W cy a mn mf mk mg mv mt mm) → va_S A s.heap H locs → lv_has ls 2 [(0, .ref (a 0)), (1, .int x1)] → W p l e (headSpec (ws_ yX7_records cX7_records 2 none) ({ frames := 1, cells := 0, slots := 0, locals := 22 } : Room)).room s m ([.ref (a 0)] : List Value).toArray below meth c H locs 0 0 (MQ below (RV G K (fun u => md_W cy a mn mf u.1 u.2.1 mv mt u.2.2) A) ([.ref (a 0)] : List Value).toArray s 0 0 A) (F0 m 40 ls []) := by
    intro mn mf mk mm k_40
    induction k_40 with
    | zero => intro mg x1 h; exact h.elim
    | succ k_40 ih_40 =>
      intro mg x1 h H locs ls hP hD hS hl
      have h : vX7_records_40b mn mf mk mm K  (fun z0 z1 => lp (vX7_records_40F mn mf mk mm K ) k_40 (z0, z1)) mg x1 := h
      unfold vX7_records_40b at h
      refine lv_iload_n hx hb dX7_records_40 rfl (lv_at hl 1 rfl) ?_
      refine lv_bipush (v := (20 : Int32)) hx hb dX7_records_41 (by decide) ?_
      refine lv_icmp_ge (tgt := 66) hx hb dX7_records_43 (by decide) (fun c_43 => ?_) (fun c_43 => ?_)
      · have h := h.1 c_43
        refine lv_aload_n hx hb dX7_records_66 rfl (lv_at hl 0 rfl) ?_
        refine lv_dup hx hb dX7_records_67 rfl ?_
        refine kg (v := .int (mm 0)) S hE hP 0 rfl rfl 5 (by decide) q_9_0 rfl rfl inlX7 dX7_records_68 ?_
        refine lv_iconst (v := (1 : Int32)) hx hb dX7_records_71 (by decide) ?_
        refine lv_isub hx hb dX7_records_72 ?_
        refine kp S hE hP hD hS 0 rfl rfl 5 (by decide) q_9_0 rfl rfl tyX7_ok nmX7 inlX7 rfl rfl (Nat.le_of_ble_eq_true rfl) dX7_records_73 (fun H locs hP hD hS => ?_)
        have hP : va_P G vwCl (md_W cy a mn mf mk mg mv mt (upd mm 0 ((mm 0) - (1 : Int32)))) H := hP
        have hD : va_D A (md_W cy a mn mf mk mg mv mt (upd mm 0 ((mm 0) - (1 : Int32)))) := hD
        exact J_76 _ _ _ _ _ h _ _ _ hP hD hS (lv_sub hl [0] rfl)
      · have h := h.2 c_43
        refine lv_aload_n hx hb dX7_records_46 rfl (lv_at hl 0 rfl) ?_
        refine kg (v := .ref (a 4)) S hE hP 0 rfl rfl 3 (by decide) q_4_17 rfl rfl inlX7 dX7_records_47 ?_
        refine lv_iload_n hx hb dX7_records_50 rfl (lv_at hl 1 rfl) ?_
        refine lv_aload_n hx hb dX7_records_51 rfl (lv_at hl 0 rfl) ?_
        refine kg (v := .ref (a 4)) S hE hP 0 rfl rfl 3 (by decide) q_4_17 rfl rfl inlX7 dX7_records_52 ?_
        refine lv_iload_n hx hb dX7_records_55 rfl (lv_at hl 1 rfl) ?_
        refine lv_iconst (v := (5 : Int32)) hx hb dX7_records_56 (by decide) ?_
        refine lv_iadd hx hb dX7_records_57 ?_
        refine kafl (v := (mg (Int32.toNatClampNeg (x1 + (5 : Int32))))) S hE hP 4 rfl h.1 rfl rfl dX7_records_58 ?_
        have h := h.2
        refine kafs S hE hP hD hS 4 rfl h.1 rfl dX7_records_59 (fun H locs hP hD hS => ?_)
        have h := h.2
        have hP : va_P G vwCl (md_W cy a mn mf mk (vf_upd mg (Int32.toNatClampNeg x1) (mg (Int32.toNatClampNeg (x1 + (5 : Int32))))) mv mt mm) H := hP
        have hD : va_D A (md_W cy a mn mf mk (vf_upd mg (Int32.toNatClampNeg x1) (mg (Int32.toNatClampNeg (x1 + (5 : Int32))))) mv mt mm) := hD
        refine lv_iinc (v := (x1 + (1 : Int32))) (lv' := [(1, .int (x1 + (1 : Int32))), (0, .ref (a 0))]) hx hb dX7_records_60 hl (k := 1) rfl (by rfl) (by decide) rfl (fun ls hl => ?_)
        refine lv_goto (tgt := 40) hx hb dX7_records_63 (by decide) ?_
        exact ih_40 _ _ h _ _ _ hP hD hS (lv_sub hl [1, 0] rfl)
  have L_10 : ∀ (mn : Nat → Int32) (mf : Nat → UInt32) (mg : Nat → UInt32) (mm : Nat → Int32) (k_10 : Nat) (mk : Nat → Int32) (x1 : Int32), lp (vX7_records_10F mn mf mg mm K ) k_10 (mk, x1) → ∀ (H : Heap) (locs : List Loc) (ls : Array Slot), va_P G vwCl (md_W cy a mn mf mk mg mv mt mm) H → va_D A (md_W cy a mn mf mk mg mv mt mm) → va_S A s.heap H locs → lv_has ls 2 [(0, .ref (a 0)), (1, .int x1)] → W p l e (headSpec (ws_ yX7_records cX7_records 2 none) ({ frames := 1, cells := 0, slots := 0, locals := 22 } : Room)).room s m ([.ref (a 0)] : List Value).toArray below meth c H locs 0 0 (MQ below (RV G K (fun u => md_W cy a mn mf u.1 u.2.1 mv mt u.2.2) A) ([.ref (a 0)] : List Value).toArray s 0 0 A) (F0 m 10 ls []) := by
    intro mn mf mg mm k_10
    induction k_10 with
    | zero => intro mk x1 h; exact h.elim
    | succ k_10 ih_10 =>
      intro mk x1 h H locs ls hP hD hS hl
      have h : vX7_records_10b mn mf mg mm K  (fun z0 z1 => lp (vX7_records_10F mn mf mg mm K ) k_10 (z0, z1)) mk x1 := h
      unfold vX7_records_10b at h
      refine lv_iload_n hx hb dX7_records_10 rfl (lv_at hl 1 rfl) ?_
      refine lv_sipush (v := (160 : Int32)) hx hb dX7_records_11 (by decide) ?_
      refine lv_icmp_ge (tgt := 38) hx hb dX7_records_14 (by decide) (fun c_14 => ?_) (fun c_14 => ?_)
      · have h := h.1 c_14
        refine lv_iconst (v := (0 : Int32)) hx hb dX7_records_38 (by decide) ?_
        refine lv_istore_n (lv' := [(1, .int (0 : Int32)), (0, .ref (a 0))]) hx hb dX7_records_39 rfl hl (by decide) rfl (fun ls hl => ?_)
        obtain ⟨k0, h⟩ := h
        exact L_40 _ _ _ _ k0 _ _ h _ _ _ hP hD hS (lv_sub hl [1, 0] rfl)
      · have h := h.2 c_14
        refine lv_aload_n hx hb dX7_records_17 rfl (lv_at hl 0 rfl) ?_
        refine kg (v := .ref (a 3)) S hE hP 0 rfl rfl 2 (by decide) q_4_16 rfl rfl inlX7 dX7_records_18 ?_
        refine lv_iload_n hx hb dX7_records_21 rfl (lv_at hl 1 rfl) ?_
        refine lv_aload_n hx hb dX7_records_22 rfl (lv_at hl 0 rfl) ?_
        refine kg (v := .ref (a 3)) S hE hP 0 rfl rfl 2 (by decide) q_4_16 rfl rfl inlX7 dX7_records_23 ?_
        refine lv_iload_n hx hb dX7_records_26 rfl (lv_at hl 1 rfl) ?_
        refine lv_bipush (v := (40 : Int32)) hx hb dX7_records_27 (by decide) ?_
        refine lv_iadd hx hb dX7_records_29 ?_
        refine kail (v := (mk (Int32.toNatClampNeg (x1 + (40 : Int32))))) S hE hP 3 rfl h.1 rfl rfl dX7_records_30 ?_
        have h := h.2
        refine kais S hE hP hD hS 3 rfl h.1 rfl dX7_records_31 (fun H locs hP hD hS => ?_)
        have h := h.2
        have hP : va_P G vwCl (md_W cy a mn mf (upd mk (Int32.toNatClampNeg x1) (mk (Int32.toNatClampNeg (x1 + (40 : Int32))))) mg mv mt mm) H := hP
        have hD : va_D A (md_W cy a mn mf (upd mk (Int32.toNatClampNeg x1) (mk (Int32.toNatClampNeg (x1 + (40 : Int32))))) mg mv mt mm) := hD
        refine lv_iinc (v := (x1 + (1 : Int32))) (lv' := [(1, .int (x1 + (1 : Int32))), (0, .ref (a 0))]) hx hb dX7_records_32 hl (k := 1) rfl (by rfl) (by decide) rfl (fun ls hl => ?_)
        refine lv_goto (tgt := 10) hx hb dX7_records_35 (by decide) ?_
        exact ih_10 _ _ h _ _ _ hP hD hS (lv_sub hl [1, 0] rfl)
  refine lv_aload_n hx hb dX7_records_0 rfl (lv_at hl 0 rfl) ?_
  refine kg (v := .int (mm 0)) S hE hP 0 rfl rfl 5 (by decide) q_9_0 rfl rfl inlX7 dX7_records_1 ?_
  refine lv_iconst (v := (5 : Int32)) hx hb dX7_records_4 (by decide) ?_
  refine lv_icmp_ne (tgt := 76) hx hb dX7_records_5 (by decide) (fun c_5 => ?_) (fun c_5 => ?_)
  · have h := h.1 c_5
    exact J_76 _ _ _ _ _ h _ _ _ hP hD hS (lv_sub hl [0] rfl)
  · have h := h.2 c_5
    refine lv_iconst (v := (0 : Int32)) hx hb dX7_records_8 (by decide) ?_
    refine lv_istore_n (lv' := [(1, .int (0 : Int32)), (0, .ref (a 0))]) hx hb dX7_records_9 rfl hl (by decide) rfl (fun ls hl => ?_)
    obtain ⟨k0, h⟩ := h
    exact L_10 _ _ _ _ k0 _ _ h _ _ _ hP hD hS (lv_sub hl [1, 0] rfl)
def vX7_undo (mn : Nat → Int32) (mf : Nat → UInt32) (mk : Nat → Int32) (mg : Nat → UInt32) (mm : Nat → Int32) (K : Int32 → ((Nat → Int32) × (Nat → UInt32) × (Nat → Int32)) → Prop) : Prop :=
  (¬ (mm 0) = (0 : Int32) → vX7_brings mn mf mk mg ((mm 0) - (1 : Int32)) (fun u_25 => K ((mm 0) - (1 : Int32)) (u_25.1, u_25.2, (upd mm 0 ((mm 0) - (1 : Int32)))))) ∧ ((mm 0) = (0 : Int32) → K (-3 : Int32) (mn, mf, mm))
set_option maxRecDepth 100000 in
set_option maxHeartbeats 4000000 in
theorem ctX7_undo (l : Launch) (G : va_G) (cy : Nat → ClassId) (a : Nat → Nat) (mn : Nat → Int32) (mf : Nat → UInt32) (mk : Nat → Int32) (mg : Nat → UInt32) (mv : Nat → Int32) (mt : Nat → Int32) (mm : Nat → Int32)  (K : Int32 → ((Nat → Int32) × (Nat → UInt32) × (Nat → Int32)) → Prop) (h : vX7_undo mn mf mk mg mm K) : Met l yX7_undo (ws_ yX7_undo cX7_undo 1 (some .int)) ({ frames := 1, cells := 0, slots := 0, locals := 22 } : Room) (CP G cy [.ref (a 0)] (md_W cy a mn mf mk mg mv mt mm)) (RI G K (fun u => md_W cy a u.1 u.2.1 mk mg mv mt u.2.2) (A1 (md_W cy a mn mf mk mg mv mt mm))) 0 0 (A1 (md_W cy a mn mf mk mg mv mt mm)) := by
  refine hd_go (Qf := fun A => (RI G K (fun u => md_W cy a u.1 u.2.1 mk mg mv mt u.2.2) A)) (by decide +kernel) (Nat.le_of_ble_eq_true rfl) ?_
  intro p e s m below meth c ls A hx hb hr hlocks S hE hP hD hS hl
  have hl : lv_has ls 1 [(0, .ref (a 0))] := hl
  unfold vX7_undo at h
  refine lv_aload_n hx hb dX7_undo_0 rfl (lv_at hl 0 rfl) ?_
  refine kg (v := .int (mm 0)) S hE hP 0 rfl rfl 5 (by decide) q_9_0 rfl rfl inlX7 dX7_undo_1 ?_
  refine lv_if_ne (tgt := 10) hx hb dX7_undo_4 (by decide) (fun c_4 => ?_) (fun c_4 => ?_)
  · have h := h.1 c_4
    refine lv_aload_n hx hb dX7_undo_10 rfl (lv_at hl 0 rfl) ?_
    refine lv_dup hx hb dX7_undo_11 rfl ?_
    refine kg (v := .int (mm 0)) S hE hP 0 rfl rfl 5 (by decide) q_9_0 rfl rfl inlX7 dX7_undo_12 ?_
    refine lv_iconst (v := (1 : Int32)) hx hb dX7_undo_15 (by decide) ?_
    refine lv_isub hx hb dX7_undo_16 ?_
    refine kp S hE hP hD hS 0 rfl rfl 5 (by decide) q_9_0 rfl rfl tyX7_ok nmX7 inlX7 rfl rfl (Nat.le_of_ble_eq_true rfl) dX7_undo_17 (fun H locs hP hD hS => ?_)
    have hP : va_P G vwCl (md_W cy a mn mf mk mg mv mt (upd mm 0 ((mm 0) - (1 : Int32)))) H := hP
    have hD : va_D A (md_W cy a mn mf mk mg mv mt (upd mm 0 ((mm 0) - (1 : Int32)))) := hD
    refine lv_aload_n hx hb dX7_undo_20 rfl (lv_at hl 0 rfl) ?_
    refine lv_aload_n hx hb dX7_undo_21 rfl (lv_at hl 0 rfl) ?_
    refine kg (v := .int ((mm 0) - (1 : Int32))) S hE hP 0 rfl rfl 5 (by decide) q_9_0 rfl rfl inlX7 dX7_undo_22 ?_
    refine kc_Vv0 (As := [.int ((mm 0) - (1 : Int32))]) (rest := []) S hE (ctX7_brings l G cy a mn mf mk mg mv mt (upd mm 0 ((mm 0) - (1 : Int32))) ((mm 0) - (1 : Int32)) _ h) q_27_17 q_27_18 q_27_19 q_1_5 q_27_20 rfl 0 rfl rfl ydX7_brings ⟨⟨rfl, rfl⟩, ⟨Nat.le_of_ble_eq_true rfl, Nat.le_of_ble_eq_true rfl⟩⟩ ⟨Nat.zero_le _, Nat.zero_le _⟩ hP hD hS rfl hl.1 rfl (Nat.le_of_ble_eq_true rfl) dX7_undo_25 (fun u_25 H locs h hP hD hS => ?_)
    refine lv_aload_n hx hb dX7_undo_28 rfl (lv_at hl 0 rfl) ?_
    refine kg (v := .int ((mm 0) - (1 : Int32))) S hE hP 0 rfl rfl 5 (by decide) q_9_0 rfl rfl inlX7 dX7_undo_29 ?_
    exact W.iret (v := ((mm 0) - (1 : Int32))) hx hb hr (fun t ht hW => ⟨⟨((mm 0) - (1 : Int32)), (u_25.1, u_25.2, (upd mm 0 ((mm 0) - (1 : Int32)))), rfl, h, ⟨hp_at ht hP, hD⟩⟩, hS.F ht⟩) hS.2.2 dX7_undo_32
  · have h := h.2 c_4
    refine lv_bipush (v := (-3 : Int32)) hx hb dX7_undo_7 (by decide) ?_
    exact W.iret (v := (-3 : Int32)) hx hb hr (fun t ht hW => ⟨⟨(-3 : Int32), (mn, mf, mm), rfl, h, ⟨hp_at ht hP, hD⟩⟩, hS.F ht⟩) hS.2.2 dX7_undo_9
def vX7_save (mn : Nat → Int32) (mf : Nat → UInt32) (mk : Nat → Int32) (mg : Nat → UInt32) (mv : Nat → Int32) (p1 : Int32) (K : Int32 → ((Nat → Int32) × (Nat → UInt32) × (Nat → Int32)) → Prop) : Prop :=
  vX7_isIn p1 (0 : Int32) (1 : Int32) (fun r_3 u_3 => (¬ r_3 = (0 : Int32) → vX7_keeps mn mf mk mg ((5 : Int32) + p1) (fun u_15 => vp_in p1 2 ∧ K (mn 0) (u_15.1, u_15.2, (upd mv (Int32.toNatClampNeg p1) (1 : Int32))))) ∧ (r_3 = (0 : Int32) → K (-1 : Int32) (mk, mg, mv)))
set_option maxRecDepth 100000 in
set_option maxHeartbeats 4000000 in
theorem ctX7_save (l : Launch) (G : va_G) (cy : Nat → ClassId) (a : Nat → Nat) (mn : Nat → Int32) (mf : Nat → UInt32) (mk : Nat → Int32) (mg : Nat → UInt32) (mv : Nat → Int32) (mt : Nat → Int32) (mm : Nat → Int32) (p1 : Int32) (K : Int32 → ((Nat → Int32) × (Nat → UInt32) × (Nat → Int32)) → Prop) (h : vX7_save mn mf mk mg mv p1 K) : Met l yX7_save (ws_ yX7_save cX7_save 2 (some .int)) ({ frames := 1, cells := 0, slots := 0, locals := 22 } : Room) (CP G cy [.ref (a 0), .int p1] (md_W cy a mn mf mk mg mv mt mm)) (RI G K (fun u => md_W cy a mn mf u.1 u.2.1 u.2.2 mt mm) (A1 (md_W cy a mn mf mk mg mv mt mm))) 0 0 (A1 (md_W cy a mn mf mk mg mv mt mm)) := by
  refine hd_go (Qf := fun A => (RI G K (fun u => md_W cy a mn mf u.1 u.2.1 u.2.2 mt mm) A)) (by decide +kernel) (Nat.le_of_ble_eq_true rfl) ?_
  intro p e s m below meth c ls A hx hb hr hlocks S hE hP hD hS hl
  have hl : lv_has ls 2 [(0, .ref (a 0)), (1, .int p1)] := hl
  unfold vX7_save at h
  refine lv_iload_n hx hb dX7_save_0 rfl (lv_at hl 1 rfl) ?_
  refine lv_iconst (v := (0 : Int32)) hx hb dX7_save_1 (by decide) ?_
  refine lv_iconst (v := (1 : Int32)) hx hb dX7_save_2 (by decide) ?_
  refine kc_SiE (As := [.int p1, .int (0 : Int32), .int (1 : Int32)]) (rest := []) S hE (ctX7_isIn l G cy   p1 (0 : Int32) (1 : Int32) _ h) q_8_17 q_8_18 q_1_5 q_8_19 ydX7_isIn ⟨⟨rfl, rfl⟩, ⟨Nat.le_of_ble_eq_true rfl, Nat.le_of_ble_eq_true rfl⟩⟩ ⟨Nat.zero_le _, Nat.zero_le _⟩ hP hD hS (fun _ => rfl) rfl hl.1 rfl (Nat.le_of_ble_eq_true rfl) dX7_save_3 (fun r_3 u_3 H locs h hP hD hS => ?_)
  refine lv_if_ne (tgt := 11) hx hb dX7_save_6 (by decide) (fun c_6 => ?_) (fun c_6 => ?_)
  · have h := h.1 c_6
    refine lv_aload_n hx hb dX7_save_11 rfl (lv_at hl 0 rfl) ?_
    refine lv_iconst (v := (5 : Int32)) hx hb dX7_save_12 (by decide) ?_
    refine lv_iload_n hx hb dX7_save_13 rfl (lv_at hl 1 rfl) ?_
    refine lv_iadd hx hb dX7_save_14 ?_
    refine kc_Vv0 (As := [.int ((5 : Int32) + p1)]) (rest := []) S hE (ctX7_keeps l G cy a mn mf mk mg mv mt mm ((5 : Int32) + p1) _ h) q_9_1 q_9_2 q_9_3 q_1_5 q_9_4 rfl 0 rfl rfl ydX7_keeps ⟨⟨rfl, rfl⟩, ⟨Nat.le_of_ble_eq_true rfl, Nat.le_of_ble_eq_true rfl⟩⟩ ⟨Nat.zero_le _, Nat.zero_le _⟩ hP hD hS rfl hl.1 rfl (Nat.le_of_ble_eq_true rfl) dX7_save_15 (fun u_15 H locs h hP hD hS => ?_)
    refine lv_aload_n hx hb dX7_save_18 rfl (lv_at hl 0 rfl) ?_
    refine kg (v := .ref (a 5)) S hE hP 0 rfl rfl 4 (by decide) q_4_18 rfl rfl inlX7 dX7_save_19 ?_
    refine lv_iload_n hx hb dX7_save_22 rfl (lv_at hl 1 rfl) ?_
    refine lv_iconst (v := (1 : Int32)) hx hb dX7_save_23 (by decide) ?_
    refine kais S hE hP hD hS 5 rfl h.1 rfl dX7_save_24 (fun H locs hP hD hS => ?_)
    have h := h.2
    have hP : va_P G vwCl (md_W cy a mn mf u_15.1 u_15.2 (upd mv (Int32.toNatClampNeg p1) (1 : Int32)) mt mm) H := hP
    have hD : va_D A (md_W cy a mn mf u_15.1 u_15.2 (upd mv (Int32.toNatClampNeg p1) (1 : Int32)) mt mm) := hD
    refine lv_aload_n hx hb dX7_save_25 rfl (lv_at hl 0 rfl) ?_
    refine kg (v := .ref (a 1)) S hE hP 0 rfl rfl 0 (by decide) q_4_13 rfl rfl inlX7 dX7_save_26 ?_
    refine lv_iconst (v := (0 : Int32)) hx hb dX7_save_29 (by decide) ?_
    refine kail (v := (mn 0)) S hE hP 1 rfl (vi_0 (by decide)) tc_0 rfl dX7_save_30 ?_
    exact W.iret (v := (mn 0)) hx hb hr (fun t ht hW => ⟨⟨(mn 0), (u_15.1, u_15.2, (upd mv (Int32.toNatClampNeg p1) (1 : Int32))), rfl, h, ⟨hp_at ht hP, hD⟩⟩, hS.F ht⟩) hS.2.2 dX7_save_31
  · have h := h.2 c_6
    refine lv_iconst (v := (-1 : Int32)) hx hb dX7_save_9 (by decide) ?_
    exact W.iret (v := (-1 : Int32)) hx hb hr (fun t ht hW => ⟨⟨(-1 : Int32), (mk, mg, mv), rfl, h, ⟨hp_at ht hP, hD⟩⟩, hS.F ht⟩) hS.2.2 dX7_save_10
def vX7_restore (mn : Nat → Int32) (mf : Nat → UInt32) (mk : Nat → Int32) (mg : Nat → UInt32) (mv : Nat → Int32) (mm : Nat → Int32) (p1 : Int32) (K : Int32 → ((Nat → Int32) × (Nat → UInt32) × (Nat → Int32) × (Nat → UInt32) × (Nat → Int32)) → Prop) : Prop :=
  vX7_isIn p1 (0 : Int32) (1 : Int32) (fun r_3 u_3 => (¬ r_3 = (0 : Int32) → vp_in p1 2 ∧ (¬ (mv (Int32.toNatClampNeg p1)) = (0 : Int32) → vX7_records mn mf mk mg mm (fun u_24 => vX7_brings mn mf u_24.1 u_24.2.1 ((5 : Int32) + p1) (fun u_31 => K (u_31.1 0) (u_31.1, u_31.2, u_24.1, u_24.2.1, u_24.2.2)))) ∧ ((mv (Int32.toNatClampNeg p1)) = (0 : Int32) → K (-3 : Int32) (mn, mf, mk, mg, mm))) ∧ (r_3 = (0 : Int32) → K (-1 : Int32) (mn, mf, mk, mg, mm)))
set_option maxRecDepth 100000 in
set_option maxHeartbeats 4000000 in
theorem ctX7_restore (l : Launch) (G : va_G) (cy : Nat → ClassId) (a : Nat → Nat) (mn : Nat → Int32) (mf : Nat → UInt32) (mk : Nat → Int32) (mg : Nat → UInt32) (mv : Nat → Int32) (mt : Nat → Int32) (mm : Nat → Int32) (p1 : Int32) (K : Int32 → ((Nat → Int32) × (Nat → UInt32) × (Nat → Int32) × (Nat → UInt32) × (Nat → Int32)) → Prop) (h : vX7_restore mn mf mk mg mv mm p1 K) : Met l yX7_restore (ws_ yX7_restore cX7_restore 2 (some .int)) ({ frames := 2, cells := 0, slots := 0, locals := 43 } : Room) (CP G cy [.ref (a 0), .int p1] (md_W cy a mn mf mk mg mv mt mm)) (RI G K (fun u => md_W cy a u.1 u.2.1 u.2.2.1 u.2.2.2.1 mv mt u.2.2.2.2) (A1 (md_W cy a mn mf mk mg mv mt mm))) 0 0 (A1 (md_W cy a mn mf mk mg mv mt mm)) := by
  refine hd_go (Qf := fun A => (RI G K (fun u => md_W cy a u.1 u.2.1 u.2.2.1 u.2.2.2.1 mv mt u.2.2.2.2) A)) (by decide +kernel) (Nat.le_of_ble_eq_true rfl) ?_
  intro p e s m below meth c ls A hx hb hr hlocks S hE hP hD hS hl
  have hl : lv_has ls 2 [(0, .ref (a 0)), (1, .int p1)] := hl
  unfold vX7_restore at h
  refine lv_iload_n hx hb dX7_restore_0 rfl (lv_at hl 1 rfl) ?_
  refine lv_iconst (v := (0 : Int32)) hx hb dX7_restore_1 (by decide) ?_
  refine lv_iconst (v := (1 : Int32)) hx hb dX7_restore_2 (by decide) ?_
  refine kc_SiE (As := [.int p1, .int (0 : Int32), .int (1 : Int32)]) (rest := []) S hE (ctX7_isIn l G cy   p1 (0 : Int32) (1 : Int32) _ h) q_8_17 q_8_18 q_1_5 q_8_19 ydX7_isIn ⟨⟨rfl, rfl⟩, ⟨Nat.le_of_ble_eq_true rfl, Nat.le_of_ble_eq_true rfl⟩⟩ ⟨Nat.zero_le _, Nat.zero_le _⟩ hP hD hS (fun _ => rfl) rfl hl.1 rfl (Nat.le_of_ble_eq_true rfl) dX7_restore_3 (fun r_3 u_3 H locs h hP hD hS => ?_)
  refine lv_if_ne (tgt := 11) hx hb dX7_restore_6 (by decide) (fun c_6 => ?_) (fun c_6 => ?_)
  · have h := h.1 c_6
    refine lv_aload_n hx hb dX7_restore_11 rfl (lv_at hl 0 rfl) ?_
    refine kg (v := .ref (a 5)) S hE hP 0 rfl rfl 4 (by decide) q_4_18 rfl rfl inlX7 dX7_restore_12 ?_
    refine lv_iload_n hx hb dX7_restore_15 rfl (lv_at hl 1 rfl) ?_
    refine kail (v := (mv (Int32.toNatClampNeg p1))) S hE hP 5 rfl h.1 rfl rfl dX7_restore_16 ?_
    have h := h.2
    refine lv_if_ne (tgt := 23) hx hb dX7_restore_17 (by decide) (fun c_17 => ?_) (fun c_17 => ?_)
    · have h := h.1 c_17
      refine lv_aload_n hx hb dX7_restore_23 rfl (lv_at hl 0 rfl) ?_
      refine kc_Vv0 (As := []) (rest := []) S hE (ctX7_records l G cy a mn mf mk mg mv mt mm  _ h) q_8_20 q_8_21 q_8_22 q_1_5 q_8_23 rfl 0 rfl rfl ydX7_records ⟨⟨rfl, rfl⟩, ⟨Nat.le_of_ble_eq_true rfl, Nat.le_of_ble_eq_true rfl⟩⟩ ⟨Nat.zero_le _, Nat.zero_le _⟩ hP hD hS rfl hl.1 rfl (Nat.le_of_ble_eq_true rfl) dX7_restore_24 (fun u_24 H locs h hP hD hS => ?_)
      refine lv_aload_n hx hb dX7_restore_27 rfl (lv_at hl 0 rfl) ?_
      refine lv_iconst (v := (5 : Int32)) hx hb dX7_restore_28 (by decide) ?_
      refine lv_iload_n hx hb dX7_restore_29 rfl (lv_at hl 1 rfl) ?_
      refine lv_iadd hx hb dX7_restore_30 ?_
      refine kc_Vv0 (As := [.int ((5 : Int32) + p1)]) (rest := []) S hE (ctX7_brings l G cy a mn mf u_24.1 u_24.2.1 mv mt u_24.2.2 ((5 : Int32) + p1) _ h) q_27_17 q_27_18 q_27_19 q_1_5 q_27_20 rfl 0 rfl rfl ydX7_brings ⟨⟨rfl, rfl⟩, ⟨Nat.le_of_ble_eq_true rfl, Nat.le_of_ble_eq_true rfl⟩⟩ ⟨Nat.zero_le _, Nat.zero_le _⟩ hP hD hS rfl hl.1 rfl (Nat.le_of_ble_eq_true rfl) dX7_restore_31 (fun u_31 H locs h hP hD hS => ?_)
      refine lv_aload_n hx hb dX7_restore_34 rfl (lv_at hl 0 rfl) ?_
      refine kg (v := .ref (a 1)) S hE hP 0 rfl rfl 0 (by decide) q_4_13 rfl rfl inlX7 dX7_restore_35 ?_
      refine lv_iconst (v := (0 : Int32)) hx hb dX7_restore_38 (by decide) ?_
      refine kail (v := (u_31.1 0)) S hE hP 1 rfl (vi_0 (by decide)) tc_0 rfl dX7_restore_39 ?_
      exact W.iret (v := (u_31.1 0)) hx hb hr (fun t ht hW => ⟨⟨(u_31.1 0), (u_31.1, u_31.2, u_24.1, u_24.2.1, u_24.2.2), rfl, h, ⟨hp_at ht hP, hD⟩⟩, hS.F ht⟩) hS.2.2 dX7_restore_40
    · have h := h.2 c_17
      refine lv_bipush (v := (-3 : Int32)) hx hb dX7_restore_20 (by decide) ?_
      exact W.iret (v := (-3 : Int32)) hx hb hr (fun t ht hW => ⟨⟨(-3 : Int32), (mn, mf, mk, mg, mm), rfl, h, ⟨hp_at ht hP, hD⟩⟩, hS.F ht⟩) hS.2.2 dX7_restore_22
  · have h := h.2 c_6
    refine lv_iconst (v := (-1 : Int32)) hx hb dX7_restore_9 (by decide) ?_
    exact W.iret (v := (-1 : Int32)) hx hb hr (fun t ht hW => ⟨⟨(-1 : Int32), (mn, mf, mk, mg, mm), rfl, h, ⟨hp_at ht hP, hD⟩⟩, hS.F ht⟩) hS.2.2 dX7_restore_10
def vX7_leastOf (p0 : Int32) (K : Int32 → Unit → Prop) : Prop :=
  (p0 = (0 : Int32) → K (10 : Int32) ()) ∧ (¬ p0 = (0 : Int32) → (p0 = (1 : Int32) → K (0 : Int32) ()) ∧ (¬ p0 = (1 : Int32) → (p0 = (2 : Int32) → K (100 : Int32) ()) ∧ (¬ p0 = (2 : Int32) → (p0 = (3 : Int32) → K (0 : Int32) ()) ∧ (¬ p0 = (3 : Int32) → (p0 = (4 : Int32) → K (1 : Int32) ()) ∧ (¬ p0 = (4 : Int32) → (p0 = (5 : Int32) → K (0 : Int32) ()) ∧ (¬ p0 = (5 : Int32) → (p0 = (6 : Int32) → K (1 : Int32) ()) ∧ (¬ p0 = (6 : Int32) → (p0 = (7 : Int32) → K (10 : Int32) ()) ∧ (¬ p0 = (7 : Int32) → K (0 : Int32) ()))))))))
set_option maxRecDepth 100000 in
set_option maxHeartbeats 4000000 in
theorem ctX7_leastOf (l : Launch) (G : va_G) (cy : Nat → ClassId)   (p0 : Int32) (K : Int32 → Unit → Prop) (h : vX7_leastOf p0 K) : Met l yX7_leastOf (ws_ yX7_leastOf cX7_leastOf 1 (some .int)) ({ frames := 0, cells := 0, slots := 0, locals := 0 } : Room) (CP G cy [.int p0] ([])) (RI G K (fun u => []) (A1 ([]))) 0 0 (A1 ([])) := by
  refine hd_go (Qf := fun A => (RI G K (fun u => []) A)) (by decide +kernel) (Nat.le_of_ble_eq_true rfl) ?_
  intro p e s m below meth c ls A hx hb hr hlocks S hE hP hD hS hl
  have hl : lv_has ls 1 [(0, .int p0)] := hl
  unfold vX7_leastOf at h
  refine lv_iload_n hx hb dX7_leastOf_0 rfl (lv_at hl 0 rfl) ?_
  rcases Classical.em (p0 = (0 : Int32)) with c_1_0 | c_1_0
  · have h := h.1 c_1_0
    refine lv_tableIn (tgt := 48) hx hb dX7_leastOf_1 (by rw [c_1_0]; decide) (by rw [c_1_0]; decide) (by rw [c_1_0]; try rfl) (by decide) ?_
    refine lv_bipush (v := (10 : Int32)) hx hb dX7_leastOf_48 (by decide) ?_
    exact W.iret (v := (10 : Int32)) hx hb hr (fun t ht hW => ⟨⟨(10 : Int32), (), rfl, h, ⟨hp_at ht hP, hD⟩⟩, hS.F ht⟩) hS.2.2 dX7_leastOf_50
  · have h := h.2 c_1_0
    rcases Classical.em (p0 = (1 : Int32)) with c_1_1 | c_1_1
    · have h := h.1 c_1_1
      refine lv_tableIn (tgt := 56) hx hb dX7_leastOf_1 (by rw [c_1_1]; decide) (by rw [c_1_1]; decide) (by rw [c_1_1]; try rfl) (by decide) ?_
      refine lv_iconst (v := (0 : Int32)) hx hb dX7_leastOf_56 (by decide) ?_
      exact W.iret (v := (0 : Int32)) hx hb hr (fun t ht hW => ⟨⟨(0 : Int32), (), rfl, h, ⟨hp_at ht hP, hD⟩⟩, hS.F ht⟩) hS.2.2 dX7_leastOf_57
    · have h := h.2 c_1_1
      rcases Classical.em (p0 = (2 : Int32)) with c_1_2 | c_1_2
      · have h := h.1 c_1_2
        refine lv_tableIn (tgt := 51) hx hb dX7_leastOf_1 (by rw [c_1_2]; decide) (by rw [c_1_2]; decide) (by rw [c_1_2]; try rfl) (by decide) ?_
        refine lv_bipush (v := (100 : Int32)) hx hb dX7_leastOf_51 (by decide) ?_
        exact W.iret (v := (100 : Int32)) hx hb hr (fun t ht hW => ⟨⟨(100 : Int32), (), rfl, h, ⟨hp_at ht hP, hD⟩⟩, hS.F ht⟩) hS.2.2 dX7_leastOf_53
      · have h := h.2 c_1_2
        rcases Classical.em (p0 = (3 : Int32)) with c_1_3 | c_1_3
        · have h := h.1 c_1_3
          refine lv_tableIn (tgt := 56) hx hb dX7_leastOf_1 (by rw [c_1_3]; decide) (by rw [c_1_3]; decide) (by rw [c_1_3]; try rfl) (by decide) ?_
          refine lv_iconst (v := (0 : Int32)) hx hb dX7_leastOf_56 (by decide) ?_
          exact W.iret (v := (0 : Int32)) hx hb hr (fun t ht hW => ⟨⟨(0 : Int32), (), rfl, h, ⟨hp_at ht hP, hD⟩⟩, hS.F ht⟩) hS.2.2 dX7_leastOf_57
        · have h := h.2 c_1_3
          rcases Classical.em (p0 = (4 : Int32)) with c_1_4 | c_1_4
          · have h := h.1 c_1_4
            refine lv_tableIn (tgt := 54) hx hb dX7_leastOf_1 (by rw [c_1_4]; decide) (by rw [c_1_4]; decide) (by rw [c_1_4]; try rfl) (by decide) ?_
            refine lv_iconst (v := (1 : Int32)) hx hb dX7_leastOf_54 (by decide) ?_
            exact W.iret (v := (1 : Int32)) hx hb hr (fun t ht hW => ⟨⟨(1 : Int32), (), rfl, h, ⟨hp_at ht hP, hD⟩⟩, hS.F ht⟩) hS.2.2 dX7_leastOf_55
          · have h := h.2 c_1_4
            rcases Classical.em (p0 = (5 : Int32)) with c_1_5 | c_1_5
            · have h := h.1 c_1_5
              refine lv_tableIn (tgt := 56) hx hb dX7_leastOf_1 (by rw [c_1_5]; decide) (by rw [c_1_5]; decide) (by rw [c_1_5]; try rfl) (by decide) ?_
              refine lv_iconst (v := (0 : Int32)) hx hb dX7_leastOf_56 (by decide) ?_
              exact W.iret (v := (0 : Int32)) hx hb hr (fun t ht hW => ⟨⟨(0 : Int32), (), rfl, h, ⟨hp_at ht hP, hD⟩⟩, hS.F ht⟩) hS.2.2 dX7_leastOf_57
            · have h := h.2 c_1_5
              rcases Classical.em (p0 = (6 : Int32)) with c_1_6 | c_1_6
              · have h := h.1 c_1_6
                refine lv_tableIn (tgt := 54) hx hb dX7_leastOf_1 (by rw [c_1_6]; decide) (by rw [c_1_6]; decide) (by rw [c_1_6]; try rfl) (by decide) ?_
                refine lv_iconst (v := (1 : Int32)) hx hb dX7_leastOf_54 (by decide) ?_
                exact W.iret (v := (1 : Int32)) hx hb hr (fun t ht hW => ⟨⟨(1 : Int32), (), rfl, h, ⟨hp_at ht hP, hD⟩⟩, hS.F ht⟩) hS.2.2 dX7_leastOf_55
              · have h := h.2 c_1_6
                rcases Classical.em (p0 = (7 : Int32)) with c_1_7 | c_1_7
                · have h := h.1 c_1_7
                  refine lv_tableIn (tgt := 48) hx hb dX7_leastOf_1 (by rw [c_1_7]; decide) (by rw [c_1_7]; decide) (by rw [c_1_7]; try rfl) (by decide) ?_
                  refine lv_bipush (v := (10 : Int32)) hx hb dX7_leastOf_48 (by decide) ?_
                  exact W.iret (v := (10 : Int32)) hx hb hr (fun t ht hW => ⟨⟨(10 : Int32), (), rfl, h, ⟨hp_at ht hP, hD⟩⟩, hS.F ht⟩) hS.2.2 dX7_leastOf_50
                · have h := h.2 c_1_7
                  have n_0 := lv_neT c_1_0 (a := 0) (by decide)
                  have n_1 := lv_neT c_1_1 (a := 1) (by decide)
                  have n_2 := lv_neT c_1_2 (a := 2) (by decide)
                  have n_3 := lv_neT c_1_3 (a := 3) (by decide)
                  have n_4 := lv_neT c_1_4 (a := 4) (by decide)
                  have n_5 := lv_neT c_1_5 (a := 5) (by decide)
                  have n_6 := lv_neT c_1_6 (a := 6) (by decide)
                  have n_7 := lv_neT c_1_7 (a := 7) (by decide)
                  refine lv_tableOut (tgt := 56) hx hb dX7_leastOf_1 (by omega) (by decide) ?_
                  refine lv_iconst (v := (0 : Int32)) hx hb dX7_leastOf_56 (by decide) ?_
                  exact W.iret (v := (0 : Int32)) hx hb hr (fun t ht hW => ⟨⟨(0 : Int32), (), rfl, h, ⟨hp_at ht hP, hD⟩⟩, hS.F ht⟩) hS.2.2 dX7_leastOf_57
def vX7_mostOf_59  (K : Int32 → Unit → Prop)  : Prop :=
  K (500 : Int32) ()
def vX7_mostOf (p0 : Int32) (K : Int32 → Unit → Prop) : Prop :=
  (p0 = (0 : Int32) → K (1000 : Int32) ()) ∧ (¬ p0 = (0 : Int32) → (p0 = (1 : Int32) → vX7_mostOf_59  K ) ∧ (¬ p0 = (1 : Int32) → (p0 = (2 : Int32) → K (5000 : Int32) ()) ∧ (¬ p0 = (2 : Int32) → (p0 = (3 : Int32) → K (10000 : Int32) ()) ∧ (¬ p0 = (3 : Int32) → (p0 = (4 : Int32) → vX7_mostOf_59  K ) ∧ (¬ p0 = (4 : Int32) → (p0 = (5 : Int32) → vX7_mostOf_59  K ) ∧ (¬ p0 = (5 : Int32) → (p0 = (6 : Int32) → K (60 : Int32) ()) ∧ (¬ p0 = (6 : Int32) → vX7_mostOf_59  K )))))))
set_option maxRecDepth 100000 in
set_option maxHeartbeats 4000000 in
theorem ctX7_mostOf (l : Launch) (G : va_G) (cy : Nat → ClassId)   (p0 : Int32) (K : Int32 → Unit → Prop) (h : vX7_mostOf p0 K) : Met l yX7_mostOf (ws_ yX7_mostOf cX7_mostOf 1 (some .int)) ({ frames := 0, cells := 0, slots := 0, locals := 0 } : Room) (CP G cy [.int p0] ([])) (RI G K (fun u => []) (A1 ([]))) 0 0 (A1 ([])) := by
  refine hd_go (Qf := fun A => (RI G K (fun u => []) A)) (by decide +kernel) (Nat.le_of_ble_eq_true rfl) ?_
  intro p e s m below meth c ls A hx hb hr hlocks S hE hP hD hS hl
  have hl : lv_has ls 1 [(0, .int p0)] := hl
  unfold vX7_mostOf at h
  have J_59 : vX7_mostOf_59  K  → ∀ (H : Heap) (locs : List Loc) (ls : Array Slot), va_P G vwCl ([]) H → va_D A ([]) → va_S A s.heap H locs → lv_has ls 1 [] → W p l e (headSpec (ws_ yX7_mostOf cX7_mostOf 1 (some .int)) ({ frames := 0, cells := 0, slots := 0, locals := 0 } : Room)).room s m ([.int p0] : List Value).toArray below meth c H locs 0 0 (MQ below (RI G K (fun u => []) A) ([.int p0] : List Value).toArray s 0 0 A) (F0 m 59 ls []) := by
    intro  h H locs ls hP hD hS hl
    unfold vX7_mostOf_59 at h
    refine lv_sipush (v := (500 : Int32)) hx hb dX7_mostOf_59 (by decide) ?_
    exact W.iret (v := (500 : Int32)) hx hb hr (fun t ht hW => ⟨⟨(500 : Int32), (), rfl, h, ⟨hp_at ht hP, hD⟩⟩, hS.F ht⟩) hS.2.2 dX7_mostOf_62
  refine lv_iload_n hx hb dX7_mostOf_0 rfl (lv_at hl 0 rfl) ?_
  rcases Classical.em (p0 = (0 : Int32)) with c_1_0 | c_1_0
  · have h := h.1 c_1_0
    refine lv_tableIn (tgt := 44) hx hb dX7_mostOf_1 (by rw [c_1_0]; decide) (by rw [c_1_0]; decide) (by rw [c_1_0]; try rfl) (by decide) ?_
    refine lv_sipush (v := (1000 : Int32)) hx hb dX7_mostOf_44 (by decide) ?_
    exact W.iret (v := (1000 : Int32)) hx hb hr (fun t ht hW => ⟨⟨(1000 : Int32), (), rfl, h, ⟨hp_at ht hP, hD⟩⟩, hS.F ht⟩) hS.2.2 dX7_mostOf_47
  · have h := h.2 c_1_0
    rcases Classical.em (p0 = (1 : Int32)) with c_1_1 | c_1_1
    · have h := h.1 c_1_1
      refine lv_tableIn (tgt := 59) hx hb dX7_mostOf_1 (by rw [c_1_1]; decide) (by rw [c_1_1]; decide) (by rw [c_1_1]; try rfl) (by decide) ?_
      exact J_59  h _ _ _ hP hD hS (lv_sub hl [] rfl)
    · have h := h.2 c_1_1
      rcases Classical.em (p0 = (2 : Int32)) with c_1_2 | c_1_2
      · have h := h.1 c_1_2
        refine lv_tableIn (tgt := 48) hx hb dX7_mostOf_1 (by rw [c_1_2]; decide) (by rw [c_1_2]; decide) (by rw [c_1_2]; try rfl) (by decide) ?_
        refine lv_sipush (v := (5000 : Int32)) hx hb dX7_mostOf_48 (by decide) ?_
        exact W.iret (v := (5000 : Int32)) hx hb hr (fun t ht hW => ⟨⟨(5000 : Int32), (), rfl, h, ⟨hp_at ht hP, hD⟩⟩, hS.F ht⟩) hS.2.2 dX7_mostOf_51
      · have h := h.2 c_1_2
        rcases Classical.em (p0 = (3 : Int32)) with c_1_3 | c_1_3
        · have h := h.1 c_1_3
          refine lv_tableIn (tgt := 52) hx hb dX7_mostOf_1 (by rw [c_1_3]; decide) (by rw [c_1_3]; decide) (by rw [c_1_3]; try rfl) (by decide) ?_
          refine lv_sipush (v := (10000 : Int32)) hx hb dX7_mostOf_52 (by decide) ?_
          exact W.iret (v := (10000 : Int32)) hx hb hr (fun t ht hW => ⟨⟨(10000 : Int32), (), rfl, h, ⟨hp_at ht hP, hD⟩⟩, hS.F ht⟩) hS.2.2 dX7_mostOf_55
        · have h := h.2 c_1_3
          rcases Classical.em (p0 = (4 : Int32)) with c_1_4 | c_1_4
          · have h := h.1 c_1_4
            refine lv_tableIn (tgt := 59) hx hb dX7_mostOf_1 (by rw [c_1_4]; decide) (by rw [c_1_4]; decide) (by rw [c_1_4]; try rfl) (by decide) ?_
            exact J_59  h _ _ _ hP hD hS (lv_sub hl [] rfl)
          · have h := h.2 c_1_4
            rcases Classical.em (p0 = (5 : Int32)) with c_1_5 | c_1_5
            · have h := h.1 c_1_5
              refine lv_tableIn (tgt := 59) hx hb dX7_mostOf_1 (by rw [c_1_5]; decide) (by rw [c_1_5]; decide) (by rw [c_1_5]; try rfl) (by decide) ?_
              exact J_59  h _ _ _ hP hD hS (lv_sub hl [] rfl)
            · have h := h.2 c_1_5
              rcases Classical.em (p0 = (6 : Int32)) with c_1_6 | c_1_6
              · have h := h.1 c_1_6
                refine lv_tableIn (tgt := 56) hx hb dX7_mostOf_1 (by rw [c_1_6]; decide) (by rw [c_1_6]; decide) (by rw [c_1_6]; try rfl) (by decide) ?_
                refine lv_bipush (v := (60 : Int32)) hx hb dX7_mostOf_56 (by decide) ?_
                exact W.iret (v := (60 : Int32)) hx hb hr (fun t ht hW => ⟨⟨(60 : Int32), (), rfl, h, ⟨hp_at ht hP, hD⟩⟩, hS.F ht⟩) hS.2.2 dX7_mostOf_58
              · have h := h.2 c_1_6
                have n_0 := lv_neT c_1_0 (a := 0) (by decide)
                have n_1 := lv_neT c_1_1 (a := 1) (by decide)
                have n_2 := lv_neT c_1_2 (a := 2) (by decide)
                have n_3 := lv_neT c_1_3 (a := 3) (by decide)
                have n_4 := lv_neT c_1_4 (a := 4) (by decide)
                have n_5 := lv_neT c_1_5 (a := 5) (by decide)
                have n_6 := lv_neT c_1_6 (a := 6) (by decide)
                refine lv_tableOut (tgt := 59) hx hb dX7_mostOf_1 (by omega) (by decide) ?_
                exact J_59  h _ _ _ hP hD hS (lv_sub hl [] rfl)
def vX7_set (mn : Nat → Int32) (mf : Nat → UInt32) (mk : Nat → Int32) (mg : Nat → UInt32) (mm : Nat → Int32) (p1 : Int32) (p2 : Int32) (K : Int32 → ((Nat → Int32) × (Nat → Int32) × (Nat → UInt32) × (Nat → Int32)) → Prop) : Prop :=
  vX7_isIn p1 (0 : Int32) (7 : Int32) (fun r_4 u_4 => (¬ r_4 = (0 : Int32) → vX7_leastOf p1 (fun r_14 u_14 => vX7_mostOf p1 (fun r_18 u_18 => vX7_isIn p2 r_14 r_18 (fun r_21 u_21 => (¬ r_21 = (0 : Int32) → vX7_records mn mf mk mg mm (fun u_31 => vp_in ((12 : Int32) + p1) 40 ∧ vp_in ((12 : Int32) + p1) 40 ∧ K (mn (Int32.toNatClampNeg ((12 : Int32) + p1))) ((upd mn (Int32.toNatClampNeg ((12 : Int32) + p1)) p2), u_31.1, u_31.2.1, u_31.2.2))) ∧ (r_21 = (0 : Int32) → K (-2 : Int32) (mn, mk, mg, mm)))))) ∧ (r_4 = (0 : Int32) → K (-1 : Int32) (mn, mk, mg, mm)))
set_option maxRecDepth 100000 in
set_option maxHeartbeats 4000000 in
theorem ctX7_set (l : Launch) (G : va_G) (cy : Nat → ClassId) (a : Nat → Nat) (mn : Nat → Int32) (mf : Nat → UInt32) (mk : Nat → Int32) (mg : Nat → UInt32) (mv : Nat → Int32) (mt : Nat → Int32) (mm : Nat → Int32) (p1 : Int32) (p2 : Int32) (K : Int32 → ((Nat → Int32) × (Nat → Int32) × (Nat → UInt32) × (Nat → Int32)) → Prop) (h : vX7_set mn mf mk mg mm p1 p2 K) : Met l yX7_set (ws_ yX7_set cX7_set 4 (some .int)) ({ frames := 2, cells := 0, slots := 0, locals := 43 } : Room) (CP G cy [.ref (a 0), .int p1, .int p2] (md_W cy a mn mf mk mg mv mt mm)) (RI G K (fun u => md_W cy a u.1 mf u.2.1 u.2.2.1 mv mt u.2.2.2) (A1 (md_W cy a mn mf mk mg mv mt mm))) 0 0 (A1 (md_W cy a mn mf mk mg mv mt mm)) := by
  refine hd_go (Qf := fun A => (RI G K (fun u => md_W cy a u.1 mf u.2.1 u.2.2.1 mv mt u.2.2.2) A)) (by decide +kernel) (Nat.le_of_ble_eq_true rfl) ?_
  intro p e s m below meth c ls A hx hb hr hlocks S hE hP hD hS hl
  have hl : lv_has ls 4 [(0, .ref (a 0)), (1, .int p1), (2, .int p2)] := hl
  unfold vX7_set at h
  refine lv_iload_n hx hb dX7_set_0 rfl (lv_at hl 1 rfl) ?_
  refine lv_iconst (v := (0 : Int32)) hx hb dX7_set_1 (by decide) ?_
  refine lv_bipush (v := (7 : Int32)) hx hb dX7_set_2 (by decide) ?_
  refine kc_SiE (As := [.int p1, .int (0 : Int32), .int (7 : Int32)]) (rest := []) S hE (ctX7_isIn l G cy   p1 (0 : Int32) (7 : Int32) _ h) q_8_17 q_8_18 q_1_5 q_8_19 ydX7_isIn ⟨⟨rfl, rfl⟩, ⟨Nat.le_of_ble_eq_true rfl, Nat.le_of_ble_eq_true rfl⟩⟩ ⟨Nat.zero_le _, Nat.zero_le _⟩ hP hD hS (fun _ => rfl) rfl hl.1 rfl (Nat.le_of_ble_eq_true rfl) dX7_set_4 (fun r_4 u_4 H locs h hP hD hS => ?_)
  refine lv_if_ne (tgt := 12) hx hb dX7_set_7 (by decide) (fun c_7 => ?_) (fun c_7 => ?_)
  · have h := h.1 c_7
    refine lv_iload_n hx hb dX7_set_12 rfl (lv_at hl 2 rfl) ?_
    refine lv_iload_n hx hb dX7_set_13 rfl (lv_at hl 1 rfl) ?_
    refine kc_SiE (As := [.int p1]) (rest := [.int p2]) S hE (ctX7_leastOf l G cy   p1 _ h) q_11_8 q_11_9 q_1_5 q_11_10 ydX7_leastOf ⟨⟨rfl, rfl⟩, ⟨Nat.le_of_ble_eq_true rfl, Nat.le_of_ble_eq_true rfl⟩⟩ ⟨Nat.zero_le _, Nat.zero_le _⟩ hP hD hS (fun _ => rfl) rfl hl.1 rfl (Nat.le_of_ble_eq_true rfl) dX7_set_14 (fun r_14 u_14 H locs h hP hD hS => ?_)
    refine lv_iload_n hx hb dX7_set_17 rfl (lv_at hl 1 rfl) ?_
    refine kc_SiE (As := [.int p1]) (rest := [.int r_14, .int p2]) S hE (ctX7_mostOf l G cy   p1 _ h) q_11_11 q_11_12 q_1_5 q_11_13 ydX7_mostOf ⟨⟨rfl, rfl⟩, ⟨Nat.le_of_ble_eq_true rfl, Nat.le_of_ble_eq_true rfl⟩⟩ ⟨Nat.zero_le _, Nat.zero_le _⟩ hP hD hS (fun _ => rfl) rfl hl.1 rfl (Nat.le_of_ble_eq_true rfl) dX7_set_18 (fun r_18 u_18 H locs h hP hD hS => ?_)
    refine kc_SiE (As := [.int p2, .int r_14, .int r_18]) (rest := []) S hE (ctX7_isIn l G cy   p2 r_14 r_18 _ h) q_8_17 q_8_18 q_1_5 q_8_19 ydX7_isIn ⟨⟨rfl, rfl⟩, ⟨Nat.le_of_ble_eq_true rfl, Nat.le_of_ble_eq_true rfl⟩⟩ ⟨Nat.zero_le _, Nat.zero_le _⟩ hP hD hS (fun _ => rfl) rfl hl.1 rfl (Nat.le_of_ble_eq_true rfl) dX7_set_21 (fun r_21 u_21 H locs h hP hD hS => ?_)
    refine lv_if_ne (tgt := 30) hx hb dX7_set_24 (by decide) (fun c_24 => ?_) (fun c_24 => ?_)
    · have h := h.1 c_24
      refine lv_aload_n hx hb dX7_set_30 rfl (lv_at hl 0 rfl) ?_
      refine kc_Vv0 (As := []) (rest := []) S hE (ctX7_records l G cy a mn mf mk mg mv mt mm  _ h) q_8_20 q_8_21 q_8_22 q_1_5 q_8_23 rfl 0 rfl rfl ydX7_records ⟨⟨rfl, rfl⟩, ⟨Nat.le_of_ble_eq_true rfl, Nat.le_of_ble_eq_true rfl⟩⟩ ⟨Nat.zero_le _, Nat.zero_le _⟩ hP hD hS rfl hl.1 rfl (Nat.le_of_ble_eq_true rfl) dX7_set_31 (fun u_31 H locs h hP hD hS => ?_)
      refine lv_aload_n hx hb dX7_set_34 rfl (lv_at hl 0 rfl) ?_
      refine kg (v := .ref (a 1)) S hE hP 0 rfl rfl 0 (by decide) q_4_13 rfl rfl inlX7 dX7_set_35 ?_
      refine lv_bipush (v := (12 : Int32)) hx hb dX7_set_38 (by decide) ?_
      refine lv_iload_n hx hb dX7_set_40 rfl (lv_at hl 1 rfl) ?_
      refine lv_iadd hx hb dX7_set_41 ?_
      refine kail (v := (mn (Int32.toNatClampNeg ((12 : Int32) + p1)))) S hE hP 1 rfl h.1 rfl rfl dX7_set_42 ?_
      have h := h.2
      refine lv_istore_n (lv' := [(3, .int (mn (Int32.toNatClampNeg ((12 : Int32) + p1)))), (0, .ref (a 0)), (1, .int p1), (2, .int p2)]) hx hb dX7_set_43 rfl hl (by decide) rfl (fun ls hl => ?_)
      refine lv_aload_n hx hb dX7_set_44 rfl (lv_at hl 1 rfl) ?_
      refine kg (v := .ref (a 1)) S hE hP 0 rfl rfl 0 (by decide) q_4_13 rfl rfl inlX7 dX7_set_45 ?_
      refine lv_bipush (v := (12 : Int32)) hx hb dX7_set_48 (by decide) ?_
      refine lv_iload_n hx hb dX7_set_50 rfl (lv_at hl 2 rfl) ?_
      refine lv_iadd hx hb dX7_set_51 ?_
      refine lv_iload_n hx hb dX7_set_52 rfl (lv_at hl 3 rfl) ?_
      refine kais S hE hP hD hS 1 rfl h.1 rfl dX7_set_53 (fun H locs hP hD hS => ?_)
      have h := h.2
      have hP : va_P G vwCl (md_W cy a (upd mn (Int32.toNatClampNeg ((12 : Int32) + p1)) p2) mf u_31.1 u_31.2.1 mv mt u_31.2.2) H := hP
      have hD : va_D A (md_W cy a (upd mn (Int32.toNatClampNeg ((12 : Int32) + p1)) p2) mf u_31.1 u_31.2.1 mv mt u_31.2.2) := hD
      refine lv_iload_n hx hb dX7_set_54 rfl (lv_at hl 0 rfl) ?_
      exact W.iret (v := (mn (Int32.toNatClampNeg ((12 : Int32) + p1)))) hx hb hr (fun t ht hW => ⟨⟨(mn (Int32.toNatClampNeg ((12 : Int32) + p1))), ((upd mn (Int32.toNatClampNeg ((12 : Int32) + p1)) p2), u_31.1, u_31.2.1, u_31.2.2), rfl, h, ⟨hp_at ht hP, hD⟩⟩, hS.F ht⟩) hS.2.2 dX7_set_55
    · have h := h.2 c_24
      refine lv_bipush (v := (-2 : Int32)) hx hb dX7_set_27 (by decide) ?_
      exact W.iret (v := (-2 : Int32)) hx hb hr (fun t ht hW => ⟨⟨(-2 : Int32), (mn, mk, mg, mm), rfl, h, ⟨hp_at ht hP, hD⟩⟩, hS.F ht⟩) hS.2.2 dX7_set_29
  · have h := h.2 c_7
    refine lv_iconst (v := (-1 : Int32)) hx hb dX7_set_10 (by decide) ?_
    exact W.iret (v := (-1 : Int32)) hx hb hr (fun t ht hW => ⟨⟨(-1 : Int32), (mn, mk, mg, mm), rfl, h, ⟨hp_at ht hP, hD⟩⟩, hS.F ht⟩) hS.2.2 dX7_set_11
def vX7_distanceOf (mn : Nat → Int32) (p1 : Int32) (K : Int32 → Unit → Prop) : Prop :=
  vp_in ((20 : Int32) + ((2 : Int32) * p1)) 40 ∧ K (mn (Int32.toNatClampNeg ((20 : Int32) + ((2 : Int32) * p1)))) ()
set_option maxRecDepth 100000 in
set_option maxHeartbeats 4000000 in
theorem ctX7_distanceOf (l : Launch) (G : va_G) (cy : Nat → ClassId) (a : Nat → Nat) (mn : Nat → Int32) (mf : Nat → UInt32) (mk : Nat → Int32) (mg : Nat → UInt32) (mv : Nat → Int32) (mt : Nat → Int32) (mm : Nat → Int32) (p1 : Int32) (K : Int32 → Unit → Prop) (h : vX7_distanceOf mn p1 K) : Met l yX7_distanceOf (ws_ yX7_distanceOf cX7_distanceOf 2 (some .int)) ({ frames := 0, cells := 0, slots := 0, locals := 0 } : Room) (CP G cy [.ref (a 0), .int p1] (md_W cy a mn mf mk mg mv mt mm)) (RI G K (fun u => md_W cy a mn mf mk mg mv mt mm) (A1 (md_W cy a mn mf mk mg mv mt mm))) 0 0 (A1 (md_W cy a mn mf mk mg mv mt mm)) := by
  refine hd_go (Qf := fun A => (RI G K (fun u => md_W cy a mn mf mk mg mv mt mm) A)) (by decide +kernel) (Nat.le_of_ble_eq_true rfl) ?_
  intro p e s m below meth c ls A hx hb hr hlocks S hE hP hD hS hl
  have hl : lv_has ls 2 [(0, .ref (a 0)), (1, .int p1)] := hl
  unfold vX7_distanceOf at h
  refine lv_aload_n hx hb dX7_distanceOf_0 rfl (lv_at hl 0 rfl) ?_
  refine kg (v := .ref (a 1)) S hE hP 0 rfl rfl 0 (by decide) q_4_13 rfl rfl inlX7 dX7_distanceOf_1 ?_
  refine lv_bipush (v := (20 : Int32)) hx hb dX7_distanceOf_4 (by decide) ?_
  refine lv_iconst (v := (2 : Int32)) hx hb dX7_distanceOf_6 (by decide) ?_
  refine lv_iload_n hx hb dX7_distanceOf_7 rfl (lv_at hl 1 rfl) ?_
  refine lv_imul hx hb dX7_distanceOf_8 ?_
  refine lv_iadd hx hb dX7_distanceOf_9 ?_
  refine kail (v := (mn (Int32.toNatClampNeg ((20 : Int32) + ((2 : Int32) * p1))))) S hE hP 1 rfl h.1 rfl rfl dX7_distanceOf_10 ?_
  have h := h.2
  exact W.iret (v := (mn (Int32.toNatClampNeg ((20 : Int32) + ((2 : Int32) * p1))))) hx hb hr (fun t ht hW => ⟨⟨(mn (Int32.toNatClampNeg ((20 : Int32) + ((2 : Int32) * p1)))), (), rfl, h, ⟨hp_at ht hP, hD⟩⟩, hS.F ht⟩) hS.2.2 dX7_distanceOf_11
def vX7_setPoint_168 (mn : Nat → Int32) (mf : Nat → UInt32) (mk : Nat → Int32) (mg : Nat → UInt32) (mm : Nat → Int32) (x1 : Int32) (x2 : Int32) (x3 : Int32) (K : Int32 → ((Nat → Int32) × (Nat → Int32) × (Nat → UInt32) × (Nat → Int32)) → Prop)  : Prop :=
  vp_in ((20 : Int32) + ((2 : Int32) * x3)) 40 ∧ vp_in (((20 : Int32) + ((2 : Int32) * x3)) + (1 : Int32)) 40 ∧ K ((upd (upd mn (Int32.toNatClampNeg ((20 : Int32) + ((2 : Int32) * x3))) x1) (Int32.toNatClampNeg (((20 : Int32) + ((2 : Int32) * x3)) + (1 : Int32))) x2) 10) ((upd (upd mn (Int32.toNatClampNeg ((20 : Int32) + ((2 : Int32) * x3))) x1) (Int32.toNatClampNeg (((20 : Int32) + ((2 : Int32) * x3)) + (1 : Int32))) x2), mk, mg, mm)
def vX7_setPoint_121b (mf : Nat → UInt32) (mk : Nat → Int32) (mg : Nat → UInt32) (mm : Nat → Int32) (x1 : Int32) (x2 : Int32) (x3 : Int32) (K : Int32 → ((Nat → Int32) × (Nat → Int32) × (Nat → UInt32) × (Nat → Int32)) → Prop)  (B121 : (Nat → Int32) → Int32 → Prop) (mn : Nat → Int32) (x5 : Int32) : Prop :=
  (x5 < ((2 : Int32) * x3) → vX7_setPoint_168 (upd mn 10 ((mn 10) + (1 : Int32))) mf mk mg mm x1 x2 x3 K ) ∧ (¬ x5 < ((2 : Int32) * x3) → vp_in ((20 : Int32) + x5) 40 ∧ vp_in (((20 : Int32) + x5) + (2 : Int32)) 40 ∧ B121 (upd mn (Int32.toNatClampNeg (((20 : Int32) + x5) + (2 : Int32))) (mn (Int32.toNatClampNeg ((20 : Int32) + x5)))) (x5 + (-1 : Int32)))
def vX7_setPoint_121F (mf : Nat → UInt32) (mk : Nat → Int32) (mg : Nat → UInt32) (mm : Nat → Int32) (x1 : Int32) (x2 : Int32) (x3 : Int32) (K : Int32 → ((Nat → Int32) × (Nat → Int32) × (Nat → UInt32) × (Nat → Int32)) → Prop)  : (((Nat → Int32) × Int32) → Prop) → ((Nat → Int32) × Int32) → Prop := fun B z => vX7_setPoint_121b mf mk mg mm x1 x2 x3 K  (fun z0 z1 => B (z0, z1)) z.1 z.2
def vX7_setPoint_99 (mn : Nat → Int32) (mf : Nat → UInt32) (mk : Nat → Int32) (mg : Nat → UInt32) (mm : Nat → Int32) (x1 : Int32) (x2 : Int32) (x3 : Int32) (x4 : Int32) (K : Int32 → ((Nat → Int32) × (Nat → Int32) × (Nat → UInt32) × (Nat → Int32)) → Prop)  : Prop :=
  vX7_records mn mf mk mg mm (fun u_100 => (¬ x4 = (0 : Int32) → vX7_setPoint_168 mn mf u_100.1 u_100.2.1 u_100.2.2 x1 x2 x3 K ) ∧ (x4 = (0 : Int32) → ∃ k, lp (vX7_setPoint_121F mf u_100.1 u_100.2.1 u_100.2.2 x1 x2 x3 K ) k (mn, (((2 : Int32) * (mn 10)) - (1 : Int32)))))
def vX7_setPoint_77 (mn : Nat → Int32) (mf : Nat → UInt32) (mk : Nat → Int32) (mg : Nat → UInt32) (mm : Nat → Int32) (x1 : Int32) (x2 : Int32) (x3 : Int32) (y0 : Int32) (K : Int32 → ((Nat → Int32) × (Nat → Int32) × (Nat → UInt32) × (Nat → Int32)) → Prop)  : Prop :=
  (¬ y0 = (0 : Int32) → vX7_setPoint_99 mn mf mk mg mm x1 x2 x3 y0 K ) ∧ (y0 = (0 : Int32) → (¬ (mn 10) = (6 : Int32) → vX7_setPoint_99 mn mf mk mg mm x1 x2 x3 y0 K ) ∧ ((mn 10) = (6 : Int32) → K (-4 : Int32) (mn, mk, mg, mm)))
def vX7_setPoint_76 (mn : Nat → Int32) (mf : Nat → UInt32) (mk : Nat → Int32) (mg : Nat → UInt32) (mm : Nat → Int32) (x1 : Int32) (x2 : Int32) (x3 : Int32) (K : Int32 → ((Nat → Int32) × (Nat → Int32) × (Nat → UInt32) × (Nat → Int32)) → Prop)  : Prop :=
  vX7_setPoint_77 mn mf mk mg mm x1 x2 x3 (0 : Int32) K 
def vX7_setPoint_52 (mn : Nat → Int32) (mf : Nat → UInt32) (mk : Nat → Int32) (mg : Nat → UInt32) (mm : Nat → Int32) (x1 : Int32) (x2 : Int32) (x3 : Int32) (K : Int32 → ((Nat → Int32) × (Nat → Int32) × (Nat → UInt32) × (Nat → Int32)) → Prop)  : Prop :=
  ((mn 10) ≤ x3 → vX7_setPoint_76 mn mf mk mg mm x1 x2 x3 K ) ∧ (¬ (mn 10) ≤ x3 → vX7_distanceOf mn x3 (fun r_65 u_65 => (¬ r_65 = x1 → vX7_setPoint_76 mn mf mk mg mm x1 x2 x3 K ) ∧ (r_65 = x1 → vX7_setPoint_77 mn mf mk mg mm x1 x2 x3 (1 : Int32) K )))
def vX7_setPoint_26b (mn : Nat → Int32) (mf : Nat → UInt32) (mk : Nat → Int32) (mg : Nat → UInt32) (mm : Nat → Int32) (x1 : Int32) (x2 : Int32) (K : Int32 → ((Nat → Int32) × (Nat → Int32) × (Nat → UInt32) × (Nat → Int32)) → Prop)  (B26 : Int32 → Prop) (x3 : Int32) : Prop :=
  ((mn 10) ≤ x3 → vX7_setPoint_52 mn mf mk mg mm x1 x2 x3 K ) ∧ (¬ (mn 10) ≤ x3 → vX7_distanceOf mn x3 (fun r_39 u_39 => (x1 ≤ r_39 → vX7_setPoint_52 mn mf mk mg mm x1 x2 x3 K ) ∧ (¬ x1 ≤ r_39 → B26 (x3 + (1 : Int32)))))
def vX7_setPoint_26F (mn : Nat → Int32) (mf : Nat → UInt32) (mk : Nat → Int32) (mg : Nat → UInt32) (mm : Nat → Int32) (x1 : Int32) (x2 : Int32) (K : Int32 → ((Nat → Int32) × (Nat → Int32) × (Nat → UInt32) × (Nat → Int32)) → Prop)  : ((Int32) → Prop) → (Int32) → Prop := fun B z => vX7_setPoint_26b mn mf mk mg mm x1 x2 K  (fun z0 => B z0) z
def vX7_setPoint (mn : Nat → Int32) (mf : Nat → UInt32) (mk : Nat → Int32) (mg : Nat → UInt32) (mm : Nat → Int32) (p1 : Int32) (p2 : Int32) (K : Int32 → ((Nat → Int32) × (Nat → Int32) × (Nat → UInt32) × (Nat → Int32)) → Prop) : Prop :=
  vX7_isIn p1 (0 : Int32) (100000 : Int32) (fun r_4 u_4 => (r_4 = (0 : Int32) → K (-2 : Int32) (mn, mk, mg, mm)) ∧ (¬ r_4 = (0 : Int32) → vX7_isIn p2 (1 : Int32) (5000 : Int32) (fun r_15 u_15 => (¬ r_15 = (0 : Int32) → ∃ k, lp (vX7_setPoint_26F mn mf mk mg mm p1 p2 K ) k (0 : Int32)) ∧ (r_15 = (0 : Int32) → K (-2 : Int32) (mn, mk, mg, mm)))))
set_option maxRecDepth 100000 in
set_option maxHeartbeats 4000000 in
theorem ctX7_setPoint (l : Launch) (G : va_G) (cy : Nat → ClassId) (a : Nat → Nat) (mn : Nat → Int32) (mf : Nat → UInt32) (mk : Nat → Int32) (mg : Nat → UInt32) (mv : Nat → Int32) (mt : Nat → Int32) (mm : Nat → Int32) (p1 : Int32) (p2 : Int32) (K : Int32 → ((Nat → Int32) × (Nat → Int32) × (Nat → UInt32) × (Nat → Int32)) → Prop) (h : vX7_setPoint mn mf mk mg mm p1 p2 K) : Met l yX7_setPoint (ws_ yX7_setPoint cX7_setPoint 6 (some .int)) ({ frames := 2, cells := 0, slots := 0, locals := 43 } : Room) (CP G cy [.ref (a 0), .int p1, .int p2] (md_W cy a mn mf mk mg mv mt mm)) (RI G K (fun u => md_W cy a u.1 mf u.2.1 u.2.2.1 mv mt u.2.2.2) (A1 (md_W cy a mn mf mk mg mv mt mm))) 0 0 (A1 (md_W cy a mn mf mk mg mv mt mm)) := by
  refine hd_go (Qf := fun A => (RI G K (fun u => md_W cy a u.1 mf u.2.1 u.2.2.1 mv mt u.2.2.2) A)) (by decide +kernel) (Nat.le_of_ble_eq_true rfl) ?_
  intro p e s m below meth c ls A hx hb hr hlocks S hE hP hD hS hl
  have hl : lv_has ls 6 [(0, .ref (a 0)), (1, .int p1), (2, .int p2)] := hl
  unfold vX7_setPoint at h
  have J_168 : ∀ (mn : Nat → Int32) (mf : Nat → UInt32) (mk : Nat → Int32) (mg : Nat → UInt32) (mm : Nat → Int32) (x1 : Int32) (x2 : Int32) (x3 : Int32), vX7_setPoint_168 mn mf mk mg mm x1 x2 x3 K  → ∀ (H : Heap) (locs : List Loc) (ls : Array Slot), va_P G vwCl (md_W cy a mn mf mk mg mv mt mm) H → va_D A (md_W cy a mn mf mk mg mv mt mm) → va_S A s.heap H locs → lv_has ls 6 [(0, .ref (a 0)), (1, .int x1), (2, .int x2), (3, .int x3)] → W p l e (headSpec (ws_ yX7_setPoint cX7_setPoint 6 (some .int)) ({ frames := 2, cells := 0, slots := 0, locals := 43 } : Room)).room s m ([.ref (a 0), .int p1, .int p2] : List Value).toArray below meth c H locs 0 0 (MQ below (RI G K (fun u => md_W cy a u.1 mf u.2.1 u.2.2.1 mv mt u.2.2.2) A) ([.ref (a 0), .int p1, .int p2] : List Value).toArray s 0 0 A) (F0 m 168 ls []) := by
    intro mn mf mk mg mm x1 x2 x3 h H locs ls hP hD hS hl
    unfold vX7_setPoint_168 at h
    refine lv_aload_n hx hb dX7_setPoint_168 rfl (lv_at hl 0 rfl) ?_
    refine kg (v := .ref (a 1)) S hE hP 0 rfl rfl 0 (by decide) q_4_13 rfl rfl inlX7 dX7_setPoint_169 ?_
    refine lv_bipush (v := (20 : Int32)) hx hb dX7_setPoint_172 (by decide) ?_
    refine lv_iconst (v := (2 : Int32)) hx hb dX7_setPoint_174 (by decide) ?_
    refine lv_iload_n hx hb dX7_setPoint_175 rfl (lv_at hl 3 rfl) ?_
    refine lv_imul hx hb dX7_setPoint_176 ?_
    refine lv_iadd hx hb dX7_setPoint_177 ?_
    refine lv_iload_n hx hb dX7_setPoint_178 rfl (lv_at hl 1 rfl) ?_
    refine kais S hE hP hD hS 1 rfl h.1 rfl dX7_setPoint_179 (fun H locs hP hD hS => ?_)
    have h := h.2
    have hP : va_P G vwCl (md_W cy a (upd mn (Int32.toNatClampNeg ((20 : Int32) + ((2 : Int32) * x3))) x1) mf mk mg mv mt mm) H := hP
    have hD : va_D A (md_W cy a (upd mn (Int32.toNatClampNeg ((20 : Int32) + ((2 : Int32) * x3))) x1) mf mk mg mv mt mm) := hD
    refine lv_aload_n hx hb dX7_setPoint_180 rfl (lv_at hl 0 rfl) ?_
    refine kg (v := .ref (a 1)) S hE hP 0 rfl rfl 0 (by decide) q_4_13 rfl rfl inlX7 dX7_setPoint_181 ?_
    refine lv_bipush (v := (20 : Int32)) hx hb dX7_setPoint_184 (by decide) ?_
    refine lv_iconst (v := (2 : Int32)) hx hb dX7_setPoint_186 (by decide) ?_
    refine lv_iload_n hx hb dX7_setPoint_187 rfl (lv_at hl 3 rfl) ?_
    refine lv_imul hx hb dX7_setPoint_188 ?_
    refine lv_iadd hx hb dX7_setPoint_189 ?_
    refine lv_iconst (v := (1 : Int32)) hx hb dX7_setPoint_190 (by decide) ?_
    refine lv_iadd hx hb dX7_setPoint_191 ?_
    refine lv_iload_n hx hb dX7_setPoint_192 rfl (lv_at hl 2 rfl) ?_
    refine kais S hE hP hD hS 1 rfl h.1 rfl dX7_setPoint_193 (fun H locs hP hD hS => ?_)
    have h := h.2
    have hP : va_P G vwCl (md_W cy a (upd (upd mn (Int32.toNatClampNeg ((20 : Int32) + ((2 : Int32) * x3))) x1) (Int32.toNatClampNeg (((20 : Int32) + ((2 : Int32) * x3)) + (1 : Int32))) x2) mf mk mg mv mt mm) H := hP
    have hD : va_D A (md_W cy a (upd (upd mn (Int32.toNatClampNeg ((20 : Int32) + ((2 : Int32) * x3))) x1) (Int32.toNatClampNeg (((20 : Int32) + ((2 : Int32) * x3)) + (1 : Int32))) x2) mf mk mg mv mt mm) := hD
    refine lv_aload_n hx hb dX7_setPoint_194 rfl (lv_at hl 0 rfl) ?_
    refine kg (v := .ref (a 1)) S hE hP 0 rfl rfl 0 (by decide) q_4_13 rfl rfl inlX7 dX7_setPoint_195 ?_
    refine lv_bipush (v := (10 : Int32)) hx hb dX7_setPoint_198 (by decide) ?_
    refine kail (v := ((upd (upd mn (Int32.toNatClampNeg ((20 : Int32) + ((2 : Int32) * x3))) x1) (Int32.toNatClampNeg (((20 : Int32) + ((2 : Int32) * x3)) + (1 : Int32))) x2) 10)) S hE hP 1 rfl (vi_10 (by decide)) tc_10 rfl dX7_setPoint_200 ?_
    exact W.iret (v := ((upd (upd mn (Int32.toNatClampNeg ((20 : Int32) + ((2 : Int32) * x3))) x1) (Int32.toNatClampNeg (((20 : Int32) + ((2 : Int32) * x3)) + (1 : Int32))) x2) 10)) hx hb hr (fun t ht hW => ⟨⟨((upd (upd mn (Int32.toNatClampNeg ((20 : Int32) + ((2 : Int32) * x3))) x1) (Int32.toNatClampNeg (((20 : Int32) + ((2 : Int32) * x3)) + (1 : Int32))) x2) 10), ((upd (upd mn (Int32.toNatClampNeg ((20 : Int32) + ((2 : Int32) * x3))) x1) (Int32.toNatClampNeg (((20 : Int32) + ((2 : Int32) * x3)) + (1 : Int32))) x2), mk, mg, mm), rfl, h, ⟨hp_at ht hP, hD⟩⟩, hS.F ht⟩) hS.2.2 dX7_setPoint_201
  have L_121 : ∀ (mf : Nat → UInt32) (mk : Nat → Int32) (mg : Nat → UInt32) (mm : Nat → Int32) (x1 : Int32) (x2 : Int32) (x3 : Int32) (k_121 : Nat) (mn : Nat → Int32) (x5 : Int32), lp (vX7_setPoint_121F mf mk mg mm x1 x2 x3 K ) k_121 (mn, x5) → ∀ (H : Heap) (locs : List Loc) (ls : Array Slot), va_P G vwCl (md_W cy a mn mf mk mg mv mt mm) H → va_D A (md_W cy a mn mf mk mg mv mt mm) → va_S A s.heap H locs → lv_has ls 6 [(0, .ref (a 0)), (1, .int x1), (2, .int x2), (3, .int x3), (5, .int x5)] → W p l e (headSpec (ws_ yX7_setPoint cX7_setPoint 6 (some .int)) ({ frames := 2, cells := 0, slots := 0, locals := 43 } : Room)).room s m ([.ref (a 0), .int p1, .int p2] : List Value).toArray below meth c H locs 0 0 (MQ below (RI G K (fun u => md_W cy a u.1 mf u.2.1 u.2.2.1 mv mt u.2.2.2) A) ([.ref (a 0), .int p1, .int p2] : List Value).toArray s 0 0 A) (F0 m 121 ls []) := by
    intro mf mk mg mm x1 x2 x3 k_121
    induction k_121 with
    | zero => intro mn x5 h; exact h.elim
    | succ k_121 ih_121 =>
      intro mn x5 h H locs ls hP hD hS hl
      have h : vX7_setPoint_121b mf mk mg mm x1 x2 x3 K  (fun z0 z1 => lp (vX7_setPoint_121F mf mk mg mm x1 x2 x3 K ) k_121 (z0, z1)) mn x5 := h
      unfold vX7_setPoint_121b at h
      refine lv_iload hx hb dX7_setPoint_121 (lv_at hl 4 rfl) ?_
      refine lv_iconst (v := (2 : Int32)) hx hb dX7_setPoint_123 (by decide) ?_
      refine lv_iload_n hx hb dX7_setPoint_124 rfl (lv_at hl 3 rfl) ?_
      refine lv_imul hx hb dX7_setPoint_125 ?_
      refine lv_icmp_lt (tgt := 157) hx hb dX7_setPoint_126 (by decide) (fun c_126 => ?_) (fun c_126 => ?_)
      · have h := h.1 c_126
        refine lv_aload_n hx hb dX7_setPoint_157 rfl (lv_at hl 0 rfl) ?_
        refine kg (v := .ref (a 1)) S hE hP 0 rfl rfl 0 (by decide) q_4_13 rfl rfl inlX7 dX7_setPoint_158 ?_
        refine lv_bipush (v := (10 : Int32)) hx hb dX7_setPoint_161 (by decide) ?_
        refine lv_dup2_11 hx hb dX7_setPoint_163 rfl rfl ?_
        refine kail (v := (mn 10)) S hE hP 1 rfl (vi_10 (by decide)) tc_10 rfl dX7_setPoint_164 ?_
        refine lv_iconst (v := (1 : Int32)) hx hb dX7_setPoint_165 (by decide) ?_
        refine lv_iadd hx hb dX7_setPoint_166 ?_
        refine kais S hE hP hD hS 1 rfl (vi_10 (by decide)) tc_10 dX7_setPoint_167 (fun H locs hP hD hS => ?_)
        have hP : va_P G vwCl (md_W cy a (upd mn 10 ((mn 10) + (1 : Int32))) mf mk mg mv mt mm) H := hP
        have hD : va_D A (md_W cy a (upd mn 10 ((mn 10) + (1 : Int32))) mf mk mg mv mt mm) := hD
        exact J_168 _ _ _ _ _ _ _ _ h _ _ _ hP hD hS (lv_sub hl [0, 1, 2, 3] rfl)
      · have h := h.2 c_126
        refine lv_aload_n hx hb dX7_setPoint_129 rfl (lv_at hl 0 rfl) ?_
        refine kg (v := .ref (a 1)) S hE hP 0 rfl rfl 0 (by decide) q_4_13 rfl rfl inlX7 dX7_setPoint_130 ?_
        refine lv_bipush (v := (20 : Int32)) hx hb dX7_setPoint_133 (by decide) ?_
        refine lv_iload hx hb dX7_setPoint_135 (lv_at hl 4 rfl) ?_
        refine lv_iadd hx hb dX7_setPoint_137 ?_
        refine lv_iconst (v := (2 : Int32)) hx hb dX7_setPoint_138 (by decide) ?_
        refine lv_iadd hx hb dX7_setPoint_139 ?_
        refine lv_aload_n hx hb dX7_setPoint_140 rfl (lv_at hl 0 rfl) ?_
        refine kg (v := .ref (a 1)) S hE hP 0 rfl rfl 0 (by decide) q_4_13 rfl rfl inlX7 dX7_setPoint_141 ?_
        refine lv_bipush (v := (20 : Int32)) hx hb dX7_setPoint_144 (by decide) ?_
        refine lv_iload hx hb dX7_setPoint_146 (lv_at hl 4 rfl) ?_
        refine lv_iadd hx hb dX7_setPoint_148 ?_
        refine kail (v := (mn (Int32.toNatClampNeg ((20 : Int32) + x5)))) S hE hP 1 rfl h.1 rfl rfl dX7_setPoint_149 ?_
        have h := h.2
        refine kais S hE hP hD hS 1 rfl h.1 rfl dX7_setPoint_150 (fun H locs hP hD hS => ?_)
        have h := h.2
        have hP : va_P G vwCl (md_W cy a (upd mn (Int32.toNatClampNeg (((20 : Int32) + x5) + (2 : Int32))) (mn (Int32.toNatClampNeg ((20 : Int32) + x5)))) mf mk mg mv mt mm) H := hP
        have hD : va_D A (md_W cy a (upd mn (Int32.toNatClampNeg (((20 : Int32) + x5) + (2 : Int32))) (mn (Int32.toNatClampNeg ((20 : Int32) + x5)))) mf mk mg mv mt mm) := hD
        refine lv_iinc (v := (x5 + (-1 : Int32))) (lv' := [(5, .int (x5 + (-1 : Int32))), (0, .ref (a 0)), (1, .int x1), (2, .int x2), (3, .int x3)]) hx hb dX7_setPoint_151 hl (k := 4) rfl (by rfl) (by decide) rfl (fun ls hl => ?_)
        refine lv_goto (tgt := 121) hx hb dX7_setPoint_154 (by decide) ?_
        exact ih_121 _ _ h _ _ _ hP hD hS (lv_sub hl [1, 2, 3, 4, 0] rfl)
  have J_99 : ∀ (mn : Nat → Int32) (mf : Nat → UInt32) (mk : Nat → Int32) (mg : Nat → UInt32) (mm : Nat → Int32) (x1 : Int32) (x2 : Int32) (x3 : Int32) (x4 : Int32), vX7_setPoint_99 mn mf mk mg mm x1 x2 x3 x4 K  → ∀ (H : Heap) (locs : List Loc) (ls : Array Slot), va_P G vwCl (md_W cy a mn mf mk mg mv mt mm) H → va_D A (md_W cy a mn mf mk mg mv mt mm) → va_S A s.heap H locs → lv_has ls 6 [(0, .ref (a 0)), (1, .int x1), (2, .int x2), (3, .int x3), (4, .int x4)] → W p l e (headSpec (ws_ yX7_setPoint cX7_setPoint 6 (some .int)) ({ frames := 2, cells := 0, slots := 0, locals := 43 } : Room)).room s m ([.ref (a 0), .int p1, .int p2] : List Value).toArray below meth c H locs 0 0 (MQ below (RI G K (fun u => md_W cy a u.1 mf u.2.1 u.2.2.1 mv mt u.2.2.2) A) ([.ref (a 0), .int p1, .int p2] : List Value).toArray s 0 0 A) (F0 m 99 ls []) := by
    intro mn mf mk mg mm x1 x2 x3 x4 h H locs ls hP hD hS hl
    unfold vX7_setPoint_99 at h
    refine lv_aload_n hx hb dX7_setPoint_99 rfl (lv_at hl 0 rfl) ?_
    refine kc_Vv0 (As := []) (rest := []) S hE (ctX7_records l G cy a mn mf mk mg mv mt mm  _ h) q_8_20 q_8_21 q_8_22 q_1_5 q_8_23 rfl 0 rfl rfl ydX7_records ⟨⟨rfl, rfl⟩, ⟨Nat.le_of_ble_eq_true rfl, Nat.le_of_ble_eq_true rfl⟩⟩ ⟨Nat.zero_le _, Nat.zero_le _⟩ hP hD hS rfl hl.1 rfl (Nat.le_of_ble_eq_true rfl) dX7_setPoint_100 (fun u_100 H locs h hP hD hS => ?_)
    refine lv_iload hx hb dX7_setPoint_103 (lv_at hl 4 rfl) ?_
    refine lv_if_ne (tgt := 168) hx hb dX7_setPoint_105 (by decide) (fun c_105 => ?_) (fun c_105 => ?_)
    · have h := h.1 c_105
      exact J_168 _ _ _ _ _ _ _ _ h _ _ _ hP hD hS (lv_sub hl [0, 1, 2, 3] rfl)
    · have h := h.2 c_105
      refine lv_iconst (v := (2 : Int32)) hx hb dX7_setPoint_108 (by decide) ?_
      refine lv_aload_n hx hb dX7_setPoint_109 rfl (lv_at hl 0 rfl) ?_
      refine kg (v := .ref (a 1)) S hE hP 0 rfl rfl 0 (by decide) q_4_13 rfl rfl inlX7 dX7_setPoint_110 ?_
      refine lv_bipush (v := (10 : Int32)) hx hb dX7_setPoint_113 (by decide) ?_
      refine kail (v := (mn 10)) S hE hP 1 rfl (vi_10 (by decide)) tc_10 rfl dX7_setPoint_115 ?_
      refine lv_imul hx hb dX7_setPoint_116 ?_
      refine lv_iconst (v := (1 : Int32)) hx hb dX7_setPoint_117 (by decide) ?_
      refine lv_isub hx hb dX7_setPoint_118 ?_
      refine lv_istore (lv' := [(5, .int (((2 : Int32) * (mn 10)) - (1 : Int32))), (0, .ref (a 0)), (1, .int x1), (2, .int x2), (3, .int x3), (4, .int x4)]) hx hb dX7_setPoint_119 hl (by decide) rfl (fun ls hl => ?_)
      obtain ⟨k0, h⟩ := h
      exact L_121 _ _ _ _ _ _ _ k0 _ _ h _ _ _ hP hD hS (lv_sub hl [1, 2, 3, 4, 0] rfl)
  have J_77 : ∀ (mn : Nat → Int32) (mf : Nat → UInt32) (mk : Nat → Int32) (mg : Nat → UInt32) (mm : Nat → Int32) (x1 : Int32) (x2 : Int32) (x3 : Int32) (y0 : Int32), vX7_setPoint_77 mn mf mk mg mm x1 x2 x3 y0 K  → ∀ (H : Heap) (locs : List Loc) (ls : Array Slot), va_P G vwCl (md_W cy a mn mf mk mg mv mt mm) H → va_D A (md_W cy a mn mf mk mg mv mt mm) → va_S A s.heap H locs → lv_has ls 6 [(0, .ref (a 0)), (1, .int x1), (2, .int x2), (3, .int x3)] → W p l e (headSpec (ws_ yX7_setPoint cX7_setPoint 6 (some .int)) ({ frames := 2, cells := 0, slots := 0, locals := 43 } : Room)).room s m ([.ref (a 0), .int p1, .int p2] : List Value).toArray below meth c H locs 0 0 (MQ below (RI G K (fun u => md_W cy a u.1 mf u.2.1 u.2.2.1 mv mt u.2.2.2) A) ([.ref (a 0), .int p1, .int p2] : List Value).toArray s 0 0 A) (F0 m 77 ls [.int y0]) := by
    intro mn mf mk mg mm x1 x2 x3 y0 h H locs ls hP hD hS hl
    unfold vX7_setPoint_77 at h
    refine lv_istore (lv' := [(4, .int y0), (0, .ref (a 0)), (1, .int x1), (2, .int x2), (3, .int x3)]) hx hb dX7_setPoint_77 hl (by decide) rfl (fun ls hl => ?_)
    refine lv_iload hx hb dX7_setPoint_79 (lv_at hl 0 rfl) ?_
    refine lv_if_ne (tgt := 99) hx hb dX7_setPoint_81 (by decide) (fun c_81 => ?_) (fun c_81 => ?_)
    · have h := h.1 c_81
      exact J_99 _ _ _ _ _ _ _ _ _ h _ _ _ hP hD hS (lv_sub hl [1, 2, 3, 4, 0] rfl)
    · have h := h.2 c_81
      refine lv_aload_n hx hb dX7_setPoint_84 rfl (lv_at hl 1 rfl) ?_
      refine kg (v := .ref (a 1)) S hE hP 0 rfl rfl 0 (by decide) q_4_13 rfl rfl inlX7 dX7_setPoint_85 ?_
      refine lv_bipush (v := (10 : Int32)) hx hb dX7_setPoint_88 (by decide) ?_
      refine kail (v := (mn 10)) S hE hP 1 rfl (vi_10 (by decide)) tc_10 rfl dX7_setPoint_90 ?_
      refine lv_bipush (v := (6 : Int32)) hx hb dX7_setPoint_91 (by decide) ?_
      refine lv_icmp_ne (tgt := 99) hx hb dX7_setPoint_93 (by decide) (fun c_93 => ?_) (fun c_93 => ?_)
      · have h := h.1 c_93
        exact J_99 _ _ _ _ _ _ _ _ _ h _ _ _ hP hD hS (lv_sub hl [1, 2, 3, 4, 0] rfl)
      · have h := h.2 c_93
        refine lv_bipush (v := (-4 : Int32)) hx hb dX7_setPoint_96 (by decide) ?_
        exact W.iret (v := (-4 : Int32)) hx hb hr (fun t ht hW => ⟨⟨(-4 : Int32), (mn, mk, mg, mm), rfl, h, ⟨hp_at ht hP, hD⟩⟩, hS.F ht⟩) hS.2.2 dX7_setPoint_98
  have J_76 : ∀ (mn : Nat → Int32) (mf : Nat → UInt32) (mk : Nat → Int32) (mg : Nat → UInt32) (mm : Nat → Int32) (x1 : Int32) (x2 : Int32) (x3 : Int32), vX7_setPoint_76 mn mf mk mg mm x1 x2 x3 K  → ∀ (H : Heap) (locs : List Loc) (ls : Array Slot), va_P G vwCl (md_W cy a mn mf mk mg mv mt mm) H → va_D A (md_W cy a mn mf mk mg mv mt mm) → va_S A s.heap H locs → lv_has ls 6 [(0, .ref (a 0)), (1, .int x1), (2, .int x2), (3, .int x3)] → W p l e (headSpec (ws_ yX7_setPoint cX7_setPoint 6 (some .int)) ({ frames := 2, cells := 0, slots := 0, locals := 43 } : Room)).room s m ([.ref (a 0), .int p1, .int p2] : List Value).toArray below meth c H locs 0 0 (MQ below (RI G K (fun u => md_W cy a u.1 mf u.2.1 u.2.2.1 mv mt u.2.2.2) A) ([.ref (a 0), .int p1, .int p2] : List Value).toArray s 0 0 A) (F0 m 76 ls []) := by
    intro mn mf mk mg mm x1 x2 x3 h H locs ls hP hD hS hl
    unfold vX7_setPoint_76 at h
    refine lv_iconst (v := (0 : Int32)) hx hb dX7_setPoint_76 (by decide) ?_
    exact J_77 _ _ _ _ _ _ _ _ _ h _ _ _ hP hD hS (lv_sub hl [0, 1, 2, 3] rfl)
  have J_52 : ∀ (mn : Nat → Int32) (mf : Nat → UInt32) (mk : Nat → Int32) (mg : Nat → UInt32) (mm : Nat → Int32) (x1 : Int32) (x2 : Int32) (x3 : Int32), vX7_setPoint_52 mn mf mk mg mm x1 x2 x3 K  → ∀ (H : Heap) (locs : List Loc) (ls : Array Slot), va_P G vwCl (md_W cy a mn mf mk mg mv mt mm) H → va_D A (md_W cy a mn mf mk mg mv mt mm) → va_S A s.heap H locs → lv_has ls 6 [(0, .ref (a 0)), (1, .int x1), (2, .int x2), (3, .int x3)] → W p l e (headSpec (ws_ yX7_setPoint cX7_setPoint 6 (some .int)) ({ frames := 2, cells := 0, slots := 0, locals := 43 } : Room)).room s m ([.ref (a 0), .int p1, .int p2] : List Value).toArray below meth c H locs 0 0 (MQ below (RI G K (fun u => md_W cy a u.1 mf u.2.1 u.2.2.1 mv mt u.2.2.2) A) ([.ref (a 0), .int p1, .int p2] : List Value).toArray s 0 0 A) (F0 m 52 ls []) := by
    intro mn mf mk mg mm x1 x2 x3 h H locs ls hP hD hS hl
    unfold vX7_setPoint_52 at h
    refine lv_iload_n hx hb dX7_setPoint_52 rfl (lv_at hl 3 rfl) ?_
    refine lv_aload_n hx hb dX7_setPoint_53 rfl (lv_at hl 0 rfl) ?_
    refine kg (v := .ref (a 1)) S hE hP 0 rfl rfl 0 (by decide) q_4_13 rfl rfl inlX7 dX7_setPoint_54 ?_
    refine lv_bipush (v := (10 : Int32)) hx hb dX7_setPoint_57 (by decide) ?_
    refine kail (v := (mn 10)) S hE hP 1 rfl (vi_10 (by decide)) tc_10 rfl dX7_setPoint_59 ?_
    refine lv_icmp_ge (tgt := 76) hx hb dX7_setPoint_60 (by decide) (fun c_60 => ?_) (fun c_60 => ?_)
    · have h := h.1 c_60
      exact J_76 _ _ _ _ _ _ _ _ h _ _ _ hP hD hS (lv_sub hl [0, 1, 2, 3] rfl)
    · have h := h.2 c_60
      refine lv_aload_n hx hb dX7_setPoint_63 rfl (lv_at hl 0 rfl) ?_
      refine lv_iload_n hx hb dX7_setPoint_64 rfl (lv_at hl 3 rfl) ?_
      refine kc_Vi0 (As := [.int x3]) (rest := []) S hE (ctX7_distanceOf l G cy a mn mf mk mg mv mt mm x3 _ h) q_10_9 q_10_10 q_10_11 q_1_5 q_10_12 rfl 0 rfl rfl ydX7_distanceOf ⟨⟨rfl, rfl⟩, ⟨Nat.le_of_ble_eq_true rfl, Nat.le_of_ble_eq_true rfl⟩⟩ ⟨Nat.zero_le _, Nat.zero_le _⟩ hP hD hS rfl hl.1 rfl (Nat.le_of_ble_eq_true rfl) dX7_setPoint_65 (fun r_65 u_65 H locs h hP hD hS => ?_)
      refine lv_iload_n hx hb dX7_setPoint_68 rfl (lv_at hl 1 rfl) ?_
      refine lv_icmp_ne (tgt := 76) hx hb dX7_setPoint_69 (by decide) (fun c_69 => ?_) (fun c_69 => ?_)
      · have h := h.1 c_69
        exact J_76 _ _ _ _ _ _ _ _ h _ _ _ hP hD hS (lv_sub hl [0, 1, 2, 3] rfl)
      · have h := h.2 c_69
        refine lv_iconst (v := (1 : Int32)) hx hb dX7_setPoint_72 (by decide) ?_
        refine lv_goto (tgt := 77) hx hb dX7_setPoint_73 (by decide) ?_
        exact J_77 _ _ _ _ _ _ _ _ _ h _ _ _ hP hD hS (lv_sub hl [0, 1, 2, 3] rfl)
  have L_26 : ∀ (mn : Nat → Int32) (mf : Nat → UInt32) (mk : Nat → Int32) (mg : Nat → UInt32) (mm : Nat → Int32) (x1 : Int32) (x2 : Int32) (k_26 : Nat) (x3 : Int32), lp (vX7_setPoint_26F mn mf mk mg mm x1 x2 K ) k_26 x3 → ∀ (H : Heap) (locs : List Loc) (ls : Array Slot), va_P G vwCl (md_W cy a mn mf mk mg mv mt mm) H → va_D A (md_W cy a mn mf mk mg mv mt mm) → va_S A s.heap H locs → lv_has ls 6 [(0, .ref (a 0)), (1, .int x1), (2, .int x2), (3, .int x3)] → W p l e (headSpec (ws_ yX7_setPoint cX7_setPoint 6 (some .int)) ({ frames := 2, cells := 0, slots := 0, locals := 43 } : Room)).room s m ([.ref (a 0), .int p1, .int p2] : List Value).toArray below meth c H locs 0 0 (MQ below (RI G K (fun u => md_W cy a u.1 mf u.2.1 u.2.2.1 mv mt u.2.2.2) A) ([.ref (a 0), .int p1, .int p2] : List Value).toArray s 0 0 A) (F0 m 26 ls []) := by
    intro mn mf mk mg mm x1 x2 k_26
    induction k_26 with
    | zero => intro x3 h; exact h.elim
    | succ k_26 ih_26 =>
      intro x3 h H locs ls hP hD hS hl
      have h : vX7_setPoint_26b mn mf mk mg mm x1 x2 K  (fun z0 => lp (vX7_setPoint_26F mn mf mk mg mm x1 x2 K ) k_26 z0) x3 := h
      unfold vX7_setPoint_26b at h
      refine lv_iload_n hx hb dX7_setPoint_26 rfl (lv_at hl 3 rfl) ?_
      refine lv_aload_n hx hb dX7_setPoint_27 rfl (lv_at hl 0 rfl) ?_
      refine kg (v := .ref (a 1)) S hE hP 0 rfl rfl 0 (by decide) q_4_13 rfl rfl inlX7 dX7_setPoint_28 ?_
      refine lv_bipush (v := (10 : Int32)) hx hb dX7_setPoint_31 (by decide) ?_
      refine kail (v := (mn 10)) S hE hP 1 rfl (vi_10 (by decide)) tc_10 rfl dX7_setPoint_33 ?_
      refine lv_icmp_ge (tgt := 52) hx hb dX7_setPoint_34 (by decide) (fun c_34 => ?_) (fun c_34 => ?_)
      · have h := h.1 c_34
        exact J_52 _ _ _ _ _ _ _ _ h _ _ _ hP hD hS (lv_sub hl [0, 1, 2, 3] rfl)
      · have h := h.2 c_34
        refine lv_aload_n hx hb dX7_setPoint_37 rfl (lv_at hl 0 rfl) ?_
        refine lv_iload_n hx hb dX7_setPoint_38 rfl (lv_at hl 3 rfl) ?_
        refine kc_Vi0 (As := [.int x3]) (rest := []) S hE (ctX7_distanceOf l G cy a mn mf mk mg mv mt mm x3 _ h) q_10_9 q_10_10 q_10_11 q_1_5 q_10_12 rfl 0 rfl rfl ydX7_distanceOf ⟨⟨rfl, rfl⟩, ⟨Nat.le_of_ble_eq_true rfl, Nat.le_of_ble_eq_true rfl⟩⟩ ⟨Nat.zero_le _, Nat.zero_le _⟩ hP hD hS rfl hl.1 rfl (Nat.le_of_ble_eq_true rfl) dX7_setPoint_39 (fun r_39 u_39 H locs h hP hD hS => ?_)
        refine lv_iload_n hx hb dX7_setPoint_42 rfl (lv_at hl 1 rfl) ?_
        refine lv_icmp_ge (tgt := 52) hx hb dX7_setPoint_43 (by decide) (fun c_43 => ?_) (fun c_43 => ?_)
        · have h := h.1 c_43
          exact J_52 _ _ _ _ _ _ _ _ h _ _ _ hP hD hS (lv_sub hl [0, 1, 2, 3] rfl)
        · have h := h.2 c_43
          refine lv_iinc (v := (x3 + (1 : Int32))) (lv' := [(3, .int (x3 + (1 : Int32))), (0, .ref (a 0)), (1, .int x1), (2, .int x2)]) hx hb dX7_setPoint_46 hl (k := 3) rfl (by rfl) (by decide) rfl (fun ls hl => ?_)
          refine lv_goto (tgt := 26) hx hb dX7_setPoint_49 (by decide) ?_
          exact ih_26 _ h _ _ _ hP hD hS (lv_sub hl [1, 2, 3, 0] rfl)
  refine lv_iload_n hx hb dX7_setPoint_0 rfl (lv_at hl 1 rfl) ?_
  refine lv_iconst (v := (0 : Int32)) hx hb dX7_setPoint_1 (by decide) ?_
  refine lv_ldc hx hb S.2.2.2.1 (S.2.2.2.2 _ q_8_15) dX7_setPoint_2 ?_
  refine kc_SiE (As := [.int p1, .int (0 : Int32), .int (100000 : Int32)]) (rest := []) S hE (ctX7_isIn l G cy   p1 (0 : Int32) (100000 : Int32) _ h) q_8_17 q_8_18 q_1_5 q_8_19 ydX7_isIn ⟨⟨rfl, rfl⟩, ⟨Nat.le_of_ble_eq_true rfl, Nat.le_of_ble_eq_true rfl⟩⟩ ⟨Nat.zero_le _, Nat.zero_le _⟩ hP hD hS (fun _ => rfl) rfl hl.1 rfl (Nat.le_of_ble_eq_true rfl) dX7_setPoint_4 (fun r_4 u_4 H locs h hP hD hS => ?_)
  refine lv_if_eq (tgt := 21) hx hb dX7_setPoint_7 (by decide) (fun c_7 => ?_) (fun c_7 => ?_)
  · have h := h.1 c_7
    refine lv_bipush (v := (-2 : Int32)) hx hb dX7_setPoint_21 (by decide) ?_
    exact W.iret (v := (-2 : Int32)) hx hb hr (fun t ht hW => ⟨⟨(-2 : Int32), (mn, mk, mg, mm), rfl, h, ⟨hp_at ht hP, hD⟩⟩, hS.F ht⟩) hS.2.2 dX7_setPoint_23
  · have h := h.2 c_7
    refine lv_iload_n hx hb dX7_setPoint_10 rfl (lv_at hl 2 rfl) ?_
    refine lv_iconst (v := (1 : Int32)) hx hb dX7_setPoint_11 (by decide) ?_
    refine lv_sipush (v := (5000 : Int32)) hx hb dX7_setPoint_12 (by decide) ?_
    refine kc_SiE (As := [.int p2, .int (1 : Int32), .int (5000 : Int32)]) (rest := []) S hE (ctX7_isIn l G cy   p2 (1 : Int32) (5000 : Int32) _ h) q_8_17 q_8_18 q_1_5 q_8_19 ydX7_isIn ⟨⟨rfl, rfl⟩, ⟨Nat.le_of_ble_eq_true rfl, Nat.le_of_ble_eq_true rfl⟩⟩ ⟨Nat.zero_le _, Nat.zero_le _⟩ hP hD hS (fun _ => rfl) rfl hl.1 rfl (Nat.le_of_ble_eq_true rfl) dX7_setPoint_15 (fun r_15 u_15 H locs h hP hD hS => ?_)
    refine lv_if_ne (tgt := 24) hx hb dX7_setPoint_18 (by decide) (fun c_18 => ?_) (fun c_18 => ?_)
    · have h := h.1 c_18
      refine lv_iconst (v := (0 : Int32)) hx hb dX7_setPoint_24 (by decide) ?_
      refine lv_istore_n (lv' := [(3, .int (0 : Int32)), (0, .ref (a 0)), (1, .int p1), (2, .int p2)]) hx hb dX7_setPoint_25 rfl hl (by decide) rfl (fun ls hl => ?_)
      obtain ⟨k0, h⟩ := h
      exact L_26 _ _ _ _ _ _ _ k0 _ h _ _ _ hP hD hS (lv_sub hl [1, 2, 3, 0] rfl)
    · have h := h.2 c_18
      refine lv_bipush (v := (-2 : Int32)) hx hb dX7_setPoint_21 (by decide) ?_
      exact W.iret (v := (-2 : Int32)) hx hb hr (fun t ht hW => ⟨⟨(-2 : Int32), (mn, mk, mg, mm), rfl, h, ⟨hp_at ht hP, hD⟩⟩, hS.F ht⟩) hS.2.2 dX7_setPoint_23
def vX7_addStop (mn : Nat → Int32) (mf : Nat → UInt32) (mk : Nat → Int32) (mg : Nat → UInt32) (mm : Nat → Int32) (p1 : Int32) (K : Int32 → ((Nat → Int32) × (Nat → Int32) × (Nat → UInt32) × (Nat → Int32)) → Prop) : Prop :=
  vX7_isIn p1 (1 : Int32) (100000 : Int32) (fun r_4 u_4 => (¬ r_4 = (0 : Int32) → (¬ (mn 11) = (4 : Int32) → vX7_records mn mf mk mg mm (fun u_28 => vp_in ((32 : Int32) + ((2 : Int32) * (mn 11))) 40 ∧ vp_in (((32 : Int32) + ((2 : Int32) * ((upd mn (Int32.toNatClampNeg ((32 : Int32) + ((2 : Int32) * (mn 11)))) p1) 11))) + (1 : Int32)) 40 ∧ K ((((upd (upd mn (Int32.toNatClampNeg ((32 : Int32) + ((2 : Int32) * (mn 11)))) p1) (Int32.toNatClampNeg (((32 : Int32) + ((2 : Int32) * ((upd mn (Int32.toNatClampNeg ((32 : Int32) + ((2 : Int32) * (mn 11)))) p1) 11))) + (1 : Int32))) (0 : Int32)) 11) + (1 : Int32)) - (1 : Int32)) ((upd (upd (upd mn (Int32.toNatClampNeg ((32 : Int32) + ((2 : Int32) * (mn 11)))) p1) (Int32.toNatClampNeg (((32 : Int32) + ((2 : Int32) * ((upd mn (Int32.toNatClampNeg ((32 : Int32) + ((2 : Int32) * (mn 11)))) p1) 11))) + (1 : Int32))) (0 : Int32)) 11 (((upd (upd mn (Int32.toNatClampNeg ((32 : Int32) + ((2 : Int32) * (mn 11)))) p1) (Int32.toNatClampNeg (((32 : Int32) + ((2 : Int32) * ((upd mn (Int32.toNatClampNeg ((32 : Int32) + ((2 : Int32) * (mn 11)))) p1) 11))) + (1 : Int32))) (0 : Int32)) 11) + (1 : Int32))), u_28.1, u_28.2.1, u_28.2.2))) ∧ ((mn 11) = (4 : Int32) → K (-4 : Int32) (mn, mk, mg, mm))) ∧ (r_4 = (0 : Int32) → K (-2 : Int32) (mn, mk, mg, mm)))
set_option maxRecDepth 100000 in
set_option maxHeartbeats 4000000 in
theorem ctX7_addStop (l : Launch) (G : va_G) (cy : Nat → ClassId) (a : Nat → Nat) (mn : Nat → Int32) (mf : Nat → UInt32) (mk : Nat → Int32) (mg : Nat → UInt32) (mv : Nat → Int32) (mt : Nat → Int32) (mm : Nat → Int32) (p1 : Int32) (K : Int32 → ((Nat → Int32) × (Nat → Int32) × (Nat → UInt32) × (Nat → Int32)) → Prop) (h : vX7_addStop mn mf mk mg mm p1 K) : Met l yX7_addStop (ws_ yX7_addStop cX7_addStop 2 (some .int)) ({ frames := 2, cells := 0, slots := 0, locals := 43 } : Room) (CP G cy [.ref (a 0), .int p1] (md_W cy a mn mf mk mg mv mt mm)) (RI G K (fun u => md_W cy a u.1 mf u.2.1 u.2.2.1 mv mt u.2.2.2) (A1 (md_W cy a mn mf mk mg mv mt mm))) 0 0 (A1 (md_W cy a mn mf mk mg mv mt mm)) := by
  refine hd_go (Qf := fun A => (RI G K (fun u => md_W cy a u.1 mf u.2.1 u.2.2.1 mv mt u.2.2.2) A)) (by decide +kernel) (Nat.le_of_ble_eq_true rfl) ?_
  intro p e s m below meth c ls A hx hb hr hlocks S hE hP hD hS hl
  have hl : lv_has ls 2 [(0, .ref (a 0)), (1, .int p1)] := hl
  unfold vX7_addStop at h
  refine lv_iload_n hx hb dX7_addStop_0 rfl (lv_at hl 1 rfl) ?_
  refine lv_iconst (v := (1 : Int32)) hx hb dX7_addStop_1 (by decide) ?_
  refine lv_ldc hx hb S.2.2.2.1 (S.2.2.2.2 _ q_8_15) dX7_addStop_2 ?_
  refine kc_SiE (As := [.int p1, .int (1 : Int32), .int (100000 : Int32)]) (rest := []) S hE (ctX7_isIn l G cy   p1 (1 : Int32) (100000 : Int32) _ h) q_8_17 q_8_18 q_1_5 q_8_19 ydX7_isIn ⟨⟨rfl, rfl⟩, ⟨Nat.le_of_ble_eq_true rfl, Nat.le_of_ble_eq_true rfl⟩⟩ ⟨Nat.zero_le _, Nat.zero_le _⟩ hP hD hS (fun _ => rfl) rfl hl.1 rfl (Nat.le_of_ble_eq_true rfl) dX7_addStop_4 (fun r_4 u_4 H locs h hP hD hS => ?_)
  refine lv_if_ne (tgt := 13) hx hb dX7_addStop_7 (by decide) (fun c_7 => ?_) (fun c_7 => ?_)
  · have h := h.1 c_7
    refine lv_aload_n hx hb dX7_addStop_13 rfl (lv_at hl 0 rfl) ?_
    refine kg (v := .ref (a 1)) S hE hP 0 rfl rfl 0 (by decide) q_4_13 rfl rfl inlX7 dX7_addStop_14 ?_
    refine lv_bipush (v := (11 : Int32)) hx hb dX7_addStop_17 (by decide) ?_
    refine kail (v := (mn 11)) S hE hP 1 rfl (vi_11 (by decide)) tc_11 rfl dX7_addStop_19 ?_
    refine lv_iconst (v := (4 : Int32)) hx hb dX7_addStop_20 (by decide) ?_
    refine lv_icmp_ne (tgt := 27) hx hb dX7_addStop_21 (by decide) (fun c_21 => ?_) (fun c_21 => ?_)
    · have h := h.1 c_21
      refine lv_aload_n hx hb dX7_addStop_27 rfl (lv_at hl 0 rfl) ?_
      refine kc_Vv0 (As := []) (rest := []) S hE (ctX7_records l G cy a mn mf mk mg mv mt mm  _ h) q_8_20 q_8_21 q_8_22 q_1_5 q_8_23 rfl 0 rfl rfl ydX7_records ⟨⟨rfl, rfl⟩, ⟨Nat.le_of_ble_eq_true rfl, Nat.le_of_ble_eq_true rfl⟩⟩ ⟨Nat.zero_le _, Nat.zero_le _⟩ hP hD hS rfl hl.1 rfl (Nat.le_of_ble_eq_true rfl) dX7_addStop_28 (fun u_28 H locs h hP hD hS => ?_)
      refine lv_aload_n hx hb dX7_addStop_31 rfl (lv_at hl 0 rfl) ?_
      refine kg (v := .ref (a 1)) S hE hP 0 rfl rfl 0 (by decide) q_4_13 rfl rfl inlX7 dX7_addStop_32 ?_
      refine lv_bipush (v := (32 : Int32)) hx hb dX7_addStop_35 (by decide) ?_
      refine lv_iconst (v := (2 : Int32)) hx hb dX7_addStop_37 (by decide) ?_
      refine lv_aload_n hx hb dX7_addStop_38 rfl (lv_at hl 0 rfl) ?_
      refine kg (v := .ref (a 1)) S hE hP 0 rfl rfl 0 (by decide) q_4_13 rfl rfl inlX7 dX7_addStop_39 ?_
      refine lv_bipush (v := (11 : Int32)) hx hb dX7_addStop_42 (by decide) ?_
      refine kail (v := (mn 11)) S hE hP 1 rfl (vi_11 (by decide)) tc_11 rfl dX7_addStop_44 ?_
      refine lv_imul hx hb dX7_addStop_45 ?_
      refine lv_iadd hx hb dX7_addStop_46 ?_
      refine lv_iload_n hx hb dX7_addStop_47 rfl (lv_at hl 1 rfl) ?_
      refine kais S hE hP hD hS 1 rfl h.1 rfl dX7_addStop_48 (fun H locs hP hD hS => ?_)
      have h := h.2
      have hP : va_P G vwCl (md_W cy a (upd mn (Int32.toNatClampNeg ((32 : Int32) + ((2 : Int32) * (mn 11)))) p1) mf u_28.1 u_28.2.1 mv mt u_28.2.2) H := hP
      have hD : va_D A (md_W cy a (upd mn (Int32.toNatClampNeg ((32 : Int32) + ((2 : Int32) * (mn 11)))) p1) mf u_28.1 u_28.2.1 mv mt u_28.2.2) := hD
      refine lv_aload_n hx hb dX7_addStop_49 rfl (lv_at hl 0 rfl) ?_
      refine kg (v := .ref (a 1)) S hE hP 0 rfl rfl 0 (by decide) q_4_13 rfl rfl inlX7 dX7_addStop_50 ?_
      refine lv_bipush (v := (32 : Int32)) hx hb dX7_addStop_53 (by decide) ?_
      refine lv_iconst (v := (2 : Int32)) hx hb dX7_addStop_55 (by decide) ?_
      refine lv_aload_n hx hb dX7_addStop_56 rfl (lv_at hl 0 rfl) ?_
      refine kg (v := .ref (a 1)) S hE hP 0 rfl rfl 0 (by decide) q_4_13 rfl rfl inlX7 dX7_addStop_57 ?_
      refine lv_bipush (v := (11 : Int32)) hx hb dX7_addStop_60 (by decide) ?_
      refine kail (v := ((upd mn (Int32.toNatClampNeg ((32 : Int32) + ((2 : Int32) * (mn 11)))) p1) 11)) S hE hP 1 rfl (vi_11 (by decide)) tc_11 rfl dX7_addStop_62 ?_
      refine lv_imul hx hb dX7_addStop_63 ?_
      refine lv_iadd hx hb dX7_addStop_64 ?_
      refine lv_iconst (v := (1 : Int32)) hx hb dX7_addStop_65 (by decide) ?_
      refine lv_iadd hx hb dX7_addStop_66 ?_
      refine lv_iconst (v := (0 : Int32)) hx hb dX7_addStop_67 (by decide) ?_
      refine kais S hE hP hD hS 1 rfl h.1 rfl dX7_addStop_68 (fun H locs hP hD hS => ?_)
      have h := h.2
      have hP : va_P G vwCl (md_W cy a (upd (upd mn (Int32.toNatClampNeg ((32 : Int32) + ((2 : Int32) * (mn 11)))) p1) (Int32.toNatClampNeg (((32 : Int32) + ((2 : Int32) * ((upd mn (Int32.toNatClampNeg ((32 : Int32) + ((2 : Int32) * (mn 11)))) p1) 11))) + (1 : Int32))) (0 : Int32)) mf u_28.1 u_28.2.1 mv mt u_28.2.2) H := hP
      have hD : va_D A (md_W cy a (upd (upd mn (Int32.toNatClampNeg ((32 : Int32) + ((2 : Int32) * (mn 11)))) p1) (Int32.toNatClampNeg (((32 : Int32) + ((2 : Int32) * ((upd mn (Int32.toNatClampNeg ((32 : Int32) + ((2 : Int32) * (mn 11)))) p1) 11))) + (1 : Int32))) (0 : Int32)) mf u_28.1 u_28.2.1 mv mt u_28.2.2) := hD
      refine lv_aload_n hx hb dX7_addStop_69 rfl (lv_at hl 0 rfl) ?_
      refine kg (v := .ref (a 1)) S hE hP 0 rfl rfl 0 (by decide) q_4_13 rfl rfl inlX7 dX7_addStop_70 ?_
      refine lv_bipush (v := (11 : Int32)) hx hb dX7_addStop_73 (by decide) ?_
      refine lv_dup2_11 hx hb dX7_addStop_75 rfl rfl ?_
      refine kail (v := ((upd (upd mn (Int32.toNatClampNeg ((32 : Int32) + ((2 : Int32) * (mn 11)))) p1) (Int32.toNatClampNeg (((32 : Int32) + ((2 : Int32) * ((upd mn (Int32.toNatClampNeg ((32 : Int32) + ((2 : Int32) * (mn 11)))) p1) 11))) + (1 : Int32))) (0 : Int32)) 11)) S hE hP 1 rfl (vi_11 (by decide)) tc_11 rfl dX7_addStop_76 ?_
      refine lv_iconst (v := (1 : Int32)) hx hb dX7_addStop_77 (by decide) ?_
      refine lv_iadd hx hb dX7_addStop_78 ?_
      refine kais S hE hP hD hS 1 rfl (vi_11 (by decide)) tc_11 dX7_addStop_79 (fun H locs hP hD hS => ?_)
      have hP : va_P G vwCl (md_W cy a (upd (upd (upd mn (Int32.toNatClampNeg ((32 : Int32) + ((2 : Int32) * (mn 11)))) p1) (Int32.toNatClampNeg (((32 : Int32) + ((2 : Int32) * ((upd mn (Int32.toNatClampNeg ((32 : Int32) + ((2 : Int32) * (mn 11)))) p1) 11))) + (1 : Int32))) (0 : Int32)) 11 (((upd (upd mn (Int32.toNatClampNeg ((32 : Int32) + ((2 : Int32) * (mn 11)))) p1) (Int32.toNatClampNeg (((32 : Int32) + ((2 : Int32) * ((upd mn (Int32.toNatClampNeg ((32 : Int32) + ((2 : Int32) * (mn 11)))) p1) 11))) + (1 : Int32))) (0 : Int32)) 11) + (1 : Int32))) mf u_28.1 u_28.2.1 mv mt u_28.2.2) H := hP
      have hD : va_D A (md_W cy a (upd (upd (upd mn (Int32.toNatClampNeg ((32 : Int32) + ((2 : Int32) * (mn 11)))) p1) (Int32.toNatClampNeg (((32 : Int32) + ((2 : Int32) * ((upd mn (Int32.toNatClampNeg ((32 : Int32) + ((2 : Int32) * (mn 11)))) p1) 11))) + (1 : Int32))) (0 : Int32)) 11 (((upd (upd mn (Int32.toNatClampNeg ((32 : Int32) + ((2 : Int32) * (mn 11)))) p1) (Int32.toNatClampNeg (((32 : Int32) + ((2 : Int32) * ((upd mn (Int32.toNatClampNeg ((32 : Int32) + ((2 : Int32) * (mn 11)))) p1) 11))) + (1 : Int32))) (0 : Int32)) 11) + (1 : Int32))) mf u_28.1 u_28.2.1 mv mt u_28.2.2) := hD
      refine lv_aload_n hx hb dX7_addStop_80 rfl (lv_at hl 0 rfl) ?_
      refine kg (v := .ref (a 1)) S hE hP 0 rfl rfl 0 (by decide) q_4_13 rfl rfl inlX7 dX7_addStop_81 ?_
      refine lv_bipush (v := (11 : Int32)) hx hb dX7_addStop_84 (by decide) ?_
      refine kail (v := (((upd (upd mn (Int32.toNatClampNeg ((32 : Int32) + ((2 : Int32) * (mn 11)))) p1) (Int32.toNatClampNeg (((32 : Int32) + ((2 : Int32) * ((upd mn (Int32.toNatClampNeg ((32 : Int32) + ((2 : Int32) * (mn 11)))) p1) 11))) + (1 : Int32))) (0 : Int32)) 11) + (1 : Int32))) S hE hP 1 rfl (vi_11 (by decide)) tc_11 rfl dX7_addStop_86 ?_
      refine lv_iconst (v := (1 : Int32)) hx hb dX7_addStop_87 (by decide) ?_
      refine lv_isub hx hb dX7_addStop_88 ?_
      exact W.iret (v := ((((upd (upd mn (Int32.toNatClampNeg ((32 : Int32) + ((2 : Int32) * (mn 11)))) p1) (Int32.toNatClampNeg (((32 : Int32) + ((2 : Int32) * ((upd mn (Int32.toNatClampNeg ((32 : Int32) + ((2 : Int32) * (mn 11)))) p1) 11))) + (1 : Int32))) (0 : Int32)) 11) + (1 : Int32)) - (1 : Int32))) hx hb hr (fun t ht hW => ⟨⟨((((upd (upd mn (Int32.toNatClampNeg ((32 : Int32) + ((2 : Int32) * (mn 11)))) p1) (Int32.toNatClampNeg (((32 : Int32) + ((2 : Int32) * ((upd mn (Int32.toNatClampNeg ((32 : Int32) + ((2 : Int32) * (mn 11)))) p1) 11))) + (1 : Int32))) (0 : Int32)) 11) + (1 : Int32)) - (1 : Int32)), ((upd (upd (upd mn (Int32.toNatClampNeg ((32 : Int32) + ((2 : Int32) * (mn 11)))) p1) (Int32.toNatClampNeg (((32 : Int32) + ((2 : Int32) * ((upd mn (Int32.toNatClampNeg ((32 : Int32) + ((2 : Int32) * (mn 11)))) p1) 11))) + (1 : Int32))) (0 : Int32)) 11 (((upd (upd mn (Int32.toNatClampNeg ((32 : Int32) + ((2 : Int32) * (mn 11)))) p1) (Int32.toNatClampNeg (((32 : Int32) + ((2 : Int32) * ((upd mn (Int32.toNatClampNeg ((32 : Int32) + ((2 : Int32) * (mn 11)))) p1) 11))) + (1 : Int32))) (0 : Int32)) 11) + (1 : Int32))), u_28.1, u_28.2.1, u_28.2.2), rfl, h, ⟨hp_at ht hP, hD⟩⟩, hS.F ht⟩) hS.2.2 dX7_addStop_89
    · have h := h.2 c_21
      refine lv_bipush (v := (-4 : Int32)) hx hb dX7_addStop_24 (by decide) ?_
      exact W.iret (v := (-4 : Int32)) hx hb hr (fun t ht hW => ⟨⟨(-4 : Int32), (mn, mk, mg, mm), rfl, h, ⟨hp_at ht hP, hD⟩⟩, hS.F ht⟩) hS.2.2 dX7_addStop_26
  · have h := h.2 c_7
    refine lv_bipush (v := (-2 : Int32)) hx hb dX7_addStop_10 (by decide) ?_
    exact W.iret (v := (-2 : Int32)) hx hb hr (fun t ht hW => ⟨⟨(-2 : Int32), (mn, mk, mg, mm), rfl, h, ⟨hp_at ht hP, hD⟩⟩, hS.F ht⟩) hS.2.2 dX7_addStop_12
def vX7_setBias_54 (mn : Nat → Int32) (mf : Nat → UInt32) (mk : Nat → Int32) (mg : Nat → UInt32) (mm : Nat → Int32) (y0 : Int32) (y1 : Int32) (K : Int32 → ((Nat → Int32) × (Nat → Int32) × (Nat → UInt32) × (Nat → Int32)) → Prop)  : Prop :=
  (¬ y0 = y1 → K (0 : Int32) (mn, mk, mg, mm)) ∧ (y0 = y1 → K (1 : Int32) (mn, mk, mg, mm))
def vX7_setBias_35 (mn : Nat → Int32) (mf : Nat → UInt32) (mk : Nat → Int32) (mg : Nat → UInt32) (mm : Nat → Int32) (x1 : Int32) (x2 : Int32) (y1 : Int32) (y2 : Int32) (K : Int32 → ((Nat → Int32) × (Nat → Int32) × (Nat → UInt32) × (Nat → Int32)) → Prop)  : Prop :=
  vp_in (y1 + y2) 40 ∧ (¬ ((upd mn (Int32.toNatClampNeg (y1 + y2)) x2) 4) = (1 : Int32) → vX7_setBias_54 (upd mn (Int32.toNatClampNeg (y1 + y2)) x2) mf mk mg mm x1 (0 : Int32) K ) ∧ (((upd mn (Int32.toNatClampNeg (y1 + y2)) x2) 4) = (1 : Int32) → vX7_setBias_54 (upd mn (Int32.toNatClampNeg (y1 + y2)) x2) mf mk mg mm x1 (1 : Int32) K )
def vX7_setBias (mn : Nat → Int32) (mf : Nat → UInt32) (mk : Nat → Int32) (mg : Nat → UInt32) (mm : Nat → Int32) (p1 : Int32) (p2 : Int32) (K : Int32 → ((Nat → Int32) × (Nat → Int32) × (Nat → UInt32) × (Nat → Int32)) → Prop) : Prop :=
  vX7_isIn p2 (-500 : Int32) (500 : Int32) (fun r_7 u_7 => (¬ r_7 = (0 : Int32) → vX7_records mn mf mk mg mm (fun u_17 => (p1 = (0 : Int32) → vX7_setBias_35 mn mf u_17.1 u_17.2.1 u_17.2.2 p1 p2 (6 : Int32) (0 : Int32) K ) ∧ (¬ p1 = (0 : Int32) → vX7_setBias_35 mn mf u_17.1 u_17.2.1 u_17.2.2 p1 p2 (6 : Int32) (1 : Int32) K ))) ∧ (r_7 = (0 : Int32) → K (-2 : Int32) (mn, mk, mg, mm)))
set_option maxRecDepth 100000 in
set_option maxHeartbeats 4000000 in
theorem ctX7_setBias (l : Launch) (G : va_G) (cy : Nat → ClassId) (a : Nat → Nat) (mn : Nat → Int32) (mf : Nat → UInt32) (mk : Nat → Int32) (mg : Nat → UInt32) (mv : Nat → Int32) (mt : Nat → Int32) (mm : Nat → Int32) (p1 : Int32) (p2 : Int32) (K : Int32 → ((Nat → Int32) × (Nat → Int32) × (Nat → UInt32) × (Nat → Int32)) → Prop) (h : vX7_setBias mn mf mk mg mm p1 p2 K) : Met l yX7_setBias (ws_ yX7_setBias cX7_setBias 3 (some .int)) ({ frames := 2, cells := 0, slots := 0, locals := 43 } : Room) (CP G cy [.ref (a 0), .int p1, .int p2] (md_W cy a mn mf mk mg mv mt mm)) (RI G K (fun u => md_W cy a u.1 mf u.2.1 u.2.2.1 mv mt u.2.2.2) (A1 (md_W cy a mn mf mk mg mv mt mm))) 0 0 (A1 (md_W cy a mn mf mk mg mv mt mm)) := by
  refine hd_go (Qf := fun A => (RI G K (fun u => md_W cy a u.1 mf u.2.1 u.2.2.1 mv mt u.2.2.2) A)) (by decide +kernel) (Nat.le_of_ble_eq_true rfl) ?_
  intro p e s m below meth c ls A hx hb hr hlocks S hE hP hD hS hl
  have hl : lv_has ls 3 [(0, .ref (a 0)), (1, .int p1), (2, .int p2)] := hl
  unfold vX7_setBias at h
  have J_54 : ∀ (mn : Nat → Int32) (mf : Nat → UInt32) (mk : Nat → Int32) (mg : Nat → UInt32) (mm : Nat → Int32) (y0 : Int32) (y1 : Int32), vX7_setBias_54 mn mf mk mg mm y0 y1 K  → ∀ (H : Heap) (locs : List Loc) (ls : Array Slot), va_P G vwCl (md_W cy a mn mf mk mg mv mt mm) H → va_D A (md_W cy a mn mf mk mg mv mt mm) → va_S A s.heap H locs → lv_has ls 3 [] → W p l e (headSpec (ws_ yX7_setBias cX7_setBias 3 (some .int)) ({ frames := 2, cells := 0, slots := 0, locals := 43 } : Room)).room s m ([.ref (a 0), .int p1, .int p2] : List Value).toArray below meth c H locs 0 0 (MQ below (RI G K (fun u => md_W cy a u.1 mf u.2.1 u.2.2.1 mv mt u.2.2.2) A) ([.ref (a 0), .int p1, .int p2] : List Value).toArray s 0 0 A) (F0 m 54 ls [.int y1, .int y0]) := by
    intro mn mf mk mg mm y0 y1 h H locs ls hP hD hS hl
    unfold vX7_setBias_54 at h
    refine lv_icmp_ne (tgt := 61) hx hb dX7_setBias_54 (by decide) (fun c_54 => ?_) (fun c_54 => ?_)
    · have h := h.1 c_54
      refine lv_iconst (v := (0 : Int32)) hx hb dX7_setBias_61 (by decide) ?_
      exact W.iret (v := (0 : Int32)) hx hb hr (fun t ht hW => ⟨⟨(0 : Int32), (mn, mk, mg, mm), rfl, h, ⟨hp_at ht hP, hD⟩⟩, hS.F ht⟩) hS.2.2 dX7_setBias_62
    · have h := h.2 c_54
      refine lv_iconst (v := (1 : Int32)) hx hb dX7_setBias_57 (by decide) ?_
      refine lv_goto (tgt := 62) hx hb dX7_setBias_58 (by decide) ?_
      exact W.iret (v := (1 : Int32)) hx hb hr (fun t ht hW => ⟨⟨(1 : Int32), (mn, mk, mg, mm), rfl, h, ⟨hp_at ht hP, hD⟩⟩, hS.F ht⟩) hS.2.2 dX7_setBias_62
  have J_35 : ∀ (mn : Nat → Int32) (mf : Nat → UInt32) (mk : Nat → Int32) (mg : Nat → UInt32) (mm : Nat → Int32) (x1 : Int32) (x2 : Int32) (y1 : Int32) (y2 : Int32), vX7_setBias_35 mn mf mk mg mm x1 x2 y1 y2 K  → ∀ (H : Heap) (locs : List Loc) (ls : Array Slot), va_P G vwCl (md_W cy a mn mf mk mg mv mt mm) H → va_D A (md_W cy a mn mf mk mg mv mt mm) → va_S A s.heap H locs → lv_has ls 3 [(0, .ref (a 0)), (1, .int x1), (2, .int x2)] → W p l e (headSpec (ws_ yX7_setBias cX7_setBias 3 (some .int)) ({ frames := 2, cells := 0, slots := 0, locals := 43 } : Room)).room s m ([.ref (a 0), .int p1, .int p2] : List Value).toArray below meth c H locs 0 0 (MQ below (RI G K (fun u => md_W cy a u.1 mf u.2.1 u.2.2.1 mv mt u.2.2.2) A) ([.ref (a 0), .int p1, .int p2] : List Value).toArray s 0 0 A) (F0 m 35 ls [.int y2, .int y1, .ref (a 1)]) := by
    intro mn mf mk mg mm x1 x2 y1 y2 h H locs ls hP hD hS hl
    unfold vX7_setBias_35 at h
    refine lv_iadd hx hb dX7_setBias_35 ?_
    refine lv_iload_n hx hb dX7_setBias_36 rfl (lv_at hl 2 rfl) ?_
    refine kais S hE hP hD hS 1 rfl h.1 rfl dX7_setBias_37 (fun H locs hP hD hS => ?_)
    have h := h.2
    have hP : va_P G vwCl (md_W cy a (upd mn (Int32.toNatClampNeg (y1 + y2)) x2) mf mk mg mv mt mm) H := hP
    have hD : va_D A (md_W cy a (upd mn (Int32.toNatClampNeg (y1 + y2)) x2) mf mk mg mv mt mm) := hD
    refine lv_iload_n hx hb dX7_setBias_38 rfl (lv_at hl 1 rfl) ?_
    refine lv_aload_n hx hb dX7_setBias_39 rfl (lv_at hl 0 rfl) ?_
    refine kg (v := .ref (a 1)) S hE hP 0 rfl rfl 0 (by decide) q_4_13 rfl rfl inlX7 dX7_setBias_40 ?_
    refine lv_iconst (v := (4 : Int32)) hx hb dX7_setBias_43 (by decide) ?_
    refine kail (v := ((upd mn (Int32.toNatClampNeg (y1 + y2)) x2) 4)) S hE hP 1 rfl (vi_4 (by decide)) tc_4 rfl dX7_setBias_44 ?_
    refine lv_iconst (v := (1 : Int32)) hx hb dX7_setBias_45 (by decide) ?_
    refine lv_icmp_ne (tgt := 53) hx hb dX7_setBias_46 (by decide) (fun c_46 => ?_) (fun c_46 => ?_)
    · have h := h.1 c_46
      refine lv_iconst (v := (0 : Int32)) hx hb dX7_setBias_53 (by decide) ?_
      exact J_54 _ _ _ _ _ _ _ h _ _ _ hP hD hS (lv_sub hl [] rfl)
    · have h := h.2 c_46
      refine lv_iconst (v := (1 : Int32)) hx hb dX7_setBias_49 (by decide) ?_
      refine lv_goto (tgt := 54) hx hb dX7_setBias_50 (by decide) ?_
      exact J_54 _ _ _ _ _ _ _ h _ _ _ hP hD hS (lv_sub hl [] rfl)
  refine lv_iload_n hx hb dX7_setBias_0 rfl (lv_at hl 2 rfl) ?_
  refine lv_sipush (v := (-500 : Int32)) hx hb dX7_setBias_1 (by decide) ?_
  refine lv_sipush (v := (500 : Int32)) hx hb dX7_setBias_4 (by decide) ?_
  refine kc_SiE (As := [.int p2, .int (-500 : Int32), .int (500 : Int32)]) (rest := []) S hE (ctX7_isIn l G cy   p2 (-500 : Int32) (500 : Int32) _ h) q_8_17 q_8_18 q_1_5 q_8_19 ydX7_isIn ⟨⟨rfl, rfl⟩, ⟨Nat.le_of_ble_eq_true rfl, Nat.le_of_ble_eq_true rfl⟩⟩ ⟨Nat.zero_le _, Nat.zero_le _⟩ hP hD hS (fun _ => rfl) rfl hl.1 rfl (Nat.le_of_ble_eq_true rfl) dX7_setBias_7 (fun r_7 u_7 H locs h hP hD hS => ?_)
  refine lv_if_ne (tgt := 16) hx hb dX7_setBias_10 (by decide) (fun c_10 => ?_) (fun c_10 => ?_)
  · have h := h.1 c_10
    refine lv_aload_n hx hb dX7_setBias_16 rfl (lv_at hl 0 rfl) ?_
    refine kc_Vv0 (As := []) (rest := []) S hE (ctX7_records l G cy a mn mf mk mg mv mt mm  _ h) q_8_20 q_8_21 q_8_22 q_1_5 q_8_23 rfl 0 rfl rfl ydX7_records ⟨⟨rfl, rfl⟩, ⟨Nat.le_of_ble_eq_true rfl, Nat.le_of_ble_eq_true rfl⟩⟩ ⟨Nat.zero_le _, Nat.zero_le _⟩ hP hD hS rfl hl.1 rfl (Nat.le_of_ble_eq_true rfl) dX7_setBias_17 (fun u_17 H locs h hP hD hS => ?_)
    refine lv_aload_n hx hb dX7_setBias_20 rfl (lv_at hl 0 rfl) ?_
    refine kg (v := .ref (a 1)) S hE hP 0 rfl rfl 0 (by decide) q_4_13 rfl rfl inlX7 dX7_setBias_21 ?_
    refine lv_bipush (v := (6 : Int32)) hx hb dX7_setBias_24 (by decide) ?_
    refine lv_iload_n hx hb dX7_setBias_26 rfl (lv_at hl 1 rfl) ?_
    refine lv_if_eq (tgt := 34) hx hb dX7_setBias_27 (by decide) (fun c_27 => ?_) (fun c_27 => ?_)
    · have h := h.1 c_27
      refine lv_iconst (v := (0 : Int32)) hx hb dX7_setBias_34 (by decide) ?_
      exact J_35 _ _ _ _ _ _ _ _ _ h _ _ _ hP hD hS (lv_sub hl [0, 1, 2] rfl)
    · have h := h.2 c_27
      refine lv_iconst (v := (1 : Int32)) hx hb dX7_setBias_30 (by decide) ?_
      refine lv_goto (tgt := 35) hx hb dX7_setBias_31 (by decide) ?_
      exact J_35 _ _ _ _ _ _ _ _ _ h _ _ _ hP hD hS (lv_sub hl [0, 1, 2] rfl)
  · have h := h.2 c_10
    refine lv_bipush (v := (-2 : Int32)) hx hb dX7_setBias_13 (by decide) ?_
    exact W.iret (v := (-2 : Int32)) hx hb hr (fun t ht hW => ⟨⟨(-2 : Int32), (mn, mk, mg, mm), rfl, h, ⟨hp_at ht hP, hD⟩⟩, hS.F ht⟩) hS.2.2 dX7_setBias_15
def vX7_speedOf (mn : Nat → Int32) (p1 : Int32) (K : UInt32 → Unit → Prop) : Prop :=
  vp_in (((20 : Int32) + ((2 : Int32) * p1)) + (1 : Int32)) 40 ∧ vX7_thousandth (mn (Int32.toNatClampNeg (((20 : Int32) + ((2 : Int32) * p1)) + (1 : Int32)))) (fun r_13 u_13 => K r_13 ())
set_option maxRecDepth 100000 in
set_option maxHeartbeats 4000000 in
theorem ctX7_speedOf (l : Launch) (G : va_G) (cy : Nat → ClassId) (a : Nat → Nat) (mn : Nat → Int32) (mf : Nat → UInt32) (mk : Nat → Int32) (mg : Nat → UInt32) (mv : Nat → Int32) (mt : Nat → Int32) (mm : Nat → Int32) (p1 : Int32) (K : UInt32 → Unit → Prop) (h : vX7_speedOf mn p1 K) : Met l yX7_speedOf (ws_ yX7_speedOf cX7_speedOf 2 (some .float)) ({ frames := 1, cells := 0, slots := 0, locals := 20 } : Room) (CP G cy [.ref (a 0), .int p1] (md_W cy a mn mf mk mg mv mt mm)) (RF G K (fun u => md_W cy a mn mf mk mg mv mt mm) (A1 (md_W cy a mn mf mk mg mv mt mm))) 0 0 (A1 (md_W cy a mn mf mk mg mv mt mm)) := by
  refine hd_go (Qf := fun A => (RF G K (fun u => md_W cy a mn mf mk mg mv mt mm) A)) (by decide +kernel) (Nat.le_of_ble_eq_true rfl) ?_
  intro p e s m below meth c ls A hx hb hr hlocks S hE hP hD hS hl
  have hl : lv_has ls 2 [(0, .ref (a 0)), (1, .int p1)] := hl
  unfold vX7_speedOf at h
  refine lv_aload_n hx hb dX7_speedOf_0 rfl (lv_at hl 0 rfl) ?_
  refine kg (v := .ref (a 1)) S hE hP 0 rfl rfl 0 (by decide) q_4_13 rfl rfl inlX7 dX7_speedOf_1 ?_
  refine lv_bipush (v := (20 : Int32)) hx hb dX7_speedOf_4 (by decide) ?_
  refine lv_iconst (v := (2 : Int32)) hx hb dX7_speedOf_6 (by decide) ?_
  refine lv_iload_n hx hb dX7_speedOf_7 rfl (lv_at hl 1 rfl) ?_
  refine lv_imul hx hb dX7_speedOf_8 ?_
  refine lv_iadd hx hb dX7_speedOf_9 ?_
  refine lv_iconst (v := (1 : Int32)) hx hb dX7_speedOf_10 (by decide) ?_
  refine lv_iadd hx hb dX7_speedOf_11 ?_
  refine kail (v := (mn (Int32.toNatClampNeg (((20 : Int32) + ((2 : Int32) * p1)) + (1 : Int32))))) S hE hP 1 rfl h.1 rfl rfl dX7_speedOf_12 ?_
  have h := h.2
  refine kc_SfE (As := [.int (mn (Int32.toNatClampNeg (((20 : Int32) + ((2 : Int32) * p1)) + (1 : Int32))))]) (rest := []) S hE (ctX7_thousandth l G cy   (mn (Int32.toNatClampNeg (((20 : Int32) + ((2 : Int32) * p1)) + (1 : Int32)))) _ h) q_9_8 q_9_9 q_1_5 q_9_10 ydX7_thousandth ⟨⟨rfl, rfl⟩, ⟨Nat.le_of_ble_eq_true rfl, Nat.le_of_ble_eq_true rfl⟩⟩ ⟨Nat.zero_le _, Nat.zero_le _⟩ hP hD hS (fun _ => rfl) rfl hl.1 rfl (Nat.le_of_ble_eq_true rfl) dX7_speedOf_13 (fun r_13 u_13 H locs h hP hD hS => ?_)
  exact W.fret (v := r_13) hx hb hr (fun t ht hW => ⟨⟨r_13, (), rfl, h, ⟨hp_at ht hP, hD⟩⟩, hS.F ht⟩) hS.2.2 dX7_speedOf_16
def vX7_limitAt_57b (mn : Nat → Int32) (x1 : UInt32) (K : UInt32 → Unit → Prop)  (B57 : Int32 → Prop) (x3 : Int32) : Prop :=
  vX7_distanceOf mn (x3 + (1 : Int32)) (fun r_62 u_62 => vX7_metres r_62 (fun r_65 u_65 => ((fcl x1 r_65) < (0 : Int32) → vX7_distanceOf mn x3 (fun r_80 u_80 => vX7_metres r_80 (fun r_83 u_83 => vX7_distanceOf mn (x3 + (1 : Int32)) (fun r_92 u_92 => vX7_metres r_92 (fun r_95 u_95 => vX7_speedOf mn x3 (fun r_102 u_102 => vX7_speedOf mn (x3 + (1 : Int32)) (fun r_111 u_111 => vf_n32 (FP.fsub r_111 r_102) ∧ vf_n32 (FP.fsub x1 r_83) ∧ vf_n32 (FP.fsub r_95 r_83) ∧ vf_n32 (FP.fdiv (FP.fsub x1 r_83) (FP.fsub r_95 r_83)) ∧ vf_n32 (FP.fmul (FP.fsub r_111 r_102) (FP.fdiv (FP.fsub x1 r_83) (FP.fsub r_95 r_83))) ∧ vf_n32 (FP.fadd r_102 (FP.fmul (FP.fsub r_111 r_102) (FP.fdiv (FP.fsub x1 r_83) (FP.fsub r_95 r_83)))) ∧ K (FP.fadd r_102 (FP.fmul (FP.fsub r_111 r_102) (FP.fdiv (FP.fsub x1 r_83) (FP.fsub r_95 r_83)))) ()))))))) ∧ (¬ (fcl x1 r_65) < (0 : Int32) → B57 (x3 + (1 : Int32)))))
def vX7_limitAt_57F (mn : Nat → Int32) (x1 : UInt32) (K : UInt32 → Unit → Prop)  : ((Int32) → Prop) → (Int32) → Prop := fun B z => vX7_limitAt_57b mn x1 K  (fun z0 => B z0) z
def vX7_limitAt (mn : Nat → Int32) (p1 : UInt32) (K : UInt32 → Unit → Prop) : Prop :=
  ((0 : Int32) ≤ ((mn 10) - (1 : Int32)) → vX7_distanceOf mn (0 : Int32) (fun r_20 u_20 => vX7_metres r_20 (fun r_23 u_23 => ((0 : Int32) < (fcg p1 r_23) → vX7_distanceOf mn ((mn 10) - (1 : Int32)) (fun r_39 u_39 => vX7_metres r_39 (fun r_42 u_42 => ((fcl p1 r_42) < (0 : Int32) → ∃ k, lp (vX7_limitAt_57F mn p1 K ) k (0 : Int32)) ∧ (¬ (fcl p1 r_42) < (0 : Int32) → vX7_speedOf mn ((mn 10) - (1 : Int32)) (fun r_51 u_51 => K r_51 ()))))) ∧ (¬ (0 : Int32) < (fcg p1 r_23) → vX7_speedOf mn (0 : Int32) (fun r_32 u_32 => K r_32 ()))))) ∧ (¬ (0 : Int32) ≤ ((mn 10) - (1 : Int32)) → K (1056964608 : UInt32) ())
set_option maxRecDepth 100000 in
set_option maxHeartbeats 4000000 in
theorem ctX7_limitAt (l : Launch) (G : va_G) (cy : Nat → ClassId) (a : Nat → Nat) (mn : Nat → Int32) (mf : Nat → UInt32) (mk : Nat → Int32) (mg : Nat → UInt32) (mv : Nat → Int32) (mt : Nat → Int32) (mm : Nat → Int32) (p1 : UInt32) (K : UInt32 → Unit → Prop) (h : vX7_limitAt mn p1 K) : Met l yX7_limitAt (ws_ yX7_limitAt cX7_limitAt 8 (some .float)) ({ frames := 2, cells := 0, slots := 0, locals := 41 } : Room) (CP G cy [.ref (a 0), .float p1] (md_W cy a mn mf mk mg mv mt mm)) (RF G K (fun u => md_W cy a mn mf mk mg mv mt mm) (A1 (md_W cy a mn mf mk mg mv mt mm))) 0 0 (A1 (md_W cy a mn mf mk mg mv mt mm)) := by
  refine hd_go (Qf := fun A => (RF G K (fun u => md_W cy a mn mf mk mg mv mt mm) A)) (by decide +kernel) (Nat.le_of_ble_eq_true rfl) ?_
  intro p e s m below meth c ls A hx hb hr hlocks S hE hP hD hS hl
  have hl : lv_has ls 8 [(0, .ref (a 0)), (1, .float p1)] := hl
  unfold vX7_limitAt at h
  have L_57 : ∀ (mn : Nat → Int32) (x1 : UInt32) (k_57 : Nat) (x3 : Int32), lp (vX7_limitAt_57F mn x1 K ) k_57 x3 → ∀ (H : Heap) (locs : List Loc) (ls : Array Slot), va_P G vwCl (md_W cy a mn mf mk mg mv mt mm) H → va_D A (md_W cy a mn mf mk mg mv mt mm) → va_S A s.heap H locs → lv_has ls 8 [(0, .ref (a 0)), (1, .float x1), (3, .int x3)] → W p l e (headSpec (ws_ yX7_limitAt cX7_limitAt 8 (some .float)) ({ frames := 2, cells := 0, slots := 0, locals := 41 } : Room)).room s m ([.ref (a 0), .float p1] : List Value).toArray below meth c H locs 0 0 (MQ below (RF G K (fun u => md_W cy a mn mf mk mg mv mt mm) A) ([.ref (a 0), .float p1] : List Value).toArray s 0 0 A) (F0 m 57 ls []) := by
    intro mn x1 k_57
    induction k_57 with
    | zero => intro x3 h; exact h.elim
    | succ k_57 ih_57 =>
      intro x3 h H locs ls hP hD hS hl
      have h : vX7_limitAt_57b mn x1 K  (fun z0 => lp (vX7_limitAt_57F mn x1 K ) k_57 z0) x3 := h
      unfold vX7_limitAt_57b at h
      refine lv_fload_n hx hb dX7_limitAt_57 rfl (lv_at hl 1 rfl) ?_
      refine lv_aload_n hx hb dX7_limitAt_58 rfl (lv_at hl 0 rfl) ?_
      refine lv_iload_n hx hb dX7_limitAt_59 rfl (lv_at hl 2 rfl) ?_
      refine lv_iconst (v := (1 : Int32)) hx hb dX7_limitAt_60 (by decide) ?_
      refine lv_iadd hx hb dX7_limitAt_61 ?_
      refine kc_Vi0 (As := [.int (x3 + (1 : Int32))]) (rest := [.float x1]) S hE (ctX7_distanceOf l G cy a mn mf mk mg mv mt mm (x3 + (1 : Int32)) _ h) q_10_9 q_10_10 q_10_11 q_1_5 q_10_12 rfl 0 rfl rfl ydX7_distanceOf ⟨⟨rfl, rfl⟩, ⟨Nat.le_of_ble_eq_true rfl, Nat.le_of_ble_eq_true rfl⟩⟩ ⟨Nat.zero_le _, Nat.zero_le _⟩ hP hD hS rfl hl.1 rfl (Nat.le_of_ble_eq_true rfl) dX7_limitAt_62 (fun r_62 u_62 H locs h hP hD hS => ?_)
      refine kc_SfE (As := [.int r_62]) (rest := [.float x1]) S hE (ctX7_metres l G cy   r_62 _ h) q_9_5 q_9_6 q_1_5 q_9_7 ydX7_metres ⟨⟨rfl, rfl⟩, ⟨Nat.le_of_ble_eq_true rfl, Nat.le_of_ble_eq_true rfl⟩⟩ ⟨Nat.zero_le _, Nat.zero_le _⟩ hP hD hS (fun _ => rfl) rfl hl.1 rfl (Nat.le_of_ble_eq_true rfl) dX7_limitAt_65 (fun r_65 u_65 H locs h hP hD hS => ?_)
      refine lv_fcmp hx hb dX7_limitAt_68 ?_
      refine lv_if_lt (tgt := 78) hx hb dX7_limitAt_69 (by decide) (fun c_69 => ?_) (fun c_69 => ?_)
      · have h := h.1 c_69
        refine lv_aload_n hx hb dX7_limitAt_78 rfl (lv_at hl 0 rfl) ?_
        refine lv_iload_n hx hb dX7_limitAt_79 rfl (lv_at hl 2 rfl) ?_
        refine kc_Vi0 (As := [.int x3]) (rest := []) S hE (ctX7_distanceOf l G cy a mn mf mk mg mv mt mm x3 _ h) q_10_9 q_10_10 q_10_11 q_1_5 q_10_12 rfl 0 rfl rfl ydX7_distanceOf ⟨⟨rfl, rfl⟩, ⟨Nat.le_of_ble_eq_true rfl, Nat.le_of_ble_eq_true rfl⟩⟩ ⟨Nat.zero_le _, Nat.zero_le _⟩ hP hD hS rfl hl.1 rfl (Nat.le_of_ble_eq_true rfl) dX7_limitAt_80 (fun r_80 u_80 H locs h hP hD hS => ?_)
        refine kc_SfE (As := [.int r_80]) (rest := []) S hE (ctX7_metres l G cy   r_80 _ h) q_9_5 q_9_6 q_1_5 q_9_7 ydX7_metres ⟨⟨rfl, rfl⟩, ⟨Nat.le_of_ble_eq_true rfl, Nat.le_of_ble_eq_true rfl⟩⟩ ⟨Nat.zero_le _, Nat.zero_le _⟩ hP hD hS (fun _ => rfl) rfl hl.1 rfl (Nat.le_of_ble_eq_true rfl) dX7_limitAt_83 (fun r_83 u_83 H locs h hP hD hS => ?_)
        refine lv_fstore (lv' := [(4, .float r_83), (0, .ref (a 0)), (1, .float x1), (3, .int x3)]) hx hb dX7_limitAt_86 hl (by decide) rfl (fun ls hl => ?_)
        refine lv_aload_n hx hb dX7_limitAt_88 rfl (lv_at hl 1 rfl) ?_
        refine lv_iload_n hx hb dX7_limitAt_89 rfl (lv_at hl 3 rfl) ?_
        refine lv_iconst (v := (1 : Int32)) hx hb dX7_limitAt_90 (by decide) ?_
        refine lv_iadd hx hb dX7_limitAt_91 ?_
        refine kc_Vi0 (As := [.int (x3 + (1 : Int32))]) (rest := []) S hE (ctX7_distanceOf l G cy a mn mf mk mg mv mt mm (x3 + (1 : Int32)) _ h) q_10_9 q_10_10 q_10_11 q_1_5 q_10_12 rfl 0 rfl rfl ydX7_distanceOf ⟨⟨rfl, rfl⟩, ⟨Nat.le_of_ble_eq_true rfl, Nat.le_of_ble_eq_true rfl⟩⟩ ⟨Nat.zero_le _, Nat.zero_le _⟩ hP hD hS rfl hl.1 rfl (Nat.le_of_ble_eq_true rfl) dX7_limitAt_92 (fun r_92 u_92 H locs h hP hD hS => ?_)
        refine kc_SfE (As := [.int r_92]) (rest := []) S hE (ctX7_metres l G cy   r_92 _ h) q_9_5 q_9_6 q_1_5 q_9_7 ydX7_metres ⟨⟨rfl, rfl⟩, ⟨Nat.le_of_ble_eq_true rfl, Nat.le_of_ble_eq_true rfl⟩⟩ ⟨Nat.zero_le _, Nat.zero_le _⟩ hP hD hS (fun _ => rfl) rfl hl.1 rfl (Nat.le_of_ble_eq_true rfl) dX7_limitAt_95 (fun r_95 u_95 H locs h hP hD hS => ?_)
        refine lv_fstore (lv' := [(5, .float r_95), (4, .float r_83), (0, .ref (a 0)), (1, .float x1), (3, .int x3)]) hx hb dX7_limitAt_98 hl (by decide) rfl (fun ls hl => ?_)
        refine lv_aload_n hx hb dX7_limitAt_100 rfl (lv_at hl 2 rfl) ?_
        refine lv_iload_n hx hb dX7_limitAt_101 rfl (lv_at hl 4 rfl) ?_
        refine kc_Vf0 (As := [.int x3]) (rest := []) S hE (ctX7_speedOf l G cy a mn mf mk mg mv mt mm x3 _ h) q_10_13 q_10_14 q_10_15 q_1_5 q_10_16 rfl 0 rfl rfl ydX7_speedOf ⟨⟨rfl, rfl⟩, ⟨Nat.le_of_ble_eq_true rfl, Nat.le_of_ble_eq_true rfl⟩⟩ ⟨Nat.zero_le _, Nat.zero_le _⟩ hP hD hS rfl hl.1 rfl (Nat.le_of_ble_eq_true rfl) dX7_limitAt_102 (fun r_102 u_102 H locs h hP hD hS => ?_)
        refine lv_fstore (lv' := [(6, .float r_102), (5, .float r_95), (4, .float r_83), (0, .ref (a 0)), (1, .float x1), (3, .int x3)]) hx hb dX7_limitAt_105 hl (by decide) rfl (fun ls hl => ?_)
        refine lv_aload_n hx hb dX7_limitAt_107 rfl (lv_at hl 3 rfl) ?_
        refine lv_iload_n hx hb dX7_limitAt_108 rfl (lv_at hl 5 rfl) ?_
        refine lv_iconst (v := (1 : Int32)) hx hb dX7_limitAt_109 (by decide) ?_
        refine lv_iadd hx hb dX7_limitAt_110 ?_
        refine kc_Vf0 (As := [.int (x3 + (1 : Int32))]) (rest := []) S hE (ctX7_speedOf l G cy a mn mf mk mg mv mt mm (x3 + (1 : Int32)) _ h) q_10_13 q_10_14 q_10_15 q_1_5 q_10_16 rfl 0 rfl rfl ydX7_speedOf ⟨⟨rfl, rfl⟩, ⟨Nat.le_of_ble_eq_true rfl, Nat.le_of_ble_eq_true rfl⟩⟩ ⟨Nat.zero_le _, Nat.zero_le _⟩ hP hD hS rfl hl.1 rfl (Nat.le_of_ble_eq_true rfl) dX7_limitAt_111 (fun r_111 u_111 H locs h hP hD hS => ?_)
        refine lv_fstore (lv' := [(7, .float r_111), (6, .float r_102), (5, .float r_95), (4, .float r_83), (0, .ref (a 0)), (1, .float x1), (3, .int x3)]) hx hb dX7_limitAt_114 hl (by decide) rfl (fun ls hl => ?_)
        refine lv_fload hx hb dX7_limitAt_116 (lv_at hl 1 rfl) ?_
        refine lv_fload hx hb dX7_limitAt_118 (lv_at hl 0 rfl) ?_
        refine lv_fload hx hb dX7_limitAt_120 (lv_at hl 1 rfl) ?_
        refine lv_fsub hx hb dX7_limitAt_122 h.1 ?_
        have h := h.2
        refine lv_fload_n hx hb dX7_limitAt_123 rfl (lv_at hl 5 rfl) ?_
        refine lv_fload hx hb dX7_limitAt_124 (lv_at hl 3 rfl) ?_
        refine lv_fsub hx hb dX7_limitAt_126 h.1 ?_
        have h := h.2
        refine lv_fload hx hb dX7_limitAt_127 (lv_at hl 2 rfl) ?_
        refine lv_fload hx hb dX7_limitAt_129 (lv_at hl 3 rfl) ?_
        refine lv_fsub hx hb dX7_limitAt_131 h.1 ?_
        have h := h.2
        refine lv_fdiv hx hb dX7_limitAt_132 h.1 ?_
        have h := h.2
        refine lv_fmul hx hb dX7_limitAt_133 h.1 ?_
        have h := h.2
        refine lv_fadd hx hb dX7_limitAt_134 h.1 ?_
        have h := h.2
        exact W.fret (v := (FP.fadd r_102 (FP.fmul (FP.fsub r_111 r_102) (FP.fdiv (FP.fsub x1 r_83) (FP.fsub r_95 r_83))))) hx hb hr (fun t ht hW => ⟨⟨(FP.fadd r_102 (FP.fmul (FP.fsub r_111 r_102) (FP.fdiv (FP.fsub x1 r_83) (FP.fsub r_95 r_83)))), (), rfl, h, ⟨hp_at ht hP, hD⟩⟩, hS.F ht⟩) hS.2.2 dX7_limitAt_135
      · have h := h.2 c_69
        refine lv_iinc (v := (x3 + (1 : Int32))) (lv' := [(3, .int (x3 + (1 : Int32))), (0, .ref (a 0)), (1, .float x1)]) hx hb dX7_limitAt_72 hl (k := 2) rfl (by rfl) (by decide) rfl (fun ls hl => ?_)
        refine lv_goto (tgt := 57) hx hb dX7_limitAt_75 (by decide) ?_
        exact ih_57 _ h _ _ _ hP hD hS (lv_sub hl [1, 2, 0] rfl)
  refine lv_aload_n hx hb dX7_limitAt_0 rfl (lv_at hl 0 rfl) ?_
  refine kg (v := .ref (a 1)) S hE hP 0 rfl rfl 0 (by decide) q_4_13 rfl rfl inlX7 dX7_limitAt_1 ?_
  refine lv_bipush (v := (10 : Int32)) hx hb dX7_limitAt_4 (by decide) ?_
  refine kail (v := (mn 10)) S hE hP 1 rfl (vi_10 (by decide)) tc_10 rfl dX7_limitAt_6 ?_
  refine lv_iconst (v := (1 : Int32)) hx hb dX7_limitAt_7 (by decide) ?_
  refine lv_isub hx hb dX7_limitAt_8 ?_
  refine lv_istore_n (lv' := [(2, .int ((mn 10) - (1 : Int32))), (0, .ref (a 0)), (1, .float p1)]) hx hb dX7_limitAt_9 rfl hl (by decide) rfl (fun ls hl => ?_)
  refine lv_iload_n hx hb dX7_limitAt_10 rfl (lv_at hl 0 rfl) ?_
  refine lv_if_ge (tgt := 17) hx hb dX7_limitAt_11 (by decide) (fun c_11 => ?_) (fun c_11 => ?_)
  · have h := h.1 c_11
    refine lv_fload_n hx hb dX7_limitAt_17 rfl (lv_at hl 2 rfl) ?_
    refine lv_aload_n hx hb dX7_limitAt_18 rfl (lv_at hl 1 rfl) ?_
    refine lv_iconst (v := (0 : Int32)) hx hb dX7_limitAt_19 (by decide) ?_
    refine kc_Vi0 (As := [.int (0 : Int32)]) (rest := [.float p1]) S hE (ctX7_distanceOf l G cy a mn mf mk mg mv mt mm (0 : Int32) _ h) q_10_9 q_10_10 q_10_11 q_1_5 q_10_12 rfl 0 rfl rfl ydX7_distanceOf ⟨⟨rfl, rfl⟩, ⟨Nat.le_of_ble_eq_true rfl, Nat.le_of_ble_eq_true rfl⟩⟩ ⟨Nat.zero_le _, Nat.zero_le _⟩ hP hD hS rfl hl.1 rfl (Nat.le_of_ble_eq_true rfl) dX7_limitAt_20 (fun r_20 u_20 H locs h hP hD hS => ?_)
    refine kc_SfE (As := [.int r_20]) (rest := [.float p1]) S hE (ctX7_metres l G cy   r_20 _ h) q_9_5 q_9_6 q_1_5 q_9_7 ydX7_metres ⟨⟨rfl, rfl⟩, ⟨Nat.le_of_ble_eq_true rfl, Nat.le_of_ble_eq_true rfl⟩⟩ ⟨Nat.zero_le _, Nat.zero_le _⟩ hP hD hS (fun _ => rfl) rfl hl.1 rfl (Nat.le_of_ble_eq_true rfl) dX7_limitAt_23 (fun r_23 u_23 H locs h hP hD hS => ?_)
    refine lv_fcmp hx hb dX7_limitAt_26 ?_
    refine lv_if_gt (tgt := 36) hx hb dX7_limitAt_27 (by decide) (fun c_27 => ?_) (fun c_27 => ?_)
    · have h := h.1 c_27
      refine lv_fload_n hx hb dX7_limitAt_36 rfl (lv_at hl 2 rfl) ?_
      refine lv_aload_n hx hb dX7_limitAt_37 rfl (lv_at hl 1 rfl) ?_
      refine lv_iload_n hx hb dX7_limitAt_38 rfl (lv_at hl 0 rfl) ?_
      refine kc_Vi0 (As := [.int ((mn 10) - (1 : Int32))]) (rest := [.float p1]) S hE (ctX7_distanceOf l G cy a mn mf mk mg mv mt mm ((mn 10) - (1 : Int32)) _ h) q_10_9 q_10_10 q_10_11 q_1_5 q_10_12 rfl 0 rfl rfl ydX7_distanceOf ⟨⟨rfl, rfl⟩, ⟨Nat.le_of_ble_eq_true rfl, Nat.le_of_ble_eq_true rfl⟩⟩ ⟨Nat.zero_le _, Nat.zero_le _⟩ hP hD hS rfl hl.1 rfl (Nat.le_of_ble_eq_true rfl) dX7_limitAt_39 (fun r_39 u_39 H locs h hP hD hS => ?_)
      refine kc_SfE (As := [.int r_39]) (rest := [.float p1]) S hE (ctX7_metres l G cy   r_39 _ h) q_9_5 q_9_6 q_1_5 q_9_7 ydX7_metres ⟨⟨rfl, rfl⟩, ⟨Nat.le_of_ble_eq_true rfl, Nat.le_of_ble_eq_true rfl⟩⟩ ⟨Nat.zero_le _, Nat.zero_le _⟩ hP hD hS (fun _ => rfl) rfl hl.1 rfl (Nat.le_of_ble_eq_true rfl) dX7_limitAt_42 (fun r_42 u_42 H locs h hP hD hS => ?_)
      refine lv_fcmp hx hb dX7_limitAt_45 ?_
      refine lv_if_lt (tgt := 55) hx hb dX7_limitAt_46 (by decide) (fun c_46 => ?_) (fun c_46 => ?_)
      · have h := h.1 c_46
        refine lv_iconst (v := (0 : Int32)) hx hb dX7_limitAt_55 (by decide) ?_
        refine lv_istore_n (lv' := [(3, .int (0 : Int32)), (2, .int ((mn 10) - (1 : Int32))), (0, .ref (a 0)), (1, .float p1)]) hx hb dX7_limitAt_56 rfl hl (by decide) rfl (fun ls hl => ?_)
        obtain ⟨k0, h⟩ := h
        exact L_57 _ _ k0 _ h _ _ _ hP hD hS (lv_sub hl [2, 3, 0] rfl)
      · have h := h.2 c_46
        refine lv_aload_n hx hb dX7_limitAt_49 rfl (lv_at hl 1 rfl) ?_
        refine lv_iload_n hx hb dX7_limitAt_50 rfl (lv_at hl 0 rfl) ?_
        refine kc_Vf0 (As := [.int ((mn 10) - (1 : Int32))]) (rest := []) S hE (ctX7_speedOf l G cy a mn mf mk mg mv mt mm ((mn 10) - (1 : Int32)) _ h) q_10_13 q_10_14 q_10_15 q_1_5 q_10_16 rfl 0 rfl rfl ydX7_speedOf ⟨⟨rfl, rfl⟩, ⟨Nat.le_of_ble_eq_true rfl, Nat.le_of_ble_eq_true rfl⟩⟩ ⟨Nat.zero_le _, Nat.zero_le _⟩ hP hD hS rfl hl.1 rfl (Nat.le_of_ble_eq_true rfl) dX7_limitAt_51 (fun r_51 u_51 H locs h hP hD hS => ?_)
        exact W.fret (v := r_51) hx hb hr (fun t ht hW => ⟨⟨r_51, (), rfl, h, ⟨hp_at ht hP, hD⟩⟩, hS.F ht⟩) hS.2.2 dX7_limitAt_54
    · have h := h.2 c_27
      refine lv_aload_n hx hb dX7_limitAt_30 rfl (lv_at hl 1 rfl) ?_
      refine lv_iconst (v := (0 : Int32)) hx hb dX7_limitAt_31 (by decide) ?_
      refine kc_Vf0 (As := [.int (0 : Int32)]) (rest := []) S hE (ctX7_speedOf l G cy a mn mf mk mg mv mt mm (0 : Int32) _ h) q_10_13 q_10_14 q_10_15 q_1_5 q_10_16 rfl 0 rfl rfl ydX7_speedOf ⟨⟨rfl, rfl⟩, ⟨Nat.le_of_ble_eq_true rfl, Nat.le_of_ble_eq_true rfl⟩⟩ ⟨Nat.zero_le _, Nat.zero_le _⟩ hP hD hS rfl hl.1 rfl (Nat.le_of_ble_eq_true rfl) dX7_limitAt_32 (fun r_32 u_32 H locs h hP hD hS => ?_)
      exact W.fret (v := r_32) hx hb hr (fun t ht hW => ⟨⟨r_32, (), rfl, h, ⟨hp_at ht hP, hD⟩⟩, hS.F ht⟩) hS.2.2 dX7_limitAt_35
  · have h := h.2 c_11
    refine lv_ldcf hx hb S.2.2.2.1 (S.2.2.2.2 _ q_10_8) dX7_limitAt_14 ?_
    exact W.fret (v := (1056964608 : UInt32)) hx hb hr (fun t ht hW => ⟨⟨(1056964608 : UInt32), (), rfl, h, ⟨hp_at ht hP, hD⟩⟩, hS.F ht⟩) hS.2.2 dX7_limitAt_16
def vX7_isClosed (mn : Nat → Int32) (p1 : Int32) (K : Int32 → Unit → Prop) : Prop :=
  vp_in (((32 : Int32) + ((2 : Int32) * p1)) + (1 : Int32)) 40 ∧ (¬ (mn (Int32.toNatClampNeg (((32 : Int32) + ((2 : Int32) * p1)) + (1 : Int32)))) = (0 : Int32) → K (0 : Int32) ()) ∧ ((mn (Int32.toNatClampNeg (((32 : Int32) + ((2 : Int32) * p1)) + (1 : Int32)))) = (0 : Int32) → K (1 : Int32) ())
set_option maxRecDepth 100000 in
set_option maxHeartbeats 4000000 in
theorem ctX7_isClosed (l : Launch) (G : va_G) (cy : Nat → ClassId) (a : Nat → Nat) (mn : Nat → Int32) (mf : Nat → UInt32) (mk : Nat → Int32) (mg : Nat → UInt32) (mv : Nat → Int32) (mt : Nat → Int32) (mm : Nat → Int32) (p1 : Int32) (K : Int32 → Unit → Prop) (h : vX7_isClosed mn p1 K) : Met l yX7_isClosed (ws_ yX7_isClosed cX7_isClosed 2 (some .boolean)) ({ frames := 0, cells := 0, slots := 0, locals := 0 } : Room) (CP G cy [.ref (a 0), .int p1] (md_W cy a mn mf mk mg mv mt mm)) (RI G K (fun u => md_W cy a mn mf mk mg mv mt mm) (A1 (md_W cy a mn mf mk mg mv mt mm))) 0 0 (A1 (md_W cy a mn mf mk mg mv mt mm)) := by
  refine hd_go (Qf := fun A => (RI G K (fun u => md_W cy a mn mf mk mg mv mt mm) A)) (by decide +kernel) (Nat.le_of_ble_eq_true rfl) ?_
  intro p e s m below meth c ls A hx hb hr hlocks S hE hP hD hS hl
  have hl : lv_has ls 2 [(0, .ref (a 0)), (1, .int p1)] := hl
  unfold vX7_isClosed at h
  refine lv_aload_n hx hb dX7_isClosed_0 rfl (lv_at hl 0 rfl) ?_
  refine kg (v := .ref (a 1)) S hE hP 0 rfl rfl 0 (by decide) q_4_13 rfl rfl inlX7 dX7_isClosed_1 ?_
  refine lv_bipush (v := (32 : Int32)) hx hb dX7_isClosed_4 (by decide) ?_
  refine lv_iconst (v := (2 : Int32)) hx hb dX7_isClosed_6 (by decide) ?_
  refine lv_iload_n hx hb dX7_isClosed_7 rfl (lv_at hl 1 rfl) ?_
  refine lv_imul hx hb dX7_isClosed_8 ?_
  refine lv_iadd hx hb dX7_isClosed_9 ?_
  refine lv_iconst (v := (1 : Int32)) hx hb dX7_isClosed_10 (by decide) ?_
  refine lv_iadd hx hb dX7_isClosed_11 ?_
  refine kail (v := (mn (Int32.toNatClampNeg (((32 : Int32) + ((2 : Int32) * p1)) + (1 : Int32))))) S hE hP 1 rfl h.1 rfl rfl dX7_isClosed_12 ?_
  have h := h.2
  refine lv_if_ne (tgt := 20) hx hb dX7_isClosed_13 (by decide) (fun c_13 => ?_) (fun c_13 => ?_)
  · have h := h.1 c_13
    refine lv_iconst (v := (0 : Int32)) hx hb dX7_isClosed_20 (by decide) ?_
    exact W.zret (v := (0 : Int32)) hx hb hr (by decide +kernel) (fun t ht hW => ⟨⟨(0 : Int32), (), rfl, h, ⟨hp_at ht hP, hD⟩⟩, hS.F ht⟩) hS.2.2 dX7_isClosed_21
  · have h := h.2 c_13
    refine lv_iconst (v := (1 : Int32)) hx hb dX7_isClosed_16 (by decide) ?_
    refine lv_goto (tgt := 21) hx hb dX7_isClosed_17 (by decide) ?_
    exact W.zret (v := (1 : Int32)) hx hb hr (by decide +kernel) (fun t ht hW => ⟨⟨(1 : Int32), (), rfl, h, ⟨hp_at ht hP, hD⟩⟩, hS.F ht⟩) hS.2.2 dX7_isClosed_21
def vX7_stopAt (mn : Nat → Int32) (p1 : Int32) (K : UInt32 → Unit → Prop) : Prop :=
  vp_in ((32 : Int32) + ((2 : Int32) * p1)) 40 ∧ vX7_metres (mn (Int32.toNatClampNeg ((32 : Int32) + ((2 : Int32) * p1)))) (fun r_11 u_11 => K r_11 ())
set_option maxRecDepth 100000 in
set_option maxHeartbeats 4000000 in
theorem ctX7_stopAt (l : Launch) (G : va_G) (cy : Nat → ClassId) (a : Nat → Nat) (mn : Nat → Int32) (mf : Nat → UInt32) (mk : Nat → Int32) (mg : Nat → UInt32) (mv : Nat → Int32) (mt : Nat → Int32) (mm : Nat → Int32) (p1 : Int32) (K : UInt32 → Unit → Prop) (h : vX7_stopAt mn p1 K) : Met l yX7_stopAt (ws_ yX7_stopAt cX7_stopAt 2 (some .float)) ({ frames := 1, cells := 0, slots := 0, locals := 20 } : Room) (CP G cy [.ref (a 0), .int p1] (md_W cy a mn mf mk mg mv mt mm)) (RF G K (fun u => md_W cy a mn mf mk mg mv mt mm) (A1 (md_W cy a mn mf mk mg mv mt mm))) 0 0 (A1 (md_W cy a mn mf mk mg mv mt mm)) := by
  refine hd_go (Qf := fun A => (RF G K (fun u => md_W cy a mn mf mk mg mv mt mm) A)) (by decide +kernel) (Nat.le_of_ble_eq_true rfl) ?_
  intro p e s m below meth c ls A hx hb hr hlocks S hE hP hD hS hl
  have hl : lv_has ls 2 [(0, .ref (a 0)), (1, .int p1)] := hl
  unfold vX7_stopAt at h
  refine lv_aload_n hx hb dX7_stopAt_0 rfl (lv_at hl 0 rfl) ?_
  refine kg (v := .ref (a 1)) S hE hP 0 rfl rfl 0 (by decide) q_4_13 rfl rfl inlX7 dX7_stopAt_1 ?_
  refine lv_bipush (v := (32 : Int32)) hx hb dX7_stopAt_4 (by decide) ?_
  refine lv_iconst (v := (2 : Int32)) hx hb dX7_stopAt_6 (by decide) ?_
  refine lv_iload_n hx hb dX7_stopAt_7 rfl (lv_at hl 1 rfl) ?_
  refine lv_imul hx hb dX7_stopAt_8 ?_
  refine lv_iadd hx hb dX7_stopAt_9 ?_
  refine kail (v := (mn (Int32.toNatClampNeg ((32 : Int32) + ((2 : Int32) * p1))))) S hE hP 1 rfl h.1 rfl rfl dX7_stopAt_10 ?_
  have h := h.2
  refine kc_SfE (As := [.int (mn (Int32.toNatClampNeg ((32 : Int32) + ((2 : Int32) * p1))))]) (rest := []) S hE (ctX7_metres l G cy   (mn (Int32.toNatClampNeg ((32 : Int32) + ((2 : Int32) * p1)))) _ h) q_9_5 q_9_6 q_1_5 q_9_7 ydX7_metres ⟨⟨rfl, rfl⟩, ⟨Nat.le_of_ble_eq_true rfl, Nat.le_of_ble_eq_true rfl⟩⟩ ⟨Nat.zero_le _, Nat.zero_le _⟩ hP hD hS (fun _ => rfl) rfl hl.1 rfl (Nat.le_of_ble_eq_true rfl) dX7_stopAt_11 (fun r_11 u_11 H locs h hP hD hS => ?_)
  exact W.fret (v := r_11) hx hb hr (fun t ht hW => ⟨⟨r_11, (), rfl, h, ⟨hp_at ht hP, hD⟩⟩, hS.F ht⟩) hS.2.2 dX7_stopAt_14
def vX7_nextStop_85 (mn : Nat → Int32) (mf : Nat → UInt32) (x2 : Int32) (y0 : Int32) (K : Int32 → Unit → Prop) (B5 : Int32 → Int32 → Prop) : Prop :=
  B5 y0 (x2 + (1 : Int32))
def vX7_nextStop_80 (mn : Nat → Int32) (mf : Nat → UInt32) (x2 : Int32) (K : Int32 → Unit → Prop) (B5 : Int32 → Int32 → Prop) : Prop :=
  vX7_nextStop_85 mn mf x2 x2 K B5
def vX7_nextStop_84 (mn : Nat → Int32) (mf : Nat → UInt32) (x1 : Int32) (x2 : Int32) (K : Int32 → Unit → Prop) (B5 : Int32 → Int32 → Prop) : Prop :=
  vX7_nextStop_85 mn mf x2 x1 K B5
def vX7_nextStop_44 (mn : Nat → Int32) (mf : Nat → UInt32) (x1 : Int32) (x2 : Int32) (y0 : Int32) (K : Int32 → Unit → Prop) (B5 : Int32 → Int32 → Prop) : Prop :=
  (y0 = (0 : Int32) → vX7_nextStop_84 mn mf x1 x2 K B5) ∧ (¬ y0 = (0 : Int32) → (x1 = (-5 : Int32) → vX7_nextStop_80 mn mf x2 K B5) ∧ (¬ x1 = (-5 : Int32) → vp_in ((32 : Int32) + ((2 : Int32) * x2)) 40 ∧ vp_in ((32 : Int32) + ((2 : Int32) * x1)) 40 ∧ ((mn (Int32.toNatClampNeg ((32 : Int32) + ((2 : Int32) * x2)))) ≤ (mn (Int32.toNatClampNeg ((32 : Int32) + ((2 : Int32) * x1)))) → vX7_nextStop_84 mn mf x1 x2 K B5) ∧ (¬ (mn (Int32.toNatClampNeg ((32 : Int32) + ((2 : Int32) * x2)))) ≤ (mn (Int32.toNatClampNeg ((32 : Int32) + ((2 : Int32) * x1)))) → vX7_nextStop_80 mn mf x2 K B5)))
def vX7_nextStop_43 (mn : Nat → Int32) (mf : Nat → UInt32) (x1 : Int32) (x2 : Int32) (K : Int32 → Unit → Prop) (B5 : Int32 → Int32 → Prop) : Prop :=
  vX7_nextStop_44 mn mf x1 x2 (0 : Int32) K B5
def vX7_nextStop_5b (mn : Nat → Int32) (mf : Nat → UInt32) (K : Int32 → Unit → Prop)  (B5 : Int32 → Int32 → Prop) (x1 : Int32) (x2 : Int32) : Prop :=
  ((mn 11) ≤ x2 → K x1 ()) ∧ (¬ (mn 11) ≤ x2 → vX7_isClosed mn x2 (fun r_18 u_18 => (r_18 = (0 : Int32) → vX7_nextStop_43 mn mf x1 x2 K B5) ∧ (¬ r_18 = (0 : Int32) → vX7_stopAt mn x2 (fun r_26 u_26 => ((0 : Int32) ≤ (fcg r_26 (mf 0)) → vX7_nextStop_43 mn mf x1 x2 K B5) ∧ (¬ (0 : Int32) ≤ (fcg r_26 (mf 0)) → vX7_nextStop_44 mn mf x1 x2 (1 : Int32) K B5)))))
def vX7_nextStop_5F (mn : Nat → Int32) (mf : Nat → UInt32) (K : Int32 → Unit → Prop)  : ((Int32 × Int32) → Prop) → (Int32 × Int32) → Prop := fun B z => vX7_nextStop_5b mn mf K  (fun z0 z1 => B (z0, z1)) z.1 z.2
def vX7_nextStop (mn : Nat → Int32) (mf : Nat → UInt32) (K : Int32 → Unit → Prop) : Prop :=
  ∃ k, lp (vX7_nextStop_5F mn mf K ) k ((-5 : Int32), (0 : Int32))
set_option maxRecDepth 100000 in
set_option maxHeartbeats 4000000 in
theorem ctX7_nextStop (l : Launch) (G : va_G) (cy : Nat → ClassId) (a : Nat → Nat) (mn : Nat → Int32) (mf : Nat → UInt32) (mk : Nat → Int32) (mg : Nat → UInt32) (mv : Nat → Int32) (mt : Nat → Int32) (mm : Nat → Int32)  (K : Int32 → Unit → Prop) (h : vX7_nextStop mn mf K) : Met l yX7_nextStop (ws_ yX7_nextStop cX7_nextStop 4 (some .int)) ({ frames := 2, cells := 0, slots := 0, locals := 41 } : Room) (CP G cy [.ref (a 0)] (md_W cy a mn mf mk mg mv mt mm)) (RI G K (fun u => md_W cy a mn mf mk mg mv mt mm) (A1 (md_W cy a mn mf mk mg mv mt mm))) 0 0 (A1 (md_W cy a mn mf mk mg mv mt mm)) := by
  refine hd_go (Qf := fun A => (RI G K (fun u => md_W cy a mn mf mk mg mv mt mm) A)) (by decide +kernel) (Nat.le_of_ble_eq_true rfl) ?_
  intro p e s m below meth c ls A hx hb hr hlocks S hE hP hD hS hl
  have hl : lv_has ls 4 [(0, .ref (a 0))] := hl
  unfold vX7_nextStop at h
  have L_5 : ∀ (mn : Nat → Int32) (mf : Nat → UInt32) (k_5 : Nat) (x1 : Int32) (x2 : Int32), lp (vX7_nextStop_5F mn mf K ) k_5 (x1, x2) → ∀ (H : Heap) (locs : List Loc) (ls : Array Slot), va_P G vwCl (md_W cy a mn mf mk mg mv mt mm) H → va_D A (md_W cy a mn mf mk mg mv mt mm) → va_S A s.heap H locs → lv_has ls 4 [(0, .ref (a 0)), (1, .int x1), (2, .int x2)] → W p l e (headSpec (ws_ yX7_nextStop cX7_nextStop 4 (some .int)) ({ frames := 2, cells := 0, slots := 0, locals := 41 } : Room)).room s m ([.ref (a 0)] : List Value).toArray below meth c H locs 0 0 (MQ below (RI G K (fun u => md_W cy a mn mf mk mg mv mt mm) A) ([.ref (a 0)] : List Value).toArray s 0 0 A) (F0 m 5 ls []) := by
    intro mn mf k_5
    induction k_5 with
    | zero => intro x1 x2 h; exact h.elim
    | succ k_5 ih_5 =>
      have J_85 : ∀ (x2 : Int32) (y0 : Int32), vX7_nextStop_85 mn mf x2 y0 K (fun z0 z1 => lp (vX7_nextStop_5F mn mf K ) k_5 (z0, z1)) → ∀ (H : Heap) (locs : List Loc) (ls : Array Slot), va_P G vwCl (md_W cy a mn mf mk mg mv mt mm) H → va_D A (md_W cy a mn mf mk mg mv mt mm) → va_S A s.heap H locs → lv_has ls 4 [(0, .ref (a 0)), (2, .int x2)] → W p l e (headSpec (ws_ yX7_nextStop cX7_nextStop 4 (some .int)) ({ frames := 2, cells := 0, slots := 0, locals := 41 } : Room)).room s m ([.ref (a 0)] : List Value).toArray below meth c H locs 0 0 (MQ below (RI G K (fun u => md_W cy a mn mf mk mg mv mt mm) A) ([.ref (a 0)] : List Value).toArray s 0 0 A) (F0 m 85 ls [.int y0]) := by
        intro x2 y0 h H locs ls hP hD hS hl
        unfold vX7_nextStop_85 at h
        refine lv_istore_n (lv' := [(1, .int y0), (0, .ref (a 0)), (2, .int x2)]) hx hb dX7_nextStop_85 rfl hl (by decide) rfl (fun ls hl => ?_)
        refine lv_iinc (v := (x2 + (1 : Int32))) (lv' := [(2, .int (x2 + (1 : Int32))), (1, .int y0), (0, .ref (a 0))]) hx hb dX7_nextStop_86 hl (k := 2) rfl (by rfl) (by decide) rfl (fun ls hl => ?_)
        refine lv_goto (tgt := 5) hx hb dX7_nextStop_89 (by decide) ?_
        exact ih_5 _ _ h _ _ _ hP hD hS (lv_sub hl [2, 1, 0] rfl)
      have J_80 : ∀ (x2 : Int32), vX7_nextStop_80 mn mf x2 K (fun z0 z1 => lp (vX7_nextStop_5F mn mf K ) k_5 (z0, z1)) → ∀ (H : Heap) (locs : List Loc) (ls : Array Slot), va_P G vwCl (md_W cy a mn mf mk mg mv mt mm) H → va_D A (md_W cy a mn mf mk mg mv mt mm) → va_S A s.heap H locs → lv_has ls 4 [(0, .ref (a 0)), (2, .int x2)] → W p l e (headSpec (ws_ yX7_nextStop cX7_nextStop 4 (some .int)) ({ frames := 2, cells := 0, slots := 0, locals := 41 } : Room)).room s m ([.ref (a 0)] : List Value).toArray below meth c H locs 0 0 (MQ below (RI G K (fun u => md_W cy a mn mf mk mg mv mt mm) A) ([.ref (a 0)] : List Value).toArray s 0 0 A) (F0 m 80 ls []) := by
        intro x2 h H locs ls hP hD hS hl
        unfold vX7_nextStop_80 at h
        refine lv_iload_n hx hb dX7_nextStop_80 rfl (lv_at hl 1 rfl) ?_
        refine lv_goto (tgt := 85) hx hb dX7_nextStop_81 (by decide) ?_
        exact J_85 _ _ h _ _ _ hP hD hS (lv_sub hl [0, 1] rfl)
      have J_84 : ∀ (x1 : Int32) (x2 : Int32), vX7_nextStop_84 mn mf x1 x2 K (fun z0 z1 => lp (vX7_nextStop_5F mn mf K ) k_5 (z0, z1)) → ∀ (H : Heap) (locs : List Loc) (ls : Array Slot), va_P G vwCl (md_W cy a mn mf mk mg mv mt mm) H → va_D A (md_W cy a mn mf mk mg mv mt mm) → va_S A s.heap H locs → lv_has ls 4 [(0, .ref (a 0)), (1, .int x1), (2, .int x2)] → W p l e (headSpec (ws_ yX7_nextStop cX7_nextStop 4 (some .int)) ({ frames := 2, cells := 0, slots := 0, locals := 41 } : Room)).room s m ([.ref (a 0)] : List Value).toArray below meth c H locs 0 0 (MQ below (RI G K (fun u => md_W cy a mn mf mk mg mv mt mm) A) ([.ref (a 0)] : List Value).toArray s 0 0 A) (F0 m 84 ls []) := by
        intro x1 x2 h H locs ls hP hD hS hl
        unfold vX7_nextStop_84 at h
        refine lv_iload_n hx hb dX7_nextStop_84 rfl (lv_at hl 1 rfl) ?_
        exact J_85 _ _ h _ _ _ hP hD hS (lv_sub hl [0, 2] rfl)
      have J_44 : ∀ (x1 : Int32) (x2 : Int32) (y0 : Int32), vX7_nextStop_44 mn mf x1 x2 y0 K (fun z0 z1 => lp (vX7_nextStop_5F mn mf K ) k_5 (z0, z1)) → ∀ (H : Heap) (locs : List Loc) (ls : Array Slot), va_P G vwCl (md_W cy a mn mf mk mg mv mt mm) H → va_D A (md_W cy a mn mf mk mg mv mt mm) → va_S A s.heap H locs → lv_has ls 4 [(0, .ref (a 0)), (1, .int x1), (2, .int x2)] → W p l e (headSpec (ws_ yX7_nextStop cX7_nextStop 4 (some .int)) ({ frames := 2, cells := 0, slots := 0, locals := 41 } : Room)).room s m ([.ref (a 0)] : List Value).toArray below meth c H locs 0 0 (MQ below (RI G K (fun u => md_W cy a mn mf mk mg mv mt mm) A) ([.ref (a 0)] : List Value).toArray s 0 0 A) (F0 m 44 ls [.int y0]) := by
        intro x1 x2 y0 h H locs ls hP hD hS hl
        unfold vX7_nextStop_44 at h
        refine lv_istore_n (lv' := [(3, .int y0), (0, .ref (a 0)), (1, .int x1), (2, .int x2)]) hx hb dX7_nextStop_44 rfl hl (by decide) rfl (fun ls hl => ?_)
        refine lv_iload_n hx hb dX7_nextStop_45 rfl (lv_at hl 0 rfl) ?_
        refine lv_if_eq (tgt := 84) hx hb dX7_nextStop_46 (by decide) (fun c_46 => ?_) (fun c_46 => ?_)
        · have h := h.1 c_46
          exact J_84 _ _ h _ _ _ hP hD hS (lv_sub hl [1, 2, 3] rfl)
        · have h := h.2 c_46
          refine lv_iload_n hx hb dX7_nextStop_49 rfl (lv_at hl 2 rfl) ?_
          refine lv_bipush (v := (-5 : Int32)) hx hb dX7_nextStop_50 (by decide) ?_
          refine lv_icmp_eq (tgt := 80) hx hb dX7_nextStop_52 (by decide) (fun c_52 => ?_) (fun c_52 => ?_)
          · have h := h.1 c_52
            exact J_80 _ h _ _ _ hP hD hS (lv_sub hl [1, 3] rfl)
          · have h := h.2 c_52
            refine lv_aload_n hx hb dX7_nextStop_55 rfl (lv_at hl 1 rfl) ?_
            refine kg (v := .ref (a 1)) S hE hP 0 rfl rfl 0 (by decide) q_4_13 rfl rfl inlX7 dX7_nextStop_56 ?_
            refine lv_bipush (v := (32 : Int32)) hx hb dX7_nextStop_59 (by decide) ?_
            refine lv_iconst (v := (2 : Int32)) hx hb dX7_nextStop_61 (by decide) ?_
            refine lv_iload_n hx hb dX7_nextStop_62 rfl (lv_at hl 3 rfl) ?_
            refine lv_imul hx hb dX7_nextStop_63 ?_
            refine lv_iadd hx hb dX7_nextStop_64 ?_
            refine kail (v := (mn (Int32.toNatClampNeg ((32 : Int32) + ((2 : Int32) * x2))))) S hE hP 1 rfl h.1 rfl rfl dX7_nextStop_65 ?_
            have h := h.2
            refine lv_aload_n hx hb dX7_nextStop_66 rfl (lv_at hl 1 rfl) ?_
            refine kg (v := .ref (a 1)) S hE hP 0 rfl rfl 0 (by decide) q_4_13 rfl rfl inlX7 dX7_nextStop_67 ?_
            refine lv_bipush (v := (32 : Int32)) hx hb dX7_nextStop_70 (by decide) ?_
            refine lv_iconst (v := (2 : Int32)) hx hb dX7_nextStop_72 (by decide) ?_
            refine lv_iload_n hx hb dX7_nextStop_73 rfl (lv_at hl 2 rfl) ?_
            refine lv_imul hx hb dX7_nextStop_74 ?_
            refine lv_iadd hx hb dX7_nextStop_75 ?_
            refine kail (v := (mn (Int32.toNatClampNeg ((32 : Int32) + ((2 : Int32) * x1))))) S hE hP 1 rfl h.1 rfl rfl dX7_nextStop_76 ?_
            have h := h.2
            refine lv_icmp_le (tgt := 84) hx hb dX7_nextStop_77 (by decide) (fun c_77 => ?_) (fun c_77 => ?_)
            · have h := h.1 c_77
              exact J_84 _ _ h _ _ _ hP hD hS (lv_sub hl [1, 2, 3] rfl)
            · have h := h.2 c_77
              exact J_80 _ h _ _ _ hP hD hS (lv_sub hl [1, 3] rfl)
      have J_43 : ∀ (x1 : Int32) (x2 : Int32), vX7_nextStop_43 mn mf x1 x2 K (fun z0 z1 => lp (vX7_nextStop_5F mn mf K ) k_5 (z0, z1)) → ∀ (H : Heap) (locs : List Loc) (ls : Array Slot), va_P G vwCl (md_W cy a mn mf mk mg mv mt mm) H → va_D A (md_W cy a mn mf mk mg mv mt mm) → va_S A s.heap H locs → lv_has ls 4 [(0, .ref (a 0)), (1, .int x1), (2, .int x2)] → W p l e (headSpec (ws_ yX7_nextStop cX7_nextStop 4 (some .int)) ({ frames := 2, cells := 0, slots := 0, locals := 41 } : Room)).room s m ([.ref (a 0)] : List Value).toArray below meth c H locs 0 0 (MQ below (RI G K (fun u => md_W cy a mn mf mk mg mv mt mm) A) ([.ref (a 0)] : List Value).toArray s 0 0 A) (F0 m 43 ls []) := by
        intro x1 x2 h H locs ls hP hD hS hl
        unfold vX7_nextStop_43 at h
        refine lv_iconst (v := (0 : Int32)) hx hb dX7_nextStop_43 (by decide) ?_
        exact J_44 _ _ _ h _ _ _ hP hD hS (lv_sub hl [0, 1, 2] rfl)
      intro x1 x2 h H locs ls hP hD hS hl
      have h : vX7_nextStop_5b mn mf K  (fun z0 z1 => lp (vX7_nextStop_5F mn mf K ) k_5 (z0, z1)) x1 x2 := h
      unfold vX7_nextStop_5b at h
      refine lv_iload_n hx hb dX7_nextStop_5 rfl (lv_at hl 2 rfl) ?_
      refine lv_aload_n hx hb dX7_nextStop_6 rfl (lv_at hl 0 rfl) ?_
      refine kg (v := .ref (a 1)) S hE hP 0 rfl rfl 0 (by decide) q_4_13 rfl rfl inlX7 dX7_nextStop_7 ?_
      refine lv_bipush (v := (11 : Int32)) hx hb dX7_nextStop_10 (by decide) ?_
      refine kail (v := (mn 11)) S hE hP 1 rfl (vi_11 (by decide)) tc_11 rfl dX7_nextStop_12 ?_
      refine lv_icmp_ge (tgt := 92) hx hb dX7_nextStop_13 (by decide) (fun c_13 => ?_) (fun c_13 => ?_)
      · have h := h.1 c_13
        refine lv_iload_n hx hb dX7_nextStop_92 rfl (lv_at hl 1 rfl) ?_
        exact W.iret (v := x1) hx hb hr (fun t ht hW => ⟨⟨x1, (), rfl, h, ⟨hp_at ht hP, hD⟩⟩, hS.F ht⟩) hS.2.2 dX7_nextStop_93
      · have h := h.2 c_13
        refine lv_aload_n hx hb dX7_nextStop_16 rfl (lv_at hl 0 rfl) ?_
        refine lv_iload_n hx hb dX7_nextStop_17 rfl (lv_at hl 2 rfl) ?_
        refine kc_Vi0 (As := [.int x2]) (rest := []) S hE (ctX7_isClosed l G cy a mn mf mk mg mv mt mm x2 _ h) q_20_5 q_20_6 q_20_7 q_1_5 q_20_8 rfl 0 rfl rfl ydX7_isClosed ⟨⟨rfl, rfl⟩, ⟨Nat.le_of_ble_eq_true rfl, Nat.le_of_ble_eq_true rfl⟩⟩ ⟨Nat.zero_le _, Nat.zero_le _⟩ hP hD hS rfl hl.1 rfl (Nat.le_of_ble_eq_true rfl) dX7_nextStop_18 (fun r_18 u_18 H locs h hP hD hS => ?_)
        refine lv_if_eq (tgt := 43) hx hb dX7_nextStop_21 (by decide) (fun c_21 => ?_) (fun c_21 => ?_)
        · have h := h.1 c_21
          exact J_43 _ _ h _ _ _ hP hD hS (lv_sub hl [0, 1, 2] rfl)
        · have h := h.2 c_21
          refine lv_aload_n hx hb dX7_nextStop_24 rfl (lv_at hl 0 rfl) ?_
          refine lv_iload_n hx hb dX7_nextStop_25 rfl (lv_at hl 2 rfl) ?_
          refine kc_Vf0 (As := [.int x2]) (rest := []) S hE (ctX7_stopAt l G cy a mn mf mk mg mv mt mm x2 _ h) q_22_3 q_22_4 q_22_5 q_1_5 q_22_6 rfl 0 rfl rfl ydX7_stopAt ⟨⟨rfl, rfl⟩, ⟨Nat.le_of_ble_eq_true rfl, Nat.le_of_ble_eq_true rfl⟩⟩ ⟨Nat.zero_le _, Nat.zero_le _⟩ hP hD hS rfl hl.1 rfl (Nat.le_of_ble_eq_true rfl) dX7_nextStop_26 (fun r_26 u_26 H locs h hP hD hS => ?_)
          refine lv_aload_n hx hb dX7_nextStop_29 rfl (lv_at hl 0 rfl) ?_
          refine kg (v := .ref (a 2)) S hE hP 0 rfl rfl 1 (by decide) q_4_15 rfl rfl inlX7 dX7_nextStop_30 ?_
          refine lv_iconst (v := (0 : Int32)) hx hb dX7_nextStop_33 (by decide) ?_
          refine kafl (v := (mf 0)) S hE hP 2 rfl (vi_0 (by decide)) tc_0 rfl dX7_nextStop_34 ?_
          refine lv_fcmp hx hb dX7_nextStop_35 ?_
          refine lv_if_ge (tgt := 43) hx hb dX7_nextStop_36 (by decide) (fun c_36 => ?_) (fun c_36 => ?_)
          · have h := h.1 c_36
            exact J_43 _ _ h _ _ _ hP hD hS (lv_sub hl [0, 1, 2] rfl)
          · have h := h.2 c_36
            refine lv_iconst (v := (1 : Int32)) hx hb dX7_nextStop_39 (by decide) ?_
            refine lv_goto (tgt := 44) hx hb dX7_nextStop_40 (by decide) ?_
            exact J_44 _ _ _ h _ _ _ hP hD hS (lv_sub hl [0, 1, 2] rfl)
  refine lv_bipush (v := (-5 : Int32)) hx hb dX7_nextStop_0 (by decide) ?_
  refine lv_istore_n (lv' := [(1, .int (-5 : Int32)), (0, .ref (a 0))]) hx hb dX7_nextStop_2 rfl hl (by decide) rfl (fun ls hl => ?_)
  refine lv_iconst (v := (0 : Int32)) hx hb dX7_nextStop_3 (by decide) ?_
  refine lv_istore_n (lv' := [(2, .int (0 : Int32)), (1, .int (-5 : Int32)), (0, .ref (a 0))]) hx hb dX7_nextStop_4 rfl hl (by decide) rfl (fun ls hl => ?_)
  obtain ⟨k0, h⟩ := h
  exact L_5 _ _ k0 _ _ h _ _ _ hP hD hS (lv_sub hl [2, 1, 0] rfl)
def vX7_measured (mn : Nat → Int32) (mf : Nat → UInt32) (p1 : Int32) (K : UInt32 → Unit → Prop) : Prop :=
  vp_in ((6 : Int32) + p1) 40 ∧ vX7_metres (mn (Int32.toNatClampNeg ((6 : Int32) + p1))) (fun r_15 u_15 => vf_n32 (FP.fadd (mf 0) r_15) ∧ K (FP.fadd (mf 0) r_15) ())
set_option maxRecDepth 100000 in
set_option maxHeartbeats 4000000 in
theorem ctX7_measured (l : Launch) (G : va_G) (cy : Nat → ClassId) (a : Nat → Nat) (mn : Nat → Int32) (mf : Nat → UInt32) (mk : Nat → Int32) (mg : Nat → UInt32) (mv : Nat → Int32) (mt : Nat → Int32) (mm : Nat → Int32) (p1 : Int32) (K : UInt32 → Unit → Prop) (h : vX7_measured mn mf p1 K) : Met l yX7_measured (ws_ yX7_measured cX7_measured 2 (some .float)) ({ frames := 1, cells := 0, slots := 0, locals := 20 } : Room) (CP G cy [.ref (a 0), .int p1] (md_W cy a mn mf mk mg mv mt mm)) (RF G K (fun u => md_W cy a mn mf mk mg mv mt mm) (A1 (md_W cy a mn mf mk mg mv mt mm))) 0 0 (A1 (md_W cy a mn mf mk mg mv mt mm)) := by
  refine hd_go (Qf := fun A => (RF G K (fun u => md_W cy a mn mf mk mg mv mt mm) A)) (by decide +kernel) (Nat.le_of_ble_eq_true rfl) ?_
  intro p e s m below meth c ls A hx hb hr hlocks S hE hP hD hS hl
  have hl : lv_has ls 2 [(0, .ref (a 0)), (1, .int p1)] := hl
  unfold vX7_measured at h
  refine lv_aload_n hx hb dX7_measured_0 rfl (lv_at hl 0 rfl) ?_
  refine kg (v := .ref (a 2)) S hE hP 0 rfl rfl 1 (by decide) q_4_15 rfl rfl inlX7 dX7_measured_1 ?_
  refine lv_iconst (v := (0 : Int32)) hx hb dX7_measured_4 (by decide) ?_
  refine kafl (v := (mf 0)) S hE hP 2 rfl (vi_0 (by decide)) tc_0 rfl dX7_measured_5 ?_
  refine lv_aload_n hx hb dX7_measured_6 rfl (lv_at hl 0 rfl) ?_
  refine kg (v := .ref (a 1)) S hE hP 0 rfl rfl 0 (by decide) q_4_13 rfl rfl inlX7 dX7_measured_7 ?_
  refine lv_bipush (v := (6 : Int32)) hx hb dX7_measured_10 (by decide) ?_
  refine lv_iload_n hx hb dX7_measured_12 rfl (lv_at hl 1 rfl) ?_
  refine lv_iadd hx hb dX7_measured_13 ?_
  refine kail (v := (mn (Int32.toNatClampNeg ((6 : Int32) + p1)))) S hE hP 1 rfl h.1 rfl rfl dX7_measured_14 ?_
  have h := h.2
  refine kc_SfE (As := [.int (mn (Int32.toNatClampNeg ((6 : Int32) + p1)))]) (rest := [.float (mf 0)]) S hE (ctX7_metres l G cy   (mn (Int32.toNatClampNeg ((6 : Int32) + p1))) _ h) q_9_5 q_9_6 q_1_5 q_9_7 ydX7_metres ⟨⟨rfl, rfl⟩, ⟨Nat.le_of_ble_eq_true rfl, Nat.le_of_ble_eq_true rfl⟩⟩ ⟨Nat.zero_le _, Nat.zero_le _⟩ hP hD hS (fun _ => rfl) rfl hl.1 rfl (Nat.le_of_ble_eq_true rfl) dX7_measured_15 (fun r_15 u_15 H locs h hP hD hS => ?_)
  refine lv_fadd hx hb dX7_measured_18 h.1 ?_
  have h := h.2
  exact W.fret (v := (FP.fadd (mf 0) r_15)) hx hb hr (fun t ht hW => ⟨⟨(FP.fadd (mf 0) r_15), (), rfl, h, ⟨hp_at ht hP, hD⟩⟩, hS.F ht⟩) hS.2.2 dX7_measured_19
def vX7_isSeen (mf : Nat → UInt32) (K : Int32 → Unit → Prop) : Prop :=
  ((0 : Int32) < (fcg (mf 0) (1106247680 : UInt32)) → K (0 : Int32) ()) ∧ (¬ (0 : Int32) < (fcg (mf 0) (1106247680 : UInt32)) → K (1 : Int32) ())
set_option maxRecDepth 100000 in
set_option maxHeartbeats 4000000 in
theorem ctX7_isSeen (l : Launch) (G : va_G) (cy : Nat → ClassId) (a : Nat → Nat) (mn : Nat → Int32) (mf : Nat → UInt32) (mk : Nat → Int32) (mg : Nat → UInt32) (mv : Nat → Int32) (mt : Nat → Int32) (mm : Nat → Int32)  (K : Int32 → Unit → Prop) (h : vX7_isSeen mf K) : Met l yX7_isSeen (ws_ yX7_isSeen cX7_isSeen 1 (some .boolean)) ({ frames := 0, cells := 0, slots := 0, locals := 0 } : Room) (CP G cy [.ref (a 0)] (md_W cy a mn mf mk mg mv mt mm)) (RI G K (fun u => md_W cy a mn mf mk mg mv mt mm) (A1 (md_W cy a mn mf mk mg mv mt mm))) 0 0 (A1 (md_W cy a mn mf mk mg mv mt mm)) := by
  refine hd_go (Qf := fun A => (RI G K (fun u => md_W cy a mn mf mk mg mv mt mm) A)) (by decide +kernel) (Nat.le_of_ble_eq_true rfl) ?_
  intro p e s m below meth c ls A hx hb hr hlocks S hE hP hD hS hl
  have hl : lv_has ls 1 [(0, .ref (a 0))] := hl
  unfold vX7_isSeen at h
  refine lv_aload_n hx hb dX7_isSeen_0 rfl (lv_at hl 0 rfl) ?_
  refine kg (v := .ref (a 2)) S hE hP 0 rfl rfl 1 (by decide) q_4_15 rfl rfl inlX7 dX7_isSeen_1 ?_
  refine lv_iconst (v := (0 : Int32)) hx hb dX7_isSeen_4 (by decide) ?_
  refine kafl (v := (mf 0)) S hE hP 2 rfl (vi_0 (by decide)) tc_0 rfl dX7_isSeen_5 ?_
  refine lv_ldcf hx hb S.2.2.2.1 (S.2.2.2.2 _ q_23_2) dX7_isSeen_6 ?_
  refine lv_fcmp hx hb dX7_isSeen_8 ?_
  refine lv_if_gt (tgt := 16) hx hb dX7_isSeen_9 (by decide) (fun c_9 => ?_) (fun c_9 => ?_)
  · have h := h.1 c_9
    refine lv_iconst (v := (0 : Int32)) hx hb dX7_isSeen_16 (by decide) ?_
    exact W.zret (v := (0 : Int32)) hx hb hr (by decide +kernel) (fun t ht hW => ⟨⟨(0 : Int32), (), rfl, h, ⟨hp_at ht hP, hD⟩⟩, hS.F ht⟩) hS.2.2 dX7_isSeen_17
  · have h := h.2 c_9
    refine lv_iconst (v := (1 : Int32)) hx hb dX7_isSeen_12 (by decide) ?_
    refine lv_goto (tgt := 17) hx hb dX7_isSeen_13 (by decide) ?_
    exact W.zret (v := (1 : Int32)) hx hb hr (by decide +kernel) (fun t ht hW => ⟨⟨(1 : Int32), (), rfl, h, ⟨hp_at ht hP, hD⟩⟩, hS.F ht⟩) hS.2.2 dX7_isSeen_17
