def vX7_append (mt : Nat → Int32) (mm : Nat → Int32) (p1 : Int32) (K : Int32 → ((Nat → Int32) × (Nat → Int32)) → Prop) : Prop :=
  vX7_isIn p1 (32 : Int32) (126 : Int32) (fun r_5 u_5 => (¬ r_5 = (0 : Int32) → (¬ (mm 1) = (80 : Int32) → vp_in (mm 1) 80 ∧ K ((mm 1) + (1 : Int32)) ((upd mt (Int32.toNatClampNeg (mm 1)) p1), (upd mm 1 ((mm 1) + (1 : Int32))))) ∧ ((mm 1) = (80 : Int32) → K (-4 : Int32) (mt, mm))) ∧ (r_5 = (0 : Int32) → K (-2 : Int32) (mt, mm)))
set_option maxRecDepth 100000 in
set_option maxHeartbeats 4000000 in
theorem ctX7_append (l : Launch) (G : va_G) (cy : Nat → ClassId) (a : Nat → Nat) (mn : Nat → Int32) (mf : Nat → UInt32) (mk : Nat → Int32) (mg : Nat → UInt32) (mv : Nat → Int32) (mt : Nat → Int32) (mm : Nat → Int32) (p1 : Int32) (K : Int32 → ((Nat → Int32) × (Nat → Int32)) → Prop) (h : vX7_append mt mm p1 K) : Met l yX7_append (ws_ yX7_append cX7_append 2 (some .int)) ({ frames := 1, cells := 0, slots := 0, locals := 22 } : Room) (CP G cy [.ref (a 0), .int p1] (md_W cy a mn mf mk mg mv mt mm)) (RI G K (fun u => md_W cy a mn mf mk mg mv u.1 u.2) (A1 (md_W cy a mn mf mk mg mv mt mm))) 0 0 (A1 (md_W cy a mn mf mk mg mv mt mm)) := by
  refine hd_go (Qf := fun A => (RI G K (fun u => md_W cy a mn mf mk mg mv u.1 u.2) A)) (by decide +kernel) (Nat.le_of_ble_eq_true rfl) ?_
  intro p e s m below meth c ls A hx hb hr hlocks S hE hP hD hS hl
  have hl : lv_has ls 2 [(0, .ref (a 0)), (1, .int p1)] := hl
  unfold vX7_append at h
  refine lv_iload_n hx hb dX7_append_0 rfl (lv_at hl 1 rfl) ?_
  refine lv_bipush (v := (32 : Int32)) hx hb dX7_append_1 (by decide) ?_
  refine lv_bipush (v := (126 : Int32)) hx hb dX7_append_3 (by decide) ?_
  refine kc_SiE (As := [.int p1, .int (32 : Int32), .int (126 : Int32)]) (rest := []) S hE (ctX7_isIn l G cy   p1 (32 : Int32) (126 : Int32) _ h) q_8_17 q_8_18 q_1_5 q_8_19 ydX7_isIn ⟨⟨rfl, rfl⟩, ⟨Nat.le_of_ble_eq_true rfl, Nat.le_of_ble_eq_true rfl⟩⟩ ⟨Nat.zero_le _, Nat.zero_le _⟩ hP hD hS (fun _ => rfl) rfl hl.1 rfl (Nat.le_of_ble_eq_true rfl) dX7_append_5 (fun r_5 u_5 H locs h hP hD hS => ?_)
  refine lv_if_ne (tgt := 14) hx hb dX7_append_8 (by decide) (fun c_8 => ?_) (fun c_8 => ?_)
  · have h := h.1 c_8
    refine lv_aload_n hx hb dX7_append_14 rfl (lv_at hl 0 rfl) ?_
    refine kg (v := .int (mm 1)) S hE hP 0 rfl rfl 7 (by decide) q_23_23 rfl rfl inlX7 dX7_append_15 ?_
    refine lv_bipush (v := (80 : Int32)) hx hb dX7_append_18 (by decide) ?_
    refine lv_icmp_ne (tgt := 26) hx hb dX7_append_20 (by decide) (fun c_20 => ?_) (fun c_20 => ?_)
    · have h := h.1 c_20
      refine lv_aload_n hx hb dX7_append_26 rfl (lv_at hl 0 rfl) ?_
      refine kg (v := .ref (a 6)) S hE hP 0 rfl rfl 6 (by decide) q_4_19 rfl rfl inlX7 dX7_append_27 ?_
      refine lv_aload_n hx hb dX7_append_30 rfl (lv_at hl 0 rfl) ?_
      refine kg (v := .int (mm 1)) S hE hP 0 rfl rfl 7 (by decide) q_23_23 rfl rfl inlX7 dX7_append_31 ?_
      refine lv_iload_n hx hb dX7_append_34 rfl (lv_at hl 1 rfl) ?_
      refine kais S hE hP hD hS 6 rfl h.1 rfl dX7_append_35 (fun H locs hP hD hS => ?_)
      have h := h.2
      have hP : va_P G vwCl (md_W cy a mn mf mk mg mv (upd mt (Int32.toNatClampNeg (mm 1)) p1) mm) H := hP
      have hD : va_D A (md_W cy a mn mf mk mg mv (upd mt (Int32.toNatClampNeg (mm 1)) p1) mm) := hD
      refine lv_aload_n hx hb dX7_append_36 rfl (lv_at hl 0 rfl) ?_
      refine lv_dup hx hb dX7_append_37 rfl ?_
      refine kg (v := .int (mm 1)) S hE hP 0 rfl rfl 7 (by decide) q_23_23 rfl rfl inlX7 dX7_append_38 ?_
      refine lv_iconst (v := (1 : Int32)) hx hb dX7_append_41 (by decide) ?_
      refine lv_iadd hx hb dX7_append_42 ?_
      refine kp S hE hP hD hS 0 rfl rfl 7 (by decide) q_23_23 rfl rfl tyX7_ok nmX7 inlX7 rfl rfl (Nat.le_of_ble_eq_true rfl) dX7_append_43 (fun H locs hP hD hS => ?_)
      have hP : va_P G vwCl (md_W cy a mn mf mk mg mv (upd mt (Int32.toNatClampNeg (mm 1)) p1) (upd mm 1 ((mm 1) + (1 : Int32)))) H := hP
      have hD : va_D A (md_W cy a mn mf mk mg mv (upd mt (Int32.toNatClampNeg (mm 1)) p1) (upd mm 1 ((mm 1) + (1 : Int32)))) := hD
      refine lv_aload_n hx hb dX7_append_46 rfl (lv_at hl 0 rfl) ?_
      refine kg (v := .int ((mm 1) + (1 : Int32))) S hE hP 0 rfl rfl 7 (by decide) q_23_23 rfl rfl inlX7 dX7_append_47 ?_
      exact W.iret (v := ((mm 1) + (1 : Int32))) hx hb hr (fun t ht hW => ⟨⟨((mm 1) + (1 : Int32)), ((upd mt (Int32.toNatClampNeg (mm 1)) p1), (upd mm 1 ((mm 1) + (1 : Int32)))), rfl, h, ⟨hp_at ht hP, hD⟩⟩, hS.F ht⟩) hS.2.2 dX7_append_50
    · have h := h.2 c_20
      refine lv_bipush (v := (-4 : Int32)) hx hb dX7_append_23 (by decide) ?_
      exact W.iret (v := (-4 : Int32)) hx hb hr (fun t ht hW => ⟨⟨(-4 : Int32), (mt, mm), rfl, h, ⟨hp_at ht hP, hD⟩⟩, hS.F ht⟩) hS.2.2 dX7_append_25
  · have h := h.2 c_8
    refine lv_bipush (v := (-2 : Int32)) hx hb dX7_append_11 (by decide) ?_
    exact W.iret (v := (-2 : Int32)) hx hb hr (fun t ht hW => ⟨⟨(-2 : Int32), (mt, mm), rfl, h, ⟨hp_at ht hP, hD⟩⟩, hS.F ht⟩) hS.2.2 dX7_append_13
def vX7_clearText (mm : Nat → Int32) (K : Int32 → (Nat → Int32) → Prop) : Prop :=
  K (mm 1) (upd mm 1 (0 : Int32))
set_option maxRecDepth 100000 in
set_option maxHeartbeats 4000000 in
theorem ctX7_clearText (l : Launch) (G : va_G) (cy : Nat → ClassId) (a : Nat → Nat) (mn : Nat → Int32) (mf : Nat → UInt32) (mk : Nat → Int32) (mg : Nat → UInt32) (mv : Nat → Int32) (mt : Nat → Int32) (mm : Nat → Int32)  (K : Int32 → (Nat → Int32) → Prop) (h : vX7_clearText mm K) : Met l yX7_clearText (ws_ yX7_clearText cX7_clearText 2 (some .int)) ({ frames := 0, cells := 0, slots := 0, locals := 0 } : Room) (CP G cy [.ref (a 0)] (md_W cy a mn mf mk mg mv mt mm)) (RI G K (fun u => md_W cy a mn mf mk mg mv mt u) (A1 (md_W cy a mn mf mk mg mv mt mm))) 0 0 (A1 (md_W cy a mn mf mk mg mv mt mm)) := by
  refine hd_go (Qf := fun A => (RI G K (fun u => md_W cy a mn mf mk mg mv mt u) A)) (by decide +kernel) (Nat.le_of_ble_eq_true rfl) ?_
  intro p e s m below meth c ls A hx hb hr hlocks S hE hP hD hS hl
  have hl : lv_has ls 2 [(0, .ref (a 0))] := hl
  unfold vX7_clearText at h
  refine lv_aload_n hx hb dX7_clearText_0 rfl (lv_at hl 0 rfl) ?_
  refine kg (v := .int (mm 1)) S hE hP 0 rfl rfl 7 (by decide) q_23_23 rfl rfl inlX7 dX7_clearText_1 ?_
  refine lv_istore_n (lv' := [(1, .int (mm 1)), (0, .ref (a 0))]) hx hb dX7_clearText_4 rfl hl (by decide) rfl (fun ls hl => ?_)
  refine lv_aload_n hx hb dX7_clearText_5 rfl (lv_at hl 1 rfl) ?_
  refine lv_iconst (v := (0 : Int32)) hx hb dX7_clearText_6 (by decide) ?_
  refine kp S hE hP hD hS 0 rfl rfl 7 (by decide) q_23_23 rfl rfl tyX7_ok nmX7 inlX7 rfl rfl (Nat.le_of_ble_eq_true rfl) dX7_clearText_7 (fun H locs hP hD hS => ?_)
  have hP : va_P G vwCl (md_W cy a mn mf mk mg mv mt (upd mm 1 (0 : Int32))) H := hP
  have hD : va_D A (md_W cy a mn mf mk mg mv mt (upd mm 1 (0 : Int32))) := hD
  refine lv_iload_n hx hb dX7_clearText_10 rfl (lv_at hl 0 rfl) ?_
  exact W.iret (v := (mm 1)) hx hb hr (fun t ht hW => ⟨⟨(mm 1), (upd mm 1 (0 : Int32)), rfl, h, ⟨hp_at ht hP, hD⟩⟩, hS.F ht⟩) hS.2.2 dX7_clearText_11
def vX7_isDigitHere (mt : Nat → Int32) (mm : Nat → Int32) (K : Int32 → Unit → Prop) : Prop :=
  ((mm 1) ≤ (mm 2) → K (0 : Int32) ()) ∧ (¬ (mm 1) ≤ (mm 2) → vp_in (mm 2) 80 ∧ vX7_isIn (mt (Int32.toNatClampNeg (mm 2))) (48 : Int32) (57 : Int32) (fun r_24 u_24 => (r_24 = (0 : Int32) → K (0 : Int32) ()) ∧ (¬ r_24 = (0 : Int32) → K (1 : Int32) ())))
set_option maxRecDepth 100000 in
set_option maxHeartbeats 4000000 in
theorem ctX7_isDigitHere (l : Launch) (G : va_G) (cy : Nat → ClassId) (a : Nat → Nat) (mn : Nat → Int32) (mf : Nat → UInt32) (mk : Nat → Int32) (mg : Nat → UInt32) (mv : Nat → Int32) (mt : Nat → Int32) (mm : Nat → Int32)  (K : Int32 → Unit → Prop) (h : vX7_isDigitHere mt mm K) : Met l yX7_isDigitHere (ws_ yX7_isDigitHere cX7_isDigitHere 1 (some .boolean)) ({ frames := 1, cells := 0, slots := 0, locals := 22 } : Room) (CP G cy [.ref (a 0)] (md_W cy a mn mf mk mg mv mt mm)) (RI G K (fun u => md_W cy a mn mf mk mg mv mt mm) (A1 (md_W cy a mn mf mk mg mv mt mm))) 0 0 (A1 (md_W cy a mn mf mk mg mv mt mm)) := by
  refine hd_go (Qf := fun A => (RI G K (fun u => md_W cy a mn mf mk mg mv mt mm) A)) (by decide +kernel) (Nat.le_of_ble_eq_true rfl) ?_
  intro p e s m below meth c ls A hx hb hr hlocks S hE hP hD hS hl
  have hl : lv_has ls 1 [(0, .ref (a 0))] := hl
  unfold vX7_isDigitHere at h
  refine lv_aload_n hx hb dX7_isDigitHere_0 rfl (lv_at hl 0 rfl) ?_
  refine kg (v := .int (mm 2)) S hE hP 0 rfl rfl 8 (by decide) q_25_18 rfl rfl inlX7 dX7_isDigitHere_1 ?_
  refine lv_aload_n hx hb dX7_isDigitHere_4 rfl (lv_at hl 0 rfl) ?_
  refine kg (v := .int (mm 1)) S hE hP 0 rfl rfl 7 (by decide) q_23_23 rfl rfl inlX7 dX7_isDigitHere_5 ?_
  refine lv_icmp_ge (tgt := 34) hx hb dX7_isDigitHere_8 (by decide) (fun c_8 => ?_) (fun c_8 => ?_)
  · have h := h.1 c_8
    refine lv_iconst (v := (0 : Int32)) hx hb dX7_isDigitHere_34 (by decide) ?_
    exact W.zret (v := (0 : Int32)) hx hb hr (by decide +kernel) (fun t ht hW => ⟨⟨(0 : Int32), (), rfl, h, ⟨hp_at ht hP, hD⟩⟩, hS.F ht⟩) hS.2.2 dX7_isDigitHere_35
  · have h := h.2 c_8
    refine lv_aload_n hx hb dX7_isDigitHere_11 rfl (lv_at hl 0 rfl) ?_
    refine kg (v := .ref (a 6)) S hE hP 0 rfl rfl 6 (by decide) q_4_19 rfl rfl inlX7 dX7_isDigitHere_12 ?_
    refine lv_aload_n hx hb dX7_isDigitHere_15 rfl (lv_at hl 0 rfl) ?_
    refine kg (v := .int (mm 2)) S hE hP 0 rfl rfl 8 (by decide) q_25_18 rfl rfl inlX7 dX7_isDigitHere_16 ?_
    refine kail (v := (mt (Int32.toNatClampNeg (mm 2)))) S hE hP 6 rfl h.1 rfl rfl dX7_isDigitHere_19 ?_
    have h := h.2
    refine lv_bipush (v := (48 : Int32)) hx hb dX7_isDigitHere_20 (by decide) ?_
    refine lv_bipush (v := (57 : Int32)) hx hb dX7_isDigitHere_22 (by decide) ?_
    refine kc_SiE (As := [.int (mt (Int32.toNatClampNeg (mm 2))), .int (48 : Int32), .int (57 : Int32)]) (rest := []) S hE (ctX7_isIn l G cy   (mt (Int32.toNatClampNeg (mm 2))) (48 : Int32) (57 : Int32) _ h) q_8_17 q_8_18 q_1_5 q_8_19 ydX7_isIn ⟨⟨rfl, rfl⟩, ⟨Nat.le_of_ble_eq_true rfl, Nat.le_of_ble_eq_true rfl⟩⟩ ⟨Nat.zero_le _, Nat.zero_le _⟩ hP hD hS (fun _ => rfl) rfl hl.1 rfl (Nat.le_of_ble_eq_true rfl) dX7_isDigitHere_24 (fun r_24 u_24 H locs h hP hD hS => ?_)
    refine lv_if_eq (tgt := 34) hx hb dX7_isDigitHere_27 (by decide) (fun c_27 => ?_) (fun c_27 => ?_)
    · have h := h.1 c_27
      refine lv_iconst (v := (0 : Int32)) hx hb dX7_isDigitHere_34 (by decide) ?_
      exact W.zret (v := (0 : Int32)) hx hb hr (by decide +kernel) (fun t ht hW => ⟨⟨(0 : Int32), (), rfl, h, ⟨hp_at ht hP, hD⟩⟩, hS.F ht⟩) hS.2.2 dX7_isDigitHere_35
    · have h := h.2 c_27
      refine lv_iconst (v := (1 : Int32)) hx hb dX7_isDigitHere_30 (by decide) ?_
      refine lv_goto (tgt := 35) hx hb dX7_isDigitHere_31 (by decide) ?_
      exact W.zret (v := (1 : Int32)) hx hb hr (by decide +kernel) (fun t ht hW => ⟨⟨(1 : Int32), (), rfl, h, ⟨hp_at ht hP, hD⟩⟩, hS.F ht⟩) hS.2.2 dX7_isDigitHere_35
def vX7_passesNumber_95 (mt : Nat → Int32) (mm : Nat → Int32) (x1 : Int32) (x2 : Int32) (x3 : Int32) (x4 : Int32) (K : Int32 → (Nat → Int32) → Prop)  : Prop :=
  vX7_isIn x4 x1 x2 (fun r_105 u_105 => (¬ r_105 = (0 : Int32) → K (1 : Int32) (upd mm 3 x4)) ∧ (r_105 = (0 : Int32) → K (0 : Int32) (upd (upd mm 3 x4) 2 x3)))
def vX7_passesNumber_41b (mt : Nat → Int32) (x1 : Int32) (x2 : Int32) (x3 : Int32) (K : Int32 → (Nat → Int32) → Prop)  (B41 : (Nat → Int32) → Int32 → Int32 → Prop) (mm : Nat → Int32) (x4 : Int32) (x5 : Int32) : Prop :=
  ((3 : Int32) ≤ x5 → vX7_passesNumber_95 mt mm x1 x2 x3 x4 K ) ∧ (¬ (3 : Int32) ≤ x5 → (x4 ≤ (0 : Int32) → vX7_passesNumber_95 mt mm x1 x2 x3 x4 K ) ∧ (¬ x4 ≤ (0 : Int32) → vX7_isDigitHere mt mm (fun r_53 u_53 => (r_53 = (0 : Int32) → vX7_passesNumber_95 mt mm x1 x2 x3 x4 K ) ∧ (¬ r_53 = (0 : Int32) → vp_in (mm 2) 80 ∧ B41 (upd mm 2 ((mm 2) + (1 : Int32))) ((((10 : Int32) * x4) + (mt (Int32.toNatClampNeg (mm 2)))) - (48 : Int32)) (x5 + (1 : Int32))))))
def vX7_passesNumber_41F (mt : Nat → Int32) (x1 : Int32) (x2 : Int32) (x3 : Int32) (K : Int32 → (Nat → Int32) → Prop)  : (((Nat → Int32) × Int32 × Int32) → Prop) → ((Nat → Int32) × Int32 × Int32) → Prop := fun B z => vX7_passesNumber_41b mt x1 x2 x3 K  (fun z0 z1 z2 => B (z0, z1, z2)) z.1 z.2.1 z.2.2
def vX7_passesNumber (mt : Nat → Int32) (mm : Nat → Int32) (p1 : Int32) (p2 : Int32) (K : Int32 → (Nat → Int32) → Prop) : Prop :=
  vX7_isDigitHere mt mm (fun r_1 u_1 => (¬ r_1 = (0 : Int32) → vp_in (mm 2) 80 ∧ ∃ k, lp (vX7_passesNumber_41F mt p1 p2 (mm 2) K ) k ((upd mm 2 ((mm 2) + (1 : Int32))), ((mt (Int32.toNatClampNeg (mm 2))) - (48 : Int32)), (1 : Int32))) ∧ (r_1 = (0 : Int32) → K (0 : Int32) mm))
set_option maxRecDepth 100000 in
set_option maxHeartbeats 4000000 in
theorem ctX7_passesNumber (l : Launch) (G : va_G) (cy : Nat → ClassId) (a : Nat → Nat) (mn : Nat → Int32) (mf : Nat → UInt32) (mk : Nat → Int32) (mg : Nat → UInt32) (mv : Nat → Int32) (mt : Nat → Int32) (mm : Nat → Int32) (p1 : Int32) (p2 : Int32) (K : Int32 → (Nat → Int32) → Prop) (h : vX7_passesNumber mt mm p1 p2 K) : Met l yX7_passesNumber (ws_ yX7_passesNumber cX7_passesNumber 6 (some .boolean)) ({ frames := 2, cells := 0, slots := 0, locals := 42 } : Room) (CP G cy [.ref (a 0), .int p1, .int p2] (md_W cy a mn mf mk mg mv mt mm)) (RI G K (fun u => md_W cy a mn mf mk mg mv mt u) (A1 (md_W cy a mn mf mk mg mv mt mm))) 0 0 (A1 (md_W cy a mn mf mk mg mv mt mm)) := by
  refine hd_go (Qf := fun A => (RI G K (fun u => md_W cy a mn mf mk mg mv mt u) A)) (by decide +kernel) (Nat.le_of_ble_eq_true rfl) ?_
  intro p e s m below meth c ls A hx hb hr hlocks S hE hP hD hS hl
  have hl : lv_has ls 6 [(0, .ref (a 0)), (1, .int p1), (2, .int p2)] := hl
  unfold vX7_passesNumber at h
  have J_95 : ∀ (mt : Nat → Int32) (mm : Nat → Int32) (x1 : Int32) (x2 : Int32) (x3 : Int32) (x4 : Int32), vX7_passesNumber_95 mt mm x1 x2 x3 x4 K  → ∀ (H : Heap) (locs : List Loc) (ls : Array Slot), va_P G vwCl (md_W cy a mn mf mk mg mv mt mm) H → va_D A (md_W cy a mn mf mk mg mv mt mm) → va_S A s.heap H locs → lv_has ls 6 [(0, .ref (a 0)), (1, .int x1), (2, .int x2), (3, .int x3), (4, .int x4)] → W p l e (headSpec (ws_ yX7_passesNumber cX7_passesNumber 6 (some .boolean)) ({ frames := 2, cells := 0, slots := 0, locals := 42 } : Room)).room s m ([.ref (a 0), .int p1, .int p2] : List Value).toArray below meth c H locs 0 0 (MQ below (RI G K (fun u => md_W cy a mn mf mk mg mv mt u) A) ([.ref (a 0), .int p1, .int p2] : List Value).toArray s 0 0 A) (F0 m 95 ls []) := by
    intro mt mm x1 x2 x3 x4 h H locs ls hP hD hS hl
    unfold vX7_passesNumber_95 at h
    refine lv_aload_n hx hb dX7_passesNumber_95 rfl (lv_at hl 0 rfl) ?_
    refine lv_iload hx hb dX7_passesNumber_96 (lv_at hl 4 rfl) ?_
    refine kp S hE hP hD hS 0 rfl rfl 9 (by decide) q_26_4 rfl rfl tyX7_ok nmX7 inlX7 rfl rfl (Nat.le_of_ble_eq_true rfl) dX7_passesNumber_98 (fun H locs hP hD hS => ?_)
    have hP : va_P G vwCl (md_W cy a mn mf mk mg mv mt (upd mm 3 x4)) H := hP
    have hD : va_D A (md_W cy a mn mf mk mg mv mt (upd mm 3 x4)) := hD
    refine lv_iload hx hb dX7_passesNumber_101 (lv_at hl 4 rfl) ?_
    refine lv_iload_n hx hb dX7_passesNumber_103 rfl (lv_at hl 1 rfl) ?_
    refine lv_iload_n hx hb dX7_passesNumber_104 rfl (lv_at hl 2 rfl) ?_
    refine kc_SiE (As := [.int x4, .int x1, .int x2]) (rest := []) S hE (ctX7_isIn l G cy   x4 x1 x2 _ h) q_8_17 q_8_18 q_1_5 q_8_19 ydX7_isIn ⟨⟨rfl, rfl⟩, ⟨Nat.le_of_ble_eq_true rfl, Nat.le_of_ble_eq_true rfl⟩⟩ ⟨Nat.zero_le _, Nat.zero_le _⟩ hP hD hS (fun _ => rfl) rfl hl.1 rfl (Nat.le_of_ble_eq_true rfl) dX7_passesNumber_105 (fun r_105 u_105 H locs h hP hD hS => ?_)
    refine lv_if_ne (tgt := 118) hx hb dX7_passesNumber_108 (by decide) (fun c_108 => ?_) (fun c_108 => ?_)
    · have h := h.1 c_108
      refine lv_iconst (v := (1 : Int32)) hx hb dX7_passesNumber_118 (by decide) ?_
      exact W.zret (v := (1 : Int32)) hx hb hr (by decide +kernel) (fun t ht hW => ⟨⟨(1 : Int32), (upd mm 3 x4), rfl, h, ⟨hp_at ht hP, hD⟩⟩, hS.F ht⟩) hS.2.2 dX7_passesNumber_119
    · have h := h.2 c_108
      refine lv_aload_n hx hb dX7_passesNumber_111 rfl (lv_at hl 0 rfl) ?_
      refine lv_iload_n hx hb dX7_passesNumber_112 rfl (lv_at hl 3 rfl) ?_
      refine kp S hE hP hD hS 0 rfl rfl 8 (by decide) q_25_18 rfl rfl tyX7_ok nmX7 inlX7 rfl rfl (Nat.le_of_ble_eq_true rfl) dX7_passesNumber_113 (fun H locs hP hD hS => ?_)
      have hP : va_P G vwCl (md_W cy a mn mf mk mg mv mt (upd (upd mm 3 x4) 2 x3)) H := hP
      have hD : va_D A (md_W cy a mn mf mk mg mv mt (upd (upd mm 3 x4) 2 x3)) := hD
      refine lv_iconst (v := (0 : Int32)) hx hb dX7_passesNumber_116 (by decide) ?_
      exact W.zret (v := (0 : Int32)) hx hb hr (by decide +kernel) (fun t ht hW => ⟨⟨(0 : Int32), (upd (upd mm 3 x4) 2 x3), rfl, h, ⟨hp_at ht hP, hD⟩⟩, hS.F ht⟩) hS.2.2 dX7_passesNumber_117
  have L_41 : ∀ (mt : Nat → Int32) (x1 : Int32) (x2 : Int32) (x3 : Int32) (k_41 : Nat) (mm : Nat → Int32) (x4 : Int32) (x5 : Int32), lp (vX7_passesNumber_41F mt x1 x2 x3 K ) k_41 (mm, x4, x5) → ∀ (H : Heap) (locs : List Loc) (ls : Array Slot), va_P G vwCl (md_W cy a mn mf mk mg mv mt mm) H → va_D A (md_W cy a mn mf mk mg mv mt mm) → va_S A s.heap H locs → lv_has ls 6 [(0, .ref (a 0)), (1, .int x1), (2, .int x2), (3, .int x3), (4, .int x4), (5, .int x5)] → W p l e (headSpec (ws_ yX7_passesNumber cX7_passesNumber 6 (some .boolean)) ({ frames := 2, cells := 0, slots := 0, locals := 42 } : Room)).room s m ([.ref (a 0), .int p1, .int p2] : List Value).toArray below meth c H locs 0 0 (MQ below (RI G K (fun u => md_W cy a mn mf mk mg mv mt u) A) ([.ref (a 0), .int p1, .int p2] : List Value).toArray s 0 0 A) (F0 m 41 ls []) := by
    intro mt x1 x2 x3 k_41
    induction k_41 with
    | zero => intro mm x4 x5 h; exact h.elim
    | succ k_41 ih_41 =>
      intro mm x4 x5 h H locs ls hP hD hS hl
      have h : vX7_passesNumber_41b mt x1 x2 x3 K  (fun z0 z1 z2 => lp (vX7_passesNumber_41F mt x1 x2 x3 K ) k_41 (z0, z1, z2)) mm x4 x5 := h
      unfold vX7_passesNumber_41b at h
      refine lv_iload hx hb dX7_passesNumber_41 (lv_at hl 5 rfl) ?_
      refine lv_iconst (v := (3 : Int32)) hx hb dX7_passesNumber_43 (by decide) ?_
      refine lv_icmp_ge (tgt := 95) hx hb dX7_passesNumber_44 (by decide) (fun c_44 => ?_) (fun c_44 => ?_)
      · have h := h.1 c_44
        exact J_95 _ _ _ _ _ _ h _ _ _ hP hD hS (lv_sub hl [0, 1, 2, 3, 4] rfl)
      · have h := h.2 c_44
        refine lv_iload hx hb dX7_passesNumber_47 (lv_at hl 4 rfl) ?_
        refine lv_if_le (tgt := 95) hx hb dX7_passesNumber_49 (by decide) (fun c_49 => ?_) (fun c_49 => ?_)
        · have h := h.1 c_49
          exact J_95 _ _ _ _ _ _ h _ _ _ hP hD hS (lv_sub hl [0, 1, 2, 3, 4] rfl)
        · have h := h.2 c_49
          refine lv_aload_n hx hb dX7_passesNumber_52 rfl (lv_at hl 0 rfl) ?_
          refine kc_Vi0 (As := []) (rest := []) S hE (ctX7_isDigitHere l G cy a mn mf mk mg mv mt mm  _ h) q_26_5 q_26_6 q_26_7 q_1_5 q_26_8 rfl 0 rfl rfl ydX7_isDigitHere ⟨⟨rfl, rfl⟩, ⟨Nat.le_of_ble_eq_true rfl, Nat.le_of_ble_eq_true rfl⟩⟩ ⟨Nat.zero_le _, Nat.zero_le _⟩ hP hD hS rfl hl.1 rfl (Nat.le_of_ble_eq_true rfl) dX7_passesNumber_53 (fun r_53 u_53 H locs h hP hD hS => ?_)
          refine lv_if_eq (tgt := 95) hx hb dX7_passesNumber_56 (by decide) (fun c_56 => ?_) (fun c_56 => ?_)
          · have h := h.1 c_56
            exact J_95 _ _ _ _ _ _ h _ _ _ hP hD hS (lv_sub hl [0, 1, 2, 3, 4] rfl)
          · have h := h.2 c_56
            refine lv_bipush (v := (10 : Int32)) hx hb dX7_passesNumber_59 (by decide) ?_
            refine lv_iload hx hb dX7_passesNumber_61 (lv_at hl 4 rfl) ?_
            refine lv_imul hx hb dX7_passesNumber_63 ?_
            refine lv_aload_n hx hb dX7_passesNumber_64 rfl (lv_at hl 0 rfl) ?_
            refine kg (v := .ref (a 6)) S hE hP 0 rfl rfl 6 (by decide) q_4_19 rfl rfl inlX7 dX7_passesNumber_65 ?_
            refine lv_aload_n hx hb dX7_passesNumber_68 rfl (lv_at hl 0 rfl) ?_
            refine kg (v := .int (mm 2)) S hE hP 0 rfl rfl 8 (by decide) q_25_18 rfl rfl inlX7 dX7_passesNumber_69 ?_
            refine kail (v := (mt (Int32.toNatClampNeg (mm 2)))) S hE hP 6 rfl h.1 rfl rfl dX7_passesNumber_72 ?_
            have h := h.2
            refine lv_iadd hx hb dX7_passesNumber_73 ?_
            refine lv_bipush (v := (48 : Int32)) hx hb dX7_passesNumber_74 (by decide) ?_
            refine lv_isub hx hb dX7_passesNumber_76 ?_
            refine lv_istore (lv' := [(4, .int ((((10 : Int32) * x4) + (mt (Int32.toNatClampNeg (mm 2)))) - (48 : Int32))), (0, .ref (a 0)), (1, .int x1), (2, .int x2), (3, .int x3), (5, .int x5)]) hx hb dX7_passesNumber_77 hl (by decide) rfl (fun ls hl => ?_)
            refine lv_aload_n hx hb dX7_passesNumber_79 rfl (lv_at hl 1 rfl) ?_
            refine lv_dup hx hb dX7_passesNumber_80 rfl ?_
            refine kg (v := .int (mm 2)) S hE hP 0 rfl rfl 8 (by decide) q_25_18 rfl rfl inlX7 dX7_passesNumber_81 ?_
            refine lv_iconst (v := (1 : Int32)) hx hb dX7_passesNumber_84 (by decide) ?_
            refine lv_iadd hx hb dX7_passesNumber_85 ?_
            refine kp S hE hP hD hS 0 rfl rfl 8 (by decide) q_25_18 rfl rfl tyX7_ok nmX7 inlX7 rfl rfl (Nat.le_of_ble_eq_true rfl) dX7_passesNumber_86 (fun H locs hP hD hS => ?_)
            have hP : va_P G vwCl (md_W cy a mn mf mk mg mv mt (upd mm 2 ((mm 2) + (1 : Int32)))) H := hP
            have hD : va_D A (md_W cy a mn mf mk mg mv mt (upd mm 2 ((mm 2) + (1 : Int32)))) := hD
            refine lv_iinc (v := (x5 + (1 : Int32))) (lv' := [(5, .int (x5 + (1 : Int32))), (4, .int ((((10 : Int32) * x4) + (mt (Int32.toNatClampNeg (mm 2)))) - (48 : Int32))), (0, .ref (a 0)), (1, .int x1), (2, .int x2), (3, .int x3)]) hx hb dX7_passesNumber_89 hl (k := 5) rfl (by rfl) (by decide) rfl (fun ls hl => ?_)
            refine lv_goto (tgt := 41) hx hb dX7_passesNumber_92 (by decide) ?_
            exact ih_41 _ _ _ h _ _ _ hP hD hS (lv_sub hl [2, 3, 4, 5, 1, 0] rfl)
  refine lv_aload_n hx hb dX7_passesNumber_0 rfl (lv_at hl 0 rfl) ?_
  refine kc_Vi0 (As := []) (rest := []) S hE (ctX7_isDigitHere l G cy a mn mf mk mg mv mt mm  _ h) q_26_5 q_26_6 q_26_7 q_1_5 q_26_8 rfl 0 rfl rfl ydX7_isDigitHere ⟨⟨rfl, rfl⟩, ⟨Nat.le_of_ble_eq_true rfl, Nat.le_of_ble_eq_true rfl⟩⟩ ⟨Nat.zero_le _, Nat.zero_le _⟩ hP hD hS rfl hl.1 rfl (Nat.le_of_ble_eq_true rfl) dX7_passesNumber_1 (fun r_1 u_1 H locs h hP hD hS => ?_)
  refine lv_if_ne (tgt := 9) hx hb dX7_passesNumber_4 (by decide) (fun c_4 => ?_) (fun c_4 => ?_)
  · have h := h.1 c_4
    refine lv_aload_n hx hb dX7_passesNumber_9 rfl (lv_at hl 0 rfl) ?_
    refine kg (v := .int (mm 2)) S hE hP 0 rfl rfl 8 (by decide) q_25_18 rfl rfl inlX7 dX7_passesNumber_10 ?_
    refine lv_istore_n (lv' := [(3, .int (mm 2)), (0, .ref (a 0)), (1, .int p1), (2, .int p2)]) hx hb dX7_passesNumber_13 rfl hl (by decide) rfl (fun ls hl => ?_)
    refine lv_aload_n hx hb dX7_passesNumber_14 rfl (lv_at hl 1 rfl) ?_
    refine kg (v := .ref (a 6)) S hE hP 0 rfl rfl 6 (by decide) q_4_19 rfl rfl inlX7 dX7_passesNumber_15 ?_
    refine lv_aload_n hx hb dX7_passesNumber_18 rfl (lv_at hl 1 rfl) ?_
    refine kg (v := .int (mm 2)) S hE hP 0 rfl rfl 8 (by decide) q_25_18 rfl rfl inlX7 dX7_passesNumber_19 ?_
    refine kail (v := (mt (Int32.toNatClampNeg (mm 2)))) S hE hP 6 rfl h.1 rfl rfl dX7_passesNumber_22 ?_
    have h := h.2
    refine lv_bipush (v := (48 : Int32)) hx hb dX7_passesNumber_23 (by decide) ?_
    refine lv_isub hx hb dX7_passesNumber_25 ?_
    refine lv_istore (lv' := [(4, .int ((mt (Int32.toNatClampNeg (mm 2))) - (48 : Int32))), (3, .int (mm 2)), (0, .ref (a 0)), (1, .int p1), (2, .int p2)]) hx hb dX7_passesNumber_26 hl (by decide) rfl (fun ls hl => ?_)
    refine lv_aload_n hx hb dX7_passesNumber_28 rfl (lv_at hl 2 rfl) ?_
    refine lv_dup hx hb dX7_passesNumber_29 rfl ?_
    refine kg (v := .int (mm 2)) S hE hP 0 rfl rfl 8 (by decide) q_25_18 rfl rfl inlX7 dX7_passesNumber_30 ?_
    refine lv_iconst (v := (1 : Int32)) hx hb dX7_passesNumber_33 (by decide) ?_
    refine lv_iadd hx hb dX7_passesNumber_34 ?_
    refine kp S hE hP hD hS 0 rfl rfl 8 (by decide) q_25_18 rfl rfl tyX7_ok nmX7 inlX7 rfl rfl (Nat.le_of_ble_eq_true rfl) dX7_passesNumber_35 (fun H locs hP hD hS => ?_)
    have hP : va_P G vwCl (md_W cy a mn mf mk mg mv mt (upd mm 2 ((mm 2) + (1 : Int32)))) H := hP
    have hD : va_D A (md_W cy a mn mf mk mg mv mt (upd mm 2 ((mm 2) + (1 : Int32)))) := hD
    refine lv_iconst (v := (1 : Int32)) hx hb dX7_passesNumber_38 (by decide) ?_
    refine lv_istore (lv' := [(5, .int (1 : Int32)), (4, .int ((mt (Int32.toNatClampNeg (mm 2))) - (48 : Int32))), (3, .int (mm 2)), (0, .ref (a 0)), (1, .int p1), (2, .int p2)]) hx hb dX7_passesNumber_39 hl (by decide) rfl (fun ls hl => ?_)
    obtain ⟨k0, h⟩ := h
    exact L_41 _ _ _ _ k0 _ _ _ h _ _ _ hP hD hS (lv_sub hl [3, 4, 5, 2, 1, 0] rfl)
  · have h := h.2 c_4
    refine lv_iconst (v := (0 : Int32)) hx hb dX7_passesNumber_7 (by decide) ?_
    exact W.zret (v := (0 : Int32)) hx hb hr (by decide +kernel) (fun t ht hW => ⟨⟨(0 : Int32), mm, rfl, h, ⟨hp_at ht hP, hD⟩⟩, hS.F ht⟩) hS.2.2 dX7_passesNumber_8
def vX7_passesAct_125 (mt : Nat → Int32) (mm : Nat → Int32) (K : Int32 → (Nat → Int32) → Prop)  : Prop :=
  ((mm 2) = (mm 1) → K (0 : Int32) mm) ∧ (¬ (mm 2) = (mm 1) → vp_in (mm 2) 80 ∧ ((mt (Int32.toNatClampNeg (mm 2))) = (59 : Int32) → K (1 : Int32) (upd mm 2 ((mm 2) + (1 : Int32)))) ∧ (¬ (mt (Int32.toNatClampNeg (mm 2))) = (59 : Int32) → K (0 : Int32) mm))
def vX7_passesAct_103 (mt : Nat → Int32) (mm : Nat → Int32) (K : Int32 → (Nat → Int32) → Prop)  : Prop :=
  (¬ (mm 4) = (116 : Int32) → vX7_passesAct_125 mt mm K ) ∧ ((mm 4) = (116 : Int32) → vX7_passesNumber mt mm (1 : Int32) (200 : Int32) (fun r_117 u_117 => (¬ r_117 = (0 : Int32) → vX7_passesAct_125 mt u_117 K ) ∧ (r_117 = (0 : Int32) → K (0 : Int32) u_117)))
def vX7_passesAct_75 (mt : Nat → Int32) (mm : Nat → Int32) (K : Int32 → (Nat → Int32) → Prop)  : Prop :=
  (¬ (mm 4) = (111 : Int32) → vX7_passesAct_103 mt (upd mm 2 ((mm 2) + (1 : Int32))) K ) ∧ ((mm 4) = (111 : Int32) → vX7_passesNumber mt (upd mm 2 ((mm 2) + (1 : Int32))) (0 : Int32) (3 : Int32) (fun r_97 u_97 => (r_97 = (0 : Int32) → K (0 : Int32) u_97) ∧ (¬ r_97 = (0 : Int32) → vX7_passesAct_103 mt u_97 K )))
def vX7_passesAct_25 (mt : Nat → Int32) (mm : Nat → Int32) (y1 : Int32) (K : Int32 → (Nat → Int32) → Prop)  : Prop :=
  (y1 = (103 : Int32) → vX7_passesAct_75 mt (upd mm 4 y1) K ) ∧ (¬ y1 = (103 : Int32) → (y1 = (102 : Int32) → vX7_passesAct_75 mt (upd mm 4 y1) K ) ∧ (¬ y1 = (102 : Int32) → (y1 = (98 : Int32) → vX7_passesAct_75 mt (upd mm 4 y1) K ) ∧ (¬ y1 = (98 : Int32) → (y1 = (111 : Int32) → vX7_passesAct_75 mt (upd mm 4 y1) K ) ∧ (¬ y1 = (111 : Int32) → (y1 = (116 : Int32) → vX7_passesAct_75 mt (upd mm 4 y1) K ) ∧ (¬ y1 = (116 : Int32) → K (0 : Int32) (upd mm 4 y1))))))
def vX7_passesAct (mt : Nat → Int32) (mm : Nat → Int32) (K : Int32 → (Nat → Int32) → Prop) : Prop :=
  ((mm 1) ≤ (mm 2) → vX7_passesAct_25 mt mm (0 : Int32) K ) ∧ (¬ (mm 1) ≤ (mm 2) → vp_in (mm 2) 80 ∧ vX7_passesAct_25 mt mm (mt (Int32.toNatClampNeg (mm 2))) K )
set_option maxRecDepth 100000 in
set_option maxHeartbeats 4000000 in
theorem ctX7_passesAct (l : Launch) (G : va_G) (cy : Nat → ClassId) (a : Nat → Nat) (mn : Nat → Int32) (mf : Nat → UInt32) (mk : Nat → Int32) (mg : Nat → UInt32) (mv : Nat → Int32) (mt : Nat → Int32) (mm : Nat → Int32)  (K : Int32 → (Nat → Int32) → Prop) (h : vX7_passesAct mt mm K) : Met l yX7_passesAct (ws_ yX7_passesAct cX7_passesAct 1 (some .boolean)) ({ frames := 3, cells := 0, slots := 0, locals := 67 } : Room) (CP G cy [.ref (a 0)] (md_W cy a mn mf mk mg mv mt mm)) (RI G K (fun u => md_W cy a mn mf mk mg mv mt u) (A1 (md_W cy a mn mf mk mg mv mt mm))) 0 0 (A1 (md_W cy a mn mf mk mg mv mt mm)) := by
  refine hd_go (Qf := fun A => (RI G K (fun u => md_W cy a mn mf mk mg mv mt u) A)) (by decide +kernel) (Nat.le_of_ble_eq_true rfl) ?_
  intro p e s m below meth c ls A hx hb hr hlocks S hE hP hD hS hl
  have hl : lv_has ls 1 [(0, .ref (a 0))] := hl
  unfold vX7_passesAct at h
  have J_125 : ∀ (mt : Nat → Int32) (mm : Nat → Int32), vX7_passesAct_125 mt mm K  → ∀ (H : Heap) (locs : List Loc) (ls : Array Slot), va_P G vwCl (md_W cy a mn mf mk mg mv mt mm) H → va_D A (md_W cy a mn mf mk mg mv mt mm) → va_S A s.heap H locs → lv_has ls 1 [(0, .ref (a 0))] → W p l e (headSpec (ws_ yX7_passesAct cX7_passesAct 1 (some .boolean)) ({ frames := 3, cells := 0, slots := 0, locals := 67 } : Room)).room s m ([.ref (a 0)] : List Value).toArray below meth c H locs 0 0 (MQ below (RI G K (fun u => md_W cy a mn mf mk mg mv mt u) A) ([.ref (a 0)] : List Value).toArray s 0 0 A) (F0 m 125 ls []) := by
    intro mt mm h H locs ls hP hD hS hl
    unfold vX7_passesAct_125 at h
    refine lv_aload_n hx hb dX7_passesAct_125 rfl (lv_at hl 0 rfl) ?_
    refine kg (v := .int (mm 2)) S hE hP 0 rfl rfl 8 (by decide) q_25_18 rfl rfl inlX7 dX7_passesAct_126 ?_
    refine lv_aload_n hx hb dX7_passesAct_129 rfl (lv_at hl 0 rfl) ?_
    refine kg (v := .int (mm 1)) S hE hP 0 rfl rfl 7 (by decide) q_23_23 rfl rfl inlX7 dX7_passesAct_130 ?_
    refine lv_icmp_eq (tgt := 150) hx hb dX7_passesAct_133 (by decide) (fun c_133 => ?_) (fun c_133 => ?_)
    · have h := h.1 c_133
      refine lv_iconst (v := (0 : Int32)) hx hb dX7_passesAct_150 (by decide) ?_
      exact W.zret (v := (0 : Int32)) hx hb hr (by decide +kernel) (fun t ht hW => ⟨⟨(0 : Int32), mm, rfl, h, ⟨hp_at ht hP, hD⟩⟩, hS.F ht⟩) hS.2.2 dX7_passesAct_151
    · have h := h.2 c_133
      refine lv_aload_n hx hb dX7_passesAct_136 rfl (lv_at hl 0 rfl) ?_
      refine kg (v := .ref (a 6)) S hE hP 0 rfl rfl 6 (by decide) q_4_19 rfl rfl inlX7 dX7_passesAct_137 ?_
      refine lv_aload_n hx hb dX7_passesAct_140 rfl (lv_at hl 0 rfl) ?_
      refine kg (v := .int (mm 2)) S hE hP 0 rfl rfl 8 (by decide) q_25_18 rfl rfl inlX7 dX7_passesAct_141 ?_
      refine kail (v := (mt (Int32.toNatClampNeg (mm 2)))) S hE hP 6 rfl h.1 rfl rfl dX7_passesAct_144 ?_
      have h := h.2
      refine lv_bipush (v := (59 : Int32)) hx hb dX7_passesAct_145 (by decide) ?_
      refine lv_icmp_eq (tgt := 152) hx hb dX7_passesAct_147 (by decide) (fun c_147 => ?_) (fun c_147 => ?_)
      · have h := h.1 c_147
        refine lv_aload_n hx hb dX7_passesAct_152 rfl (lv_at hl 0 rfl) ?_
        refine lv_dup hx hb dX7_passesAct_153 rfl ?_
        refine kg (v := .int (mm 2)) S hE hP 0 rfl rfl 8 (by decide) q_25_18 rfl rfl inlX7 dX7_passesAct_154 ?_
        refine lv_iconst (v := (1 : Int32)) hx hb dX7_passesAct_157 (by decide) ?_
        refine lv_iadd hx hb dX7_passesAct_158 ?_
        refine kp S hE hP hD hS 0 rfl rfl 8 (by decide) q_25_18 rfl rfl tyX7_ok nmX7 inlX7 rfl rfl (Nat.le_of_ble_eq_true rfl) dX7_passesAct_159 (fun H locs hP hD hS => ?_)
        have hP : va_P G vwCl (md_W cy a mn mf mk mg mv mt (upd mm 2 ((mm 2) + (1 : Int32)))) H := hP
        have hD : va_D A (md_W cy a mn mf mk mg mv mt (upd mm 2 ((mm 2) + (1 : Int32)))) := hD
        refine lv_iconst (v := (1 : Int32)) hx hb dX7_passesAct_162 (by decide) ?_
        exact W.zret (v := (1 : Int32)) hx hb hr (by decide +kernel) (fun t ht hW => ⟨⟨(1 : Int32), (upd mm 2 ((mm 2) + (1 : Int32))), rfl, h, ⟨hp_at ht hP, hD⟩⟩, hS.F ht⟩) hS.2.2 dX7_passesAct_163
      · have h := h.2 c_147
        refine lv_iconst (v := (0 : Int32)) hx hb dX7_passesAct_150 (by decide) ?_
        exact W.zret (v := (0 : Int32)) hx hb hr (by decide +kernel) (fun t ht hW => ⟨⟨(0 : Int32), mm, rfl, h, ⟨hp_at ht hP, hD⟩⟩, hS.F ht⟩) hS.2.2 dX7_passesAct_151
  have J_103 : ∀ (mt : Nat → Int32) (mm : Nat → Int32), vX7_passesAct_103 mt mm K  → ∀ (H : Heap) (locs : List Loc) (ls : Array Slot), va_P G vwCl (md_W cy a mn mf mk mg mv mt mm) H → va_D A (md_W cy a mn mf mk mg mv mt mm) → va_S A s.heap H locs → lv_has ls 1 [(0, .ref (a 0))] → W p l e (headSpec (ws_ yX7_passesAct cX7_passesAct 1 (some .boolean)) ({ frames := 3, cells := 0, slots := 0, locals := 67 } : Room)).room s m ([.ref (a 0)] : List Value).toArray below meth c H locs 0 0 (MQ below (RI G K (fun u => md_W cy a mn mf mk mg mv mt u) A) ([.ref (a 0)] : List Value).toArray s 0 0 A) (F0 m 103 ls []) := by
    intro mt mm h H locs ls hP hD hS hl
    unfold vX7_passesAct_103 at h
    refine lv_aload_n hx hb dX7_passesAct_103 rfl (lv_at hl 0 rfl) ?_
    refine kg (v := .int (mm 4)) S hE hP 0 rfl rfl 10 (by decide) q_25_23 rfl rfl inlX7 dX7_passesAct_104 ?_
    refine lv_bipush (v := (116 : Int32)) hx hb dX7_passesAct_107 (by decide) ?_
    refine lv_icmp_ne (tgt := 125) hx hb dX7_passesAct_109 (by decide) (fun c_109 => ?_) (fun c_109 => ?_)
    · have h := h.1 c_109
      exact J_125 _ _ h _ _ _ hP hD hS (lv_sub hl [0] rfl)
    · have h := h.2 c_109
      refine lv_aload_n hx hb dX7_passesAct_112 rfl (lv_at hl 0 rfl) ?_
      refine lv_iconst (v := (1 : Int32)) hx hb dX7_passesAct_113 (by decide) ?_
      refine lv_sipush (v := (200 : Int32)) hx hb dX7_passesAct_114 (by decide) ?_
      refine kc_Vi0 (As := [.int (1 : Int32), .int (200 : Int32)]) (rest := []) S hE (ctX7_passesNumber l G cy a mn mf mk mg mv mt mm (1 : Int32) (200 : Int32) _ h) q_26_0 q_26_1 q_26_2 q_1_5 q_26_3 rfl 0 rfl rfl ydX7_passesNumber ⟨⟨rfl, rfl⟩, ⟨Nat.le_of_ble_eq_true rfl, Nat.le_of_ble_eq_true rfl⟩⟩ ⟨Nat.zero_le _, Nat.zero_le _⟩ hP hD hS rfl hl.1 rfl (Nat.le_of_ble_eq_true rfl) dX7_passesAct_117 (fun r_117 u_117 H locs h hP hD hS => ?_)
      refine lv_if_ne (tgt := 125) hx hb dX7_passesAct_120 (by decide) (fun c_120 => ?_) (fun c_120 => ?_)
      · have h := h.1 c_120
        exact J_125 _ _ h _ _ _ hP hD hS (lv_sub hl [0] rfl)
      · have h := h.2 c_120
        refine lv_iconst (v := (0 : Int32)) hx hb dX7_passesAct_123 (by decide) ?_
        exact W.zret (v := (0 : Int32)) hx hb hr (by decide +kernel) (fun t ht hW => ⟨⟨(0 : Int32), u_117, rfl, h, ⟨hp_at ht hP, hD⟩⟩, hS.F ht⟩) hS.2.2 dX7_passesAct_124
  have J_75 : ∀ (mt : Nat → Int32) (mm : Nat → Int32), vX7_passesAct_75 mt mm K  → ∀ (H : Heap) (locs : List Loc) (ls : Array Slot), va_P G vwCl (md_W cy a mn mf mk mg mv mt mm) H → va_D A (md_W cy a mn mf mk mg mv mt mm) → va_S A s.heap H locs → lv_has ls 1 [(0, .ref (a 0))] → W p l e (headSpec (ws_ yX7_passesAct cX7_passesAct 1 (some .boolean)) ({ frames := 3, cells := 0, slots := 0, locals := 67 } : Room)).room s m ([.ref (a 0)] : List Value).toArray below meth c H locs 0 0 (MQ below (RI G K (fun u => md_W cy a mn mf mk mg mv mt u) A) ([.ref (a 0)] : List Value).toArray s 0 0 A) (F0 m 75 ls []) := by
    intro mt mm h H locs ls hP hD hS hl
    unfold vX7_passesAct_75 at h
    refine lv_aload_n hx hb dX7_passesAct_75 rfl (lv_at hl 0 rfl) ?_
    refine lv_dup hx hb dX7_passesAct_76 rfl ?_
    refine kg (v := .int (mm 2)) S hE hP 0 rfl rfl 8 (by decide) q_25_18 rfl rfl inlX7 dX7_passesAct_77 ?_
    refine lv_iconst (v := (1 : Int32)) hx hb dX7_passesAct_80 (by decide) ?_
    refine lv_iadd hx hb dX7_passesAct_81 ?_
    refine kp S hE hP hD hS 0 rfl rfl 8 (by decide) q_25_18 rfl rfl tyX7_ok nmX7 inlX7 rfl rfl (Nat.le_of_ble_eq_true rfl) dX7_passesAct_82 (fun H locs hP hD hS => ?_)
    have hP : va_P G vwCl (md_W cy a mn mf mk mg mv mt (upd mm 2 ((mm 2) + (1 : Int32)))) H := hP
    have hD : va_D A (md_W cy a mn mf mk mg mv mt (upd mm 2 ((mm 2) + (1 : Int32)))) := hD
    refine lv_aload_n hx hb dX7_passesAct_85 rfl (lv_at hl 0 rfl) ?_
    refine kg (v := .int (mm 4)) S hE hP 0 rfl rfl 10 (by decide) q_25_23 rfl rfl inlX7 dX7_passesAct_86 ?_
    refine lv_bipush (v := (111 : Int32)) hx hb dX7_passesAct_89 (by decide) ?_
    refine lv_icmp_ne (tgt := 103) hx hb dX7_passesAct_91 (by decide) (fun c_91 => ?_) (fun c_91 => ?_)
    · have h := h.1 c_91
      exact J_103 _ _ h _ _ _ hP hD hS (lv_sub hl [0] rfl)
    · have h := h.2 c_91
      refine lv_aload_n hx hb dX7_passesAct_94 rfl (lv_at hl 0 rfl) ?_
      refine lv_iconst (v := (0 : Int32)) hx hb dX7_passesAct_95 (by decide) ?_
      refine lv_iconst (v := (3 : Int32)) hx hb dX7_passesAct_96 (by decide) ?_
      refine kc_Vi0 (As := [.int (0 : Int32), .int (3 : Int32)]) (rest := []) S hE (ctX7_passesNumber l G cy a mn mf mk mg mv mt (upd mm 2 ((mm 2) + (1 : Int32))) (0 : Int32) (3 : Int32) _ h) q_26_0 q_26_1 q_26_2 q_1_5 q_26_3 rfl 0 rfl rfl ydX7_passesNumber ⟨⟨rfl, rfl⟩, ⟨Nat.le_of_ble_eq_true rfl, Nat.le_of_ble_eq_true rfl⟩⟩ ⟨Nat.zero_le _, Nat.zero_le _⟩ hP hD hS rfl hl.1 rfl (Nat.le_of_ble_eq_true rfl) dX7_passesAct_97 (fun r_97 u_97 H locs h hP hD hS => ?_)
      refine lv_if_eq (tgt := 123) hx hb dX7_passesAct_100 (by decide) (fun c_100 => ?_) (fun c_100 => ?_)
      · have h := h.1 c_100
        refine lv_iconst (v := (0 : Int32)) hx hb dX7_passesAct_123 (by decide) ?_
        exact W.zret (v := (0 : Int32)) hx hb hr (by decide +kernel) (fun t ht hW => ⟨⟨(0 : Int32), u_97, rfl, h, ⟨hp_at ht hP, hD⟩⟩, hS.F ht⟩) hS.2.2 dX7_passesAct_124
      · have h := h.2 c_100
        exact J_103 _ _ h _ _ _ hP hD hS (lv_sub hl [0] rfl)
  have J_25 : ∀ (mt : Nat → Int32) (mm : Nat → Int32) (y1 : Int32), vX7_passesAct_25 mt mm y1 K  → ∀ (H : Heap) (locs : List Loc) (ls : Array Slot), va_P G vwCl (md_W cy a mn mf mk mg mv mt mm) H → va_D A (md_W cy a mn mf mk mg mv mt mm) → va_S A s.heap H locs → lv_has ls 1 [(0, .ref (a 0))] → W p l e (headSpec (ws_ yX7_passesAct cX7_passesAct 1 (some .boolean)) ({ frames := 3, cells := 0, slots := 0, locals := 67 } : Room)).room s m ([.ref (a 0)] : List Value).toArray below meth c H locs 0 0 (MQ below (RI G K (fun u => md_W cy a mn mf mk mg mv mt u) A) ([.ref (a 0)] : List Value).toArray s 0 0 A) (F0 m 25 ls [.int y1, .ref (a 0)]) := by
    intro mt mm y1 h H locs ls hP hD hS hl
    unfold vX7_passesAct_25 at h
    refine kp S hE hP hD hS 0 rfl rfl 10 (by decide) q_25_23 rfl rfl tyX7_ok nmX7 inlX7 rfl rfl (Nat.le_of_ble_eq_true rfl) dX7_passesAct_25 (fun H locs hP hD hS => ?_)
    have hP : va_P G vwCl (md_W cy a mn mf mk mg mv mt (upd mm 4 y1)) H := hP
    have hD : va_D A (md_W cy a mn mf mk mg mv mt (upd mm 4 y1)) := hD
    refine lv_aload_n hx hb dX7_passesAct_28 rfl (lv_at hl 0 rfl) ?_
    refine kg (v := .int y1) S hE hP 0 rfl rfl 10 (by decide) q_25_23 rfl rfl inlX7 dX7_passesAct_29 ?_
    refine lv_bipush (v := (103 : Int32)) hx hb dX7_passesAct_32 (by decide) ?_
    refine lv_icmp_eq (tgt := 75) hx hb dX7_passesAct_34 (by decide) (fun c_34 => ?_) (fun c_34 => ?_)
    · have h := h.1 c_34
      exact J_75 _ _ h _ _ _ hP hD hS (lv_sub hl [0] rfl)
    · have h := h.2 c_34
      refine lv_aload_n hx hb dX7_passesAct_37 rfl (lv_at hl 0 rfl) ?_
      refine kg (v := .int y1) S hE hP 0 rfl rfl 10 (by decide) q_25_23 rfl rfl inlX7 dX7_passesAct_38 ?_
      refine lv_bipush (v := (102 : Int32)) hx hb dX7_passesAct_41 (by decide) ?_
      refine lv_icmp_eq (tgt := 75) hx hb dX7_passesAct_43 (by decide) (fun c_43 => ?_) (fun c_43 => ?_)
      · have h := h.1 c_43
        exact J_75 _ _ h _ _ _ hP hD hS (lv_sub hl [0] rfl)
      · have h := h.2 c_43
        refine lv_aload_n hx hb dX7_passesAct_46 rfl (lv_at hl 0 rfl) ?_
        refine kg (v := .int y1) S hE hP 0 rfl rfl 10 (by decide) q_25_23 rfl rfl inlX7 dX7_passesAct_47 ?_
        refine lv_bipush (v := (98 : Int32)) hx hb dX7_passesAct_50 (by decide) ?_
        refine lv_icmp_eq (tgt := 75) hx hb dX7_passesAct_52 (by decide) (fun c_52 => ?_) (fun c_52 => ?_)
        · have h := h.1 c_52
          exact J_75 _ _ h _ _ _ hP hD hS (lv_sub hl [0] rfl)
        · have h := h.2 c_52
          refine lv_aload_n hx hb dX7_passesAct_55 rfl (lv_at hl 0 rfl) ?_
          refine kg (v := .int y1) S hE hP 0 rfl rfl 10 (by decide) q_25_23 rfl rfl inlX7 dX7_passesAct_56 ?_
          refine lv_bipush (v := (111 : Int32)) hx hb dX7_passesAct_59 (by decide) ?_
          refine lv_icmp_eq (tgt := 75) hx hb dX7_passesAct_61 (by decide) (fun c_61 => ?_) (fun c_61 => ?_)
          · have h := h.1 c_61
            exact J_75 _ _ h _ _ _ hP hD hS (lv_sub hl [0] rfl)
          · have h := h.2 c_61
            refine lv_aload_n hx hb dX7_passesAct_64 rfl (lv_at hl 0 rfl) ?_
            refine kg (v := .int y1) S hE hP 0 rfl rfl 10 (by decide) q_25_23 rfl rfl inlX7 dX7_passesAct_65 ?_
            refine lv_bipush (v := (116 : Int32)) hx hb dX7_passesAct_68 (by decide) ?_
            refine lv_icmp_eq (tgt := 75) hx hb dX7_passesAct_70 (by decide) (fun c_70 => ?_) (fun c_70 => ?_)
            · have h := h.1 c_70
              exact J_75 _ _ h _ _ _ hP hD hS (lv_sub hl [0] rfl)
            · have h := h.2 c_70
              refine lv_iconst (v := (0 : Int32)) hx hb dX7_passesAct_73 (by decide) ?_
              exact W.zret (v := (0 : Int32)) hx hb hr (by decide +kernel) (fun t ht hW => ⟨⟨(0 : Int32), (upd mm 4 y1), rfl, h, ⟨hp_at ht hP, hD⟩⟩, hS.F ht⟩) hS.2.2 dX7_passesAct_74
  refine lv_aload_n hx hb dX7_passesAct_0 rfl (lv_at hl 0 rfl) ?_
  refine lv_aload_n hx hb dX7_passesAct_1 rfl (lv_at hl 0 rfl) ?_
  refine kg (v := .int (mm 2)) S hE hP 0 rfl rfl 8 (by decide) q_25_18 rfl rfl inlX7 dX7_passesAct_2 ?_
  refine lv_aload_n hx hb dX7_passesAct_5 rfl (lv_at hl 0 rfl) ?_
  refine kg (v := .int (mm 1)) S hE hP 0 rfl rfl 7 (by decide) q_23_23 rfl rfl inlX7 dX7_passesAct_6 ?_
  refine lv_icmp_ge (tgt := 24) hx hb dX7_passesAct_9 (by decide) (fun c_9 => ?_) (fun c_9 => ?_)
  · have h := h.1 c_9
    refine lv_iconst (v := (0 : Int32)) hx hb dX7_passesAct_24 (by decide) ?_
    exact J_25 _ _ _ h _ _ _ hP hD hS (lv_sub hl [0] rfl)
  · have h := h.2 c_9
    refine lv_aload_n hx hb dX7_passesAct_12 rfl (lv_at hl 0 rfl) ?_
    refine kg (v := .ref (a 6)) S hE hP 0 rfl rfl 6 (by decide) q_4_19 rfl rfl inlX7 dX7_passesAct_13 ?_
    refine lv_aload_n hx hb dX7_passesAct_16 rfl (lv_at hl 0 rfl) ?_
    refine kg (v := .int (mm 2)) S hE hP 0 rfl rfl 8 (by decide) q_25_18 rfl rfl inlX7 dX7_passesAct_17 ?_
    refine kail (v := (mt (Int32.toNatClampNeg (mm 2)))) S hE hP 6 rfl h.1 rfl rfl dX7_passesAct_20 ?_
    have h := h.2
    refine lv_goto (tgt := 25) hx hb dX7_passesAct_21 (by decide) ?_
    exact J_25 _ _ _ h _ _ _ hP hD hS (lv_sub hl [0] rfl)
def vX7_faultPosition_5b (mt : Nat → Int32) (K : Int32 → (Nat → Int32) → Prop)  (B5 : (Nat → Int32) → Prop) (mm : Nat → Int32) : Prop :=
  ((mm 1) ≤ (mm 2) → K (-5 : Int32) mm) ∧ (¬ (mm 1) ≤ (mm 2) → vX7_passesAct mt mm (fun r_17 u_17 => (¬ r_17 = (0 : Int32) → B5 u_17) ∧ (r_17 = (0 : Int32) → K (u_17 2) u_17)))
def vX7_faultPosition_5F (mt : Nat → Int32) (K : Int32 → (Nat → Int32) → Prop)  : (((Nat → Int32)) → Prop) → ((Nat → Int32)) → Prop := fun B z => vX7_faultPosition_5b mt K  (fun z0 => B z0) z
def vX7_faultPosition (mt : Nat → Int32) (mm : Nat → Int32) (K : Int32 → (Nat → Int32) → Prop) : Prop :=
  ∃ k, lp (vX7_faultPosition_5F mt K ) k (upd mm 2 (0 : Int32))
set_option maxRecDepth 100000 in
set_option maxHeartbeats 4000000 in
theorem ctX7_faultPosition (l : Launch) (G : va_G) (cy : Nat → ClassId) (a : Nat → Nat) (mn : Nat → Int32) (mf : Nat → UInt32) (mk : Nat → Int32) (mg : Nat → UInt32) (mv : Nat → Int32) (mt : Nat → Int32) (mm : Nat → Int32)  (K : Int32 → (Nat → Int32) → Prop) (h : vX7_faultPosition mt mm K) : Met l yX7_faultPosition (ws_ yX7_faultPosition cX7_faultPosition 1 (some .int)) ({ frames := 4, cells := 0, slots := 0, locals := 87 } : Room) (CP G cy [.ref (a 0)] (md_W cy a mn mf mk mg mv mt mm)) (RI G K (fun u => md_W cy a mn mf mk mg mv mt u) (A1 (md_W cy a mn mf mk mg mv mt mm))) 0 0 (A1 (md_W cy a mn mf mk mg mv mt mm)) := by
  refine hd_go (Qf := fun A => (RI G K (fun u => md_W cy a mn mf mk mg mv mt u) A)) (by decide +kernel) (Nat.le_of_ble_eq_true rfl) ?_
  intro p e s m below meth c ls A hx hb hr hlocks S hE hP hD hS hl
  have hl : lv_has ls 1 [(0, .ref (a 0))] := hl
  unfold vX7_faultPosition at h
  have L_5 : ∀ (mt : Nat → Int32) (k_5 : Nat) (mm : Nat → Int32), lp (vX7_faultPosition_5F mt K ) k_5 mm → ∀ (H : Heap) (locs : List Loc) (ls : Array Slot), va_P G vwCl (md_W cy a mn mf mk mg mv mt mm) H → va_D A (md_W cy a mn mf mk mg mv mt mm) → va_S A s.heap H locs → lv_has ls 1 [(0, .ref (a 0))] → W p l e (headSpec (ws_ yX7_faultPosition cX7_faultPosition 1 (some .int)) ({ frames := 4, cells := 0, slots := 0, locals := 87 } : Room)).room s m ([.ref (a 0)] : List Value).toArray below meth c H locs 0 0 (MQ below (RI G K (fun u => md_W cy a mn mf mk mg mv mt u) A) ([.ref (a 0)] : List Value).toArray s 0 0 A) (F0 m 5 ls []) := by
    intro mt k_5
    induction k_5 with
    | zero => intro mm h; exact h.elim
    | succ k_5 ih_5 =>
      intro mm h H locs ls hP hD hS hl
      have h : vX7_faultPosition_5b mt K  (fun z0 => lp (vX7_faultPosition_5F mt K ) k_5 z0) mm := h
      unfold vX7_faultPosition_5b at h
      refine lv_aload_n hx hb dX7_faultPosition_5 rfl (lv_at hl 0 rfl) ?_
      refine kg (v := .int (mm 2)) S hE hP 0 rfl rfl 8 (by decide) q_25_18 rfl rfl inlX7 dX7_faultPosition_6 ?_
      refine lv_aload_n hx hb dX7_faultPosition_9 rfl (lv_at hl 0 rfl) ?_
      refine kg (v := .int (mm 1)) S hE hP 0 rfl rfl 7 (by decide) q_23_23 rfl rfl inlX7 dX7_faultPosition_10 ?_
      refine lv_icmp_ge (tgt := 28) hx hb dX7_faultPosition_13 (by decide) (fun c_13 => ?_) (fun c_13 => ?_)
      · have h := h.1 c_13
        refine lv_bipush (v := (-5 : Int32)) hx hb dX7_faultPosition_28 (by decide) ?_
        exact W.iret (v := (-5 : Int32)) hx hb hr (fun t ht hW => ⟨⟨(-5 : Int32), mm, rfl, h, ⟨hp_at ht hP, hD⟩⟩, hS.F ht⟩) hS.2.2 dX7_faultPosition_30
      · have h := h.2 c_13
        refine lv_aload_n hx hb dX7_faultPosition_16 rfl (lv_at hl 0 rfl) ?_
        refine kc_Vi0 (As := []) (rest := []) S hE (ctX7_passesAct l G cy a mn mf mk mg mv mt mm  _ h) q_25_19 q_25_20 q_25_21 q_1_5 q_25_22 rfl 0 rfl rfl ydX7_passesAct ⟨⟨rfl, rfl⟩, ⟨Nat.le_of_ble_eq_true rfl, Nat.le_of_ble_eq_true rfl⟩⟩ ⟨Nat.zero_le _, Nat.zero_le _⟩ hP hD hS rfl hl.1 rfl (Nat.le_of_ble_eq_true rfl) dX7_faultPosition_17 (fun r_17 u_17 H locs h hP hD hS => ?_)
        refine lv_if_ne (tgt := 5) hx hb dX7_faultPosition_20 (by decide) (fun c_20 => ?_) (fun c_20 => ?_)
        · have h := h.1 c_20
          exact ih_5 _ h _ _ _ hP hD hS (lv_sub hl [0] rfl)
        · have h := h.2 c_20
          refine lv_aload_n hx hb dX7_faultPosition_23 rfl (lv_at hl 0 rfl) ?_
          refine kg (v := .int (u_17 2)) S hE hP 0 rfl rfl 8 (by decide) q_25_18 rfl rfl inlX7 dX7_faultPosition_24 ?_
          exact W.iret (v := (u_17 2)) hx hb hr (fun t ht hW => ⟨⟨(u_17 2), u_17, rfl, h, ⟨hp_at ht hP, hD⟩⟩, hS.F ht⟩) hS.2.2 dX7_faultPosition_27
  refine lv_aload_n hx hb dX7_faultPosition_0 rfl (lv_at hl 0 rfl) ?_
  refine lv_iconst (v := (0 : Int32)) hx hb dX7_faultPosition_1 (by decide) ?_
  refine kp S hE hP hD hS 0 rfl rfl 8 (by decide) q_25_18 rfl rfl tyX7_ok nmX7 inlX7 rfl rfl (Nat.le_of_ble_eq_true rfl) dX7_faultPosition_2 (fun H locs hP hD hS => ?_)
  have hP : va_P G vwCl (md_W cy a mn mf mk mg mv mt (upd mm 2 (0 : Int32))) H := hP
  have hD : va_D A (md_W cy a mn mf mk mg mv mt (upd mm 2 (0 : Int32))) := hD
  obtain ⟨k0, h⟩ := h
  exact L_5 _ k0 _ h _ _ _ hP hD hS (lv_sub hl [0] rfl)
def vX7_does_90 (mn : Nat → Int32) (mf : Nat → UInt32) (mm : Nat → Int32) (y0 : Int32) (K : Int32 → ((Nat → Int32) × (Nat → UInt32)) → Prop)  : Prop :=
  vX7_modeError mn y0 (fun r_93 u_93 => (¬ r_93 = (0 : Int32) → K (0 : Int32) (mn, mf)) ∧ (r_93 = (0 : Int32) → vX7_becomes mn mf y0 (fun r_101 u_101 => (r_101 < (0 : Int32) → K (0 : Int32) (u_101, mf)) ∧ (¬ r_101 < (0 : Int32) → K (1 : Int32) (u_101, mf)))))
def vX7_does (mn : Nat → Int32) (mf : Nat → UInt32) (mm : Nat → Int32) (K : Int32 → ((Nat → Int32) × (Nat → UInt32)) → Prop) : Prop :=
  (¬ (mm 4) = (111 : Int32) → (¬ (mm 4) = (116 : Int32) → (¬ (mm 4) = (103 : Int32) → (¬ (mm 4) = (102 : Int32) → vX7_does_90 mn mf mm (3 : Int32) K ) ∧ ((mm 4) = (102 : Int32) → vX7_does_90 mn mf mm (0 : Int32) K )) ∧ ((mm 4) = (103 : Int32) → vX7_does_90 mn mf mm (1 : Int32) K )) ∧ ((mm 4) = (116 : Int32) → vX7_passes mn mf (mm 3) (fun r_51 u_51 => (r_51 < (0 : Int32) → K (0 : Int32) (u_51.1, u_51.2)) ∧ (¬ r_51 < (0 : Int32) → K (1 : Int32) (u_51.1, u_51.2))))) ∧ ((mm 4) = (111 : Int32) → vX7_openError mn (mm 3) (fun r_14 u_14 => (¬ r_14 = (0 : Int32) → K (0 : Int32) (mn, mf)) ∧ (r_14 = (0 : Int32) → vX7_opens mn (mm 3) (fun r_25 u_25 => (r_25 < (0 : Int32) → K (0 : Int32) (u_25, mf)) ∧ (¬ r_25 < (0 : Int32) → K (1 : Int32) (u_25, mf))))))
set_option maxRecDepth 100000 in
set_option maxHeartbeats 4000000 in
theorem ctX7_does (l : Launch) (G : va_G) (cy : Nat → ClassId) (a : Nat → Nat) (mn : Nat → Int32) (mf : Nat → UInt32) (mk : Nat → Int32) (mg : Nat → UInt32) (mv : Nat → Int32) (mt : Nat → Int32) (mm : Nat → Int32)  (K : Int32 → ((Nat → Int32) × (Nat → UInt32)) → Prop) (h : vX7_does mn mf mm K) : Met l yX7_does (ws_ yX7_does cX7_does 2 (some .boolean)) ({ frames := 8, cells := 0, slots := 0, locals := 172 } : Room) (CP G cy [.ref (a 0)] (md_W cy a mn mf mk mg mv mt mm)) (RI G K (fun u => md_W cy a u.1 u.2 mk mg mv mt mm) (A1 (md_W cy a mn mf mk mg mv mt mm))) 0 0 (A1 (md_W cy a mn mf mk mg mv mt mm)) := by
  refine hd_go (Qf := fun A => (RI G K (fun u => md_W cy a u.1 u.2 mk mg mv mt mm) A)) (by decide +kernel) (Nat.le_of_ble_eq_true rfl) ?_
  intro p e s m below meth c ls A hx hb hr hlocks S hE hP hD hS hl
  have hl : lv_has ls 2 [(0, .ref (a 0))] := hl
  unfold vX7_does at h
  have J_90 : ∀ (mn : Nat → Int32) (mf : Nat → UInt32) (mm : Nat → Int32) (y0 : Int32), vX7_does_90 mn mf mm y0 K  → ∀ (H : Heap) (locs : List Loc) (ls : Array Slot), va_P G vwCl (md_W cy a mn mf mk mg mv mt mm) H → va_D A (md_W cy a mn mf mk mg mv mt mm) → va_S A s.heap H locs → lv_has ls 2 [(0, .ref (a 0))] → W p l e (headSpec (ws_ yX7_does cX7_does 2 (some .boolean)) ({ frames := 8, cells := 0, slots := 0, locals := 172 } : Room)).room s m ([.ref (a 0)] : List Value).toArray below meth c H locs 0 0 (MQ below (RI G K (fun u => md_W cy a u.1 u.2 mk mg mv mt mm) A) ([.ref (a 0)] : List Value).toArray s 0 0 A) (F0 m 90 ls [.int y0]) := by
    intro mn mf mm y0 h H locs ls hP hD hS hl
    unfold vX7_does_90 at h
    refine lv_istore_n (lv' := [(1, .int y0), (0, .ref (a 0))]) hx hb dX7_does_90 rfl hl (by decide) rfl (fun ls hl => ?_)
    refine lv_aload_n hx hb dX7_does_91 rfl (lv_at hl 1 rfl) ?_
    refine lv_iload_n hx hb dX7_does_92 rfl (lv_at hl 0 rfl) ?_
    refine kc_Vi0 (As := [.int y0]) (rest := []) S hE (ctX7_modeError l G cy a mn mf mk mg mv mt mm y0 _ h) q_18_17 q_18_18 q_18_19 q_1_5 q_18_20 rfl 0 rfl rfl ydX7_modeError ⟨⟨rfl, rfl⟩, ⟨Nat.le_of_ble_eq_true rfl, Nat.le_of_ble_eq_true rfl⟩⟩ ⟨Nat.zero_le _, Nat.zero_le _⟩ hP hD hS rfl hl.1 rfl (Nat.le_of_ble_eq_true rfl) dX7_does_93 (fun r_93 u_93 H locs h hP hD hS => ?_)
    refine lv_if_ne (tgt := 111) hx hb dX7_does_96 (by decide) (fun c_96 => ?_) (fun c_96 => ?_)
    · have h := h.1 c_96
      refine lv_iconst (v := (0 : Int32)) hx hb dX7_does_111 (by decide) ?_
      exact W.zret (v := (0 : Int32)) hx hb hr (by decide +kernel) (fun t ht hW => ⟨⟨(0 : Int32), (mn, mf), rfl, h, ⟨hp_at ht hP, hD⟩⟩, hS.F ht⟩) hS.2.2 dX7_does_112
    · have h := h.2 c_96
      refine lv_aload_n hx hb dX7_does_99 rfl (lv_at hl 1 rfl) ?_
      refine lv_iload_n hx hb dX7_does_100 rfl (lv_at hl 0 rfl) ?_
      refine kc_Vi0 (As := [.int y0]) (rest := []) S hE (ctX7_becomes l G cy a mn mf mk mg mv mt mm y0 _ h) q_18_21 q_18_22 q_18_23 q_1_5 q_19_0 rfl 0 rfl rfl ydX7_becomes ⟨⟨rfl, rfl⟩, ⟨Nat.le_of_ble_eq_true rfl, Nat.le_of_ble_eq_true rfl⟩⟩ ⟨Nat.zero_le _, Nat.zero_le _⟩ hP hD hS rfl hl.1 rfl (Nat.le_of_ble_eq_true rfl) dX7_does_101 (fun r_101 u_101 H locs h hP hD hS => ?_)
      refine lv_if_lt (tgt := 111) hx hb dX7_does_104 (by decide) (fun c_104 => ?_) (fun c_104 => ?_)
      · have h := h.1 c_104
        refine lv_iconst (v := (0 : Int32)) hx hb dX7_does_111 (by decide) ?_
        exact W.zret (v := (0 : Int32)) hx hb hr (by decide +kernel) (fun t ht hW => ⟨⟨(0 : Int32), (u_101, mf), rfl, h, ⟨hp_at ht hP, hD⟩⟩, hS.F ht⟩) hS.2.2 dX7_does_112
      · have h := h.2 c_104
        refine lv_iconst (v := (1 : Int32)) hx hb dX7_does_107 (by decide) ?_
        refine lv_goto (tgt := 112) hx hb dX7_does_108 (by decide) ?_
        exact W.zret (v := (1 : Int32)) hx hb hr (by decide +kernel) (fun t ht hW => ⟨⟨(1 : Int32), (u_101, mf), rfl, h, ⟨hp_at ht hP, hD⟩⟩, hS.F ht⟩) hS.2.2 dX7_does_112
  refine lv_aload_n hx hb dX7_does_0 rfl (lv_at hl 0 rfl) ?_
  refine kg (v := .int (mm 4)) S hE hP 0 rfl rfl 10 (by decide) q_25_23 rfl rfl inlX7 dX7_does_1 ?_
  refine lv_bipush (v := (111 : Int32)) hx hb dX7_does_4 (by decide) ?_
  refine lv_icmp_ne (tgt := 37) hx hb dX7_does_6 (by decide) (fun c_6 => ?_) (fun c_6 => ?_)
  · have h := h.1 c_6
    refine lv_aload_n hx hb dX7_does_37 rfl (lv_at hl 0 rfl) ?_
    refine kg (v := .int (mm 4)) S hE hP 0 rfl rfl 10 (by decide) q_25_23 rfl rfl inlX7 dX7_does_38 ?_
    refine lv_bipush (v := (116 : Int32)) hx hb dX7_does_41 (by decide) ?_
    refine lv_icmp_ne (tgt := 63) hx hb dX7_does_43 (by decide) (fun c_43 => ?_) (fun c_43 => ?_)
    · have h := h.1 c_43
      refine lv_aload_n hx hb dX7_does_63 rfl (lv_at hl 0 rfl) ?_
      refine kg (v := .int (mm 4)) S hE hP 0 rfl rfl 10 (by decide) q_25_23 rfl rfl inlX7 dX7_does_64 ?_
      refine lv_bipush (v := (103 : Int32)) hx hb dX7_does_67 (by decide) ?_
      refine lv_icmp_ne (tgt := 76) hx hb dX7_does_69 (by decide) (fun c_69 => ?_) (fun c_69 => ?_)
      · have h := h.1 c_69
        refine lv_aload_n hx hb dX7_does_76 rfl (lv_at hl 0 rfl) ?_
        refine kg (v := .int (mm 4)) S hE hP 0 rfl rfl 10 (by decide) q_25_23 rfl rfl inlX7 dX7_does_77 ?_
        refine lv_bipush (v := (102 : Int32)) hx hb dX7_does_80 (by decide) ?_
        refine lv_icmp_ne (tgt := 89) hx hb dX7_does_82 (by decide) (fun c_82 => ?_) (fun c_82 => ?_)
        · have h := h.1 c_82
          refine lv_iconst (v := (3 : Int32)) hx hb dX7_does_89 (by decide) ?_
          exact J_90 _ _ _ _ h _ _ _ hP hD hS (lv_sub hl [0] rfl)
        · have h := h.2 c_82
          refine lv_iconst (v := (0 : Int32)) hx hb dX7_does_85 (by decide) ?_
          refine lv_goto (tgt := 90) hx hb dX7_does_86 (by decide) ?_
          exact J_90 _ _ _ _ h _ _ _ hP hD hS (lv_sub hl [0] rfl)
      · have h := h.2 c_69
        refine lv_iconst (v := (1 : Int32)) hx hb dX7_does_72 (by decide) ?_
        refine lv_goto (tgt := 90) hx hb dX7_does_73 (by decide) ?_
        exact J_90 _ _ _ _ h _ _ _ hP hD hS (lv_sub hl [0] rfl)
    · have h := h.2 c_43
      refine lv_aload_n hx hb dX7_does_46 rfl (lv_at hl 0 rfl) ?_
      refine lv_aload_n hx hb dX7_does_47 rfl (lv_at hl 0 rfl) ?_
      refine kg (v := .int (mm 3)) S hE hP 0 rfl rfl 9 (by decide) q_26_4 rfl rfl inlX7 dX7_does_48 ?_
      refine kc_Vi0 (As := [.int (mm 3)]) (rest := []) S hE (ctX7_passes l G cy a mn mf mk mg mv mt mm (mm 3) _ h) q_21_1 q_21_2 q_21_3 q_1_5 q_21_4 rfl 0 rfl rfl ydX7_passes ⟨⟨rfl, rfl⟩, ⟨Nat.le_of_ble_eq_true rfl, Nat.le_of_ble_eq_true rfl⟩⟩ ⟨Nat.zero_le _, Nat.zero_le _⟩ hP hD hS rfl hl.1 rfl (Nat.le_of_ble_eq_true rfl) dX7_does_51 (fun r_51 u_51 H locs h hP hD hS => ?_)
      refine lv_if_lt (tgt := 61) hx hb dX7_does_54 (by decide) (fun c_54 => ?_) (fun c_54 => ?_)
      · have h := h.1 c_54
        refine lv_iconst (v := (0 : Int32)) hx hb dX7_does_61 (by decide) ?_
        exact W.zret (v := (0 : Int32)) hx hb hr (by decide +kernel) (fun t ht hW => ⟨⟨(0 : Int32), (u_51.1, u_51.2), rfl, h, ⟨hp_at ht hP, hD⟩⟩, hS.F ht⟩) hS.2.2 dX7_does_62
      · have h := h.2 c_54
        refine lv_iconst (v := (1 : Int32)) hx hb dX7_does_57 (by decide) ?_
        refine lv_goto (tgt := 62) hx hb dX7_does_58 (by decide) ?_
        exact W.zret (v := (1 : Int32)) hx hb hr (by decide +kernel) (fun t ht hW => ⟨⟨(1 : Int32), (u_51.1, u_51.2), rfl, h, ⟨hp_at ht hP, hD⟩⟩, hS.F ht⟩) hS.2.2 dX7_does_62
  · have h := h.2 c_6
    refine lv_aload_n hx hb dX7_does_9 rfl (lv_at hl 0 rfl) ?_
    refine lv_aload_n hx hb dX7_does_10 rfl (lv_at hl 0 rfl) ?_
    refine kg (v := .int (mm 3)) S hE hP 0 rfl rfl 9 (by decide) q_26_4 rfl rfl inlX7 dX7_does_11 ?_
    refine kc_Vi0 (As := [.int (mm 3)]) (rest := []) S hE (ctX7_openError l G cy a mn mf mk mg mv mt mm (mm 3) _ h) q_20_1 q_20_2 q_20_3 q_1_5 q_20_4 rfl 0 rfl rfl ydX7_openError ⟨⟨rfl, rfl⟩, ⟨Nat.le_of_ble_eq_true rfl, Nat.le_of_ble_eq_true rfl⟩⟩ ⟨Nat.zero_le _, Nat.zero_le _⟩ hP hD hS rfl hl.1 rfl (Nat.le_of_ble_eq_true rfl) dX7_does_14 (fun r_14 u_14 H locs h hP hD hS => ?_)
    refine lv_if_ne (tgt := 35) hx hb dX7_does_17 (by decide) (fun c_17 => ?_) (fun c_17 => ?_)
    · have h := h.1 c_17
      refine lv_iconst (v := (0 : Int32)) hx hb dX7_does_35 (by decide) ?_
      exact W.zret (v := (0 : Int32)) hx hb hr (by decide +kernel) (fun t ht hW => ⟨⟨(0 : Int32), (mn, mf), rfl, h, ⟨hp_at ht hP, hD⟩⟩, hS.F ht⟩) hS.2.2 dX7_does_36
    · have h := h.2 c_17
      refine lv_aload_n hx hb dX7_does_20 rfl (lv_at hl 0 rfl) ?_
      refine lv_aload_n hx hb dX7_does_21 rfl (lv_at hl 0 rfl) ?_
      refine kg (v := .int (mm 3)) S hE hP 0 rfl rfl 9 (by decide) q_26_4 rfl rfl inlX7 dX7_does_22 ?_
      refine kc_Vi0 (As := [.int (mm 3)]) (rest := []) S hE (ctX7_opens l G cy a mn mf mk mg mv mt mm (mm 3) _ h) q_20_9 q_20_10 q_20_11 q_1_5 q_20_12 rfl 0 rfl rfl ydX7_opens ⟨⟨rfl, rfl⟩, ⟨Nat.le_of_ble_eq_true rfl, Nat.le_of_ble_eq_true rfl⟩⟩ ⟨Nat.zero_le _, Nat.zero_le _⟩ hP hD hS rfl hl.1 rfl (Nat.le_of_ble_eq_true rfl) dX7_does_25 (fun r_25 u_25 H locs h hP hD hS => ?_)
      refine lv_if_lt (tgt := 35) hx hb dX7_does_28 (by decide) (fun c_28 => ?_) (fun c_28 => ?_)
      · have h := h.1 c_28
        refine lv_iconst (v := (0 : Int32)) hx hb dX7_does_35 (by decide) ?_
        exact W.zret (v := (0 : Int32)) hx hb hr (by decide +kernel) (fun t ht hW => ⟨⟨(0 : Int32), (u_25, mf), rfl, h, ⟨hp_at ht hP, hD⟩⟩, hS.F ht⟩) hS.2.2 dX7_does_36
      · have h := h.2 c_28
        refine lv_iconst (v := (1 : Int32)) hx hb dX7_does_31 (by decide) ?_
        refine lv_goto (tgt := 36) hx hb dX7_does_32 (by decide) ?_
        exact W.zret (v := (1 : Int32)) hx hb hr (by decide +kernel) (fun t ht hW => ⟨⟨(1 : Int32), (u_25, mf), rfl, h, ⟨hp_at ht hP, hD⟩⟩, hS.F ht⟩) hS.2.2 dX7_does_36
def vX7_run_92 (mn : Nat → Int32) (mf : Nat → UInt32) (mk : Nat → Int32) (mg : Nat → UInt32) (mt : Nat → Int32) (mm : Nat → Int32) (x1 : Int32) (y0 : Int32) (K : Int32 → ((Nat → Int32) × (Nat → UInt32) × (Nat → Int32) × (Nat → UInt32) × (Nat → Int32)) → Prop) (B36 : (Nat → Int32) → (Nat → UInt32) → (Nat → Int32) → Int32 → Int32 → Prop) : Prop :=
  B36 mn mf mm x1 y0
def vX7_run_91 (mn : Nat → Int32) (mf : Nat → UInt32) (mk : Nat → Int32) (mg : Nat → UInt32) (mt : Nat → Int32) (mm : Nat → Int32) (x1 : Int32) (K : Int32 → ((Nat → Int32) × (Nat → UInt32) × (Nat → Int32) × (Nat → UInt32) × (Nat → Int32)) → Prop) (B36 : (Nat → Int32) → (Nat → UInt32) → (Nat → Int32) → Int32 → Int32 → Prop) : Prop :=
  vX7_run_92 mn mf mk mg mt mm x1 (0 : Int32) K B36
def vX7_run_70 (mn : Nat → Int32) (mf : Nat → UInt32) (mk : Nat → Int32) (mg : Nat → UInt32) (mt : Nat → Int32) (mm : Nat → Int32) (x2 : Int32) (y0 : Int32) (y1 : Int32) (K : Int32 → ((Nat → Int32) × (Nat → UInt32) × (Nat → Int32) × (Nat → UInt32) × (Nat → Int32)) → Prop) (B36 : (Nat → Int32) → (Nat → UInt32) → (Nat → Int32) → Int32 → Int32 → Prop) : Prop :=
  (x2 = (0 : Int32) → vX7_run_91 mn mf mk mg mt mm (y0 + y1) K B36) ∧ (¬ x2 = (0 : Int32) → ((mm 1) ≤ (mm 2) → vX7_run_91 mn mf mk mg mt mm (y0 + y1) K B36) ∧ (¬ (mm 1) ≤ (mm 2) → vX7_run_92 mn mf mk mg mt mm (y0 + y1) (1 : Int32) K B36))
def vX7_run_59 (mn : Nat → Int32) (mf : Nat → UInt32) (mk : Nat → Int32) (mg : Nat → UInt32) (mt : Nat → Int32) (mm : Nat → Int32) (x1 : Int32) (y0 : Int32) (K : Int32 → ((Nat → Int32) × (Nat → UInt32) × (Nat → Int32) × (Nat → UInt32) × (Nat → Int32)) → Prop) (B36 : (Nat → Int32) → (Nat → UInt32) → (Nat → Int32) → Int32 → Int32 → Prop) : Prop :=
  (y0 = (0 : Int32) → vX7_run_70 mn mf mk mg mt mm y0 x1 (0 : Int32) K B36) ∧ (¬ y0 = (0 : Int32) → vX7_run_70 mn mf mk mg mt mm y0 x1 (1 : Int32) K B36)
def vX7_run_58 (mn : Nat → Int32) (mf : Nat → UInt32) (mk : Nat → Int32) (mg : Nat → UInt32) (mt : Nat → Int32) (mm : Nat → Int32) (x1 : Int32) (K : Int32 → ((Nat → Int32) × (Nat → UInt32) × (Nat → Int32) × (Nat → UInt32) × (Nat → Int32)) → Prop) (B36 : (Nat → Int32) → (Nat → UInt32) → (Nat → Int32) → Int32 → Int32 → Prop) : Prop :=
  vX7_run_59 mn mf mk mg mt mm x1 (0 : Int32) K B36
def vX7_run_36b (mk : Nat → Int32) (mg : Nat → UInt32) (mt : Nat → Int32) (K : Int32 → ((Nat → Int32) × (Nat → UInt32) × (Nat → Int32) × (Nat → UInt32) × (Nat → Int32)) → Prop)  (B36 : (Nat → Int32) → (Nat → UInt32) → (Nat → Int32) → Int32 → Int32 → Prop) (mn : Nat → Int32) (mf : Nat → UInt32) (mm : Nat → Int32) (x1 : Int32) (x2 : Int32) : Prop :=
  (x2 = (0 : Int32) → K x1 (mn, mf, mk, mg, mm)) ∧ (¬ x2 = (0 : Int32) → vX7_passesAct mt mm (fun r_41 u_41 => (r_41 = (0 : Int32) → vX7_run_58 mn mf mk mg mt u_41 x1 K B36) ∧ (¬ r_41 = (0 : Int32) → vX7_does mn mf u_41 (fun r_48 u_48 => (r_48 = (0 : Int32) → vX7_run_58 u_48.1 u_48.2 mk mg mt u_41 x1 K B36) ∧ (¬ r_48 = (0 : Int32) → vX7_run_59 u_48.1 u_48.2 mk mg mt u_41 x1 (1 : Int32) K B36)))))
def vX7_run_36F (mk : Nat → Int32) (mg : Nat → UInt32) (mt : Nat → Int32) (K : Int32 → ((Nat → Int32) × (Nat → UInt32) × (Nat → Int32) × (Nat → UInt32) × (Nat → Int32)) → Prop)  : (((Nat → Int32) × (Nat → UInt32) × (Nat → Int32) × Int32 × Int32) → Prop) → ((Nat → Int32) × (Nat → UInt32) × (Nat → Int32) × Int32 × Int32) → Prop := fun B z => vX7_run_36b mk mg mt K  (fun z0 z1 z2 z3 z4 => B (z0, z1, z2, z3, z4)) z.1 z.2.1 z.2.2.1 z.2.2.2.1 z.2.2.2.2
def vX7_run_35 (mn : Nat → Int32) (mf : Nat → UInt32) (mk : Nat → Int32) (mg : Nat → UInt32) (mt : Nat → Int32) (mm : Nat → Int32) (x1 : Int32) (y0 : Int32) (K : Int32 → ((Nat → Int32) × (Nat → UInt32) × (Nat → Int32) × (Nat → UInt32) × (Nat → Int32)) → Prop)  : Prop :=
  ∃ k, lp (vX7_run_36F mk mg mt K ) k (mn, mf, mm, x1, y0)
def vX7_run (mn : Nat → Int32) (mf : Nat → UInt32) (mk : Nat → Int32) (mg : Nat → UInt32) (mt : Nat → Int32) (mm : Nat → Int32) (K : Int32 → ((Nat → Int32) × (Nat → UInt32) × (Nat → Int32) × (Nat → UInt32) × (Nat → Int32)) → Prop) : Prop :=
  vX7_faultPosition mt mm (fun r_1 u_1 => (r_1 = (-5 : Int32) → vX7_records mn mf mk mg u_1 (fun u_13 => ((u_13.2.2 1) ≤ (0 : Int32) → vX7_run_35 mn mf u_13.1 u_13.2.1 mt (upd u_13.2.2 2 (0 : Int32)) (0 : Int32) (0 : Int32) K ) ∧ (¬ (u_13.2.2 1) ≤ (0 : Int32) → vX7_run_35 mn mf u_13.1 u_13.2.1 mt (upd u_13.2.2 2 (0 : Int32)) (0 : Int32) (1 : Int32) K ))) ∧ (¬ r_1 = (-5 : Int32) → K (-3 : Int32) (mn, mf, mk, mg, u_1)))
set_option maxRecDepth 100000 in
set_option maxHeartbeats 4000000 in
theorem ctX7_run (l : Launch) (G : va_G) (cy : Nat → ClassId) (a : Nat → Nat) (mn : Nat → Int32) (mf : Nat → UInt32) (mk : Nat → Int32) (mg : Nat → UInt32) (mv : Nat → Int32) (mt : Nat → Int32) (mm : Nat → Int32)  (K : Int32 → ((Nat → Int32) × (Nat → UInt32) × (Nat → Int32) × (Nat → UInt32) × (Nat → Int32)) → Prop) (h : vX7_run mn mf mk mg mt mm K) : Met l yX7_run (ws_ yX7_run cX7_run 3 (some .int)) ({ frames := 9, cells := 0, slots := 0, locals := 193 } : Room) (CP G cy [.ref (a 0)] (md_W cy a mn mf mk mg mv mt mm)) (RI G K (fun u => md_W cy a u.1 u.2.1 u.2.2.1 u.2.2.2.1 mv mt u.2.2.2.2) (A1 (md_W cy a mn mf mk mg mv mt mm))) 0 0 (A1 (md_W cy a mn mf mk mg mv mt mm)) := by
  refine hd_go (Qf := fun A => (RI G K (fun u => md_W cy a u.1 u.2.1 u.2.2.1 u.2.2.2.1 mv mt u.2.2.2.2) A)) (by decide +kernel) (Nat.le_of_ble_eq_true rfl) ?_
  intro p e s m below meth c ls A hx hb hr hlocks S hE hP hD hS hl
  have hl : lv_has ls 3 [(0, .ref (a 0))] := hl
  unfold vX7_run at h
  have L_36 : ∀ (mk : Nat → Int32) (mg : Nat → UInt32) (mt : Nat → Int32) (k_36 : Nat) (mn : Nat → Int32) (mf : Nat → UInt32) (mm : Nat → Int32) (x1 : Int32) (x2 : Int32), lp (vX7_run_36F mk mg mt K ) k_36 (mn, mf, mm, x1, x2) → ∀ (H : Heap) (locs : List Loc) (ls : Array Slot), va_P G vwCl (md_W cy a mn mf mk mg mv mt mm) H → va_D A (md_W cy a mn mf mk mg mv mt mm) → va_S A s.heap H locs → lv_has ls 3 [(0, .ref (a 0)), (1, .int x1), (2, .int x2)] → W p l e (headSpec (ws_ yX7_run cX7_run 3 (some .int)) ({ frames := 9, cells := 0, slots := 0, locals := 193 } : Room)).room s m ([.ref (a 0)] : List Value).toArray below meth c H locs 0 0 (MQ below (RI G K (fun u => md_W cy a u.1 u.2.1 u.2.2.1 u.2.2.2.1 mv mt u.2.2.2.2) A) ([.ref (a 0)] : List Value).toArray s 0 0 A) (F0 m 36 ls []) := by
    intro mk mg mt k_36
    induction k_36 with
    | zero => intro mn mf mm x1 x2 h; exact h.elim
    | succ k_36 ih_36 =>
      have J_92 : ∀ (mn : Nat → Int32) (mf : Nat → UInt32) (mm : Nat → Int32) (x1 : Int32) (y0 : Int32), vX7_run_92 mn mf mk mg mt mm x1 y0 K (fun z0 z1 z2 z3 z4 => lp (vX7_run_36F mk mg mt K ) k_36 (z0, z1, z2, z3, z4)) → ∀ (H : Heap) (locs : List Loc) (ls : Array Slot), va_P G vwCl (md_W cy a mn mf mk mg mv mt mm) H → va_D A (md_W cy a mn mf mk mg mv mt mm) → va_S A s.heap H locs → lv_has ls 3 [(0, .ref (a 0)), (1, .int x1)] → W p l e (headSpec (ws_ yX7_run cX7_run 3 (some .int)) ({ frames := 9, cells := 0, slots := 0, locals := 193 } : Room)).room s m ([.ref (a 0)] : List Value).toArray below meth c H locs 0 0 (MQ below (RI G K (fun u => md_W cy a u.1 u.2.1 u.2.2.1 u.2.2.2.1 mv mt u.2.2.2.2) A) ([.ref (a 0)] : List Value).toArray s 0 0 A) (F0 m 92 ls [.int y0]) := by
        intro mn mf mm x1 y0 h H locs ls hP hD hS hl
        unfold vX7_run_92 at h
        refine lv_istore_n (lv' := [(2, .int y0), (0, .ref (a 0)), (1, .int x1)]) hx hb dX7_run_92 rfl hl (by decide) rfl (fun ls hl => ?_)
        refine lv_goto (tgt := 36) hx hb dX7_run_93 (by decide) ?_
        exact ih_36 _ _ _ _ _ h _ _ _ hP hD hS (lv_sub hl [1, 2, 0] rfl)
      have J_91 : ∀ (mn : Nat → Int32) (mf : Nat → UInt32) (mm : Nat → Int32) (x1 : Int32), vX7_run_91 mn mf mk mg mt mm x1 K (fun z0 z1 z2 z3 z4 => lp (vX7_run_36F mk mg mt K ) k_36 (z0, z1, z2, z3, z4)) → ∀ (H : Heap) (locs : List Loc) (ls : Array Slot), va_P G vwCl (md_W cy a mn mf mk mg mv mt mm) H → va_D A (md_W cy a mn mf mk mg mv mt mm) → va_S A s.heap H locs → lv_has ls 3 [(0, .ref (a 0)), (1, .int x1)] → W p l e (headSpec (ws_ yX7_run cX7_run 3 (some .int)) ({ frames := 9, cells := 0, slots := 0, locals := 193 } : Room)).room s m ([.ref (a 0)] : List Value).toArray below meth c H locs 0 0 (MQ below (RI G K (fun u => md_W cy a u.1 u.2.1 u.2.2.1 u.2.2.2.1 mv mt u.2.2.2.2) A) ([.ref (a 0)] : List Value).toArray s 0 0 A) (F0 m 91 ls []) := by
        intro mn mf mm x1 h H locs ls hP hD hS hl
        unfold vX7_run_91 at h
        refine lv_iconst (v := (0 : Int32)) hx hb dX7_run_91 (by decide) ?_
        exact J_92 _ _ _ _ _ h _ _ _ hP hD hS (lv_sub hl [0, 1] rfl)
      have J_70 : ∀ (mn : Nat → Int32) (mf : Nat → UInt32) (mm : Nat → Int32) (x2 : Int32) (y0 : Int32) (y1 : Int32), vX7_run_70 mn mf mk mg mt mm x2 y0 y1 K (fun z0 z1 z2 z3 z4 => lp (vX7_run_36F mk mg mt K ) k_36 (z0, z1, z2, z3, z4)) → ∀ (H : Heap) (locs : List Loc) (ls : Array Slot), va_P G vwCl (md_W cy a mn mf mk mg mv mt mm) H → va_D A (md_W cy a mn mf mk mg mv mt mm) → va_S A s.heap H locs → lv_has ls 3 [(0, .ref (a 0)), (2, .int x2)] → W p l e (headSpec (ws_ yX7_run cX7_run 3 (some .int)) ({ frames := 9, cells := 0, slots := 0, locals := 193 } : Room)).room s m ([.ref (a 0)] : List Value).toArray below meth c H locs 0 0 (MQ below (RI G K (fun u => md_W cy a u.1 u.2.1 u.2.2.1 u.2.2.2.1 mv mt u.2.2.2.2) A) ([.ref (a 0)] : List Value).toArray s 0 0 A) (F0 m 70 ls [.int y1, .int y0]) := by
        intro mn mf mm x2 y0 y1 h H locs ls hP hD hS hl
        unfold vX7_run_70 at h
        refine lv_iadd hx hb dX7_run_70 ?_
        refine lv_istore_n (lv' := [(1, .int (y0 + y1)), (0, .ref (a 0)), (2, .int x2)]) hx hb dX7_run_71 rfl hl (by decide) rfl (fun ls hl => ?_)
        refine lv_iload_n hx hb dX7_run_72 rfl (lv_at hl 2 rfl) ?_
        refine lv_if_eq (tgt := 91) hx hb dX7_run_73 (by decide) (fun c_73 => ?_) (fun c_73 => ?_)
        · have h := h.1 c_73
          exact J_91 _ _ _ _ h _ _ _ hP hD hS (lv_sub hl [1, 0] rfl)
        · have h := h.2 c_73
          refine lv_aload_n hx hb dX7_run_76 rfl (lv_at hl 1 rfl) ?_
          refine kg (v := .int (mm 2)) S hE hP 0 rfl rfl 8 (by decide) q_25_18 rfl rfl inlX7 dX7_run_77 ?_
          refine lv_aload_n hx hb dX7_run_80 rfl (lv_at hl 1 rfl) ?_
          refine kg (v := .int (mm 1)) S hE hP 0 rfl rfl 7 (by decide) q_23_23 rfl rfl inlX7 dX7_run_81 ?_
          refine lv_icmp_ge (tgt := 91) hx hb dX7_run_84 (by decide) (fun c_84 => ?_) (fun c_84 => ?_)
          · have h := h.1 c_84
            exact J_91 _ _ _ _ h _ _ _ hP hD hS (lv_sub hl [1, 0] rfl)
          · have h := h.2 c_84
            refine lv_iconst (v := (1 : Int32)) hx hb dX7_run_87 (by decide) ?_
            refine lv_goto (tgt := 92) hx hb dX7_run_88 (by decide) ?_
            exact J_92 _ _ _ _ _ h _ _ _ hP hD hS (lv_sub hl [1, 0] rfl)
      have J_59 : ∀ (mn : Nat → Int32) (mf : Nat → UInt32) (mm : Nat → Int32) (x1 : Int32) (y0 : Int32), vX7_run_59 mn mf mk mg mt mm x1 y0 K (fun z0 z1 z2 z3 z4 => lp (vX7_run_36F mk mg mt K ) k_36 (z0, z1, z2, z3, z4)) → ∀ (H : Heap) (locs : List Loc) (ls : Array Slot), va_P G vwCl (md_W cy a mn mf mk mg mv mt mm) H → va_D A (md_W cy a mn mf mk mg mv mt mm) → va_S A s.heap H locs → lv_has ls 3 [(0, .ref (a 0)), (1, .int x1)] → W p l e (headSpec (ws_ yX7_run cX7_run 3 (some .int)) ({ frames := 9, cells := 0, slots := 0, locals := 193 } : Room)).room s m ([.ref (a 0)] : List Value).toArray below meth c H locs 0 0 (MQ below (RI G K (fun u => md_W cy a u.1 u.2.1 u.2.2.1 u.2.2.2.1 mv mt u.2.2.2.2) A) ([.ref (a 0)] : List Value).toArray s 0 0 A) (F0 m 59 ls [.int y0]) := by
        intro mn mf mm x1 y0 h H locs ls hP hD hS hl
        unfold vX7_run_59 at h
        refine lv_istore_n (lv' := [(2, .int y0), (0, .ref (a 0)), (1, .int x1)]) hx hb dX7_run_59 rfl hl (by decide) rfl (fun ls hl => ?_)
        refine lv_iload_n hx hb dX7_run_60 rfl (lv_at hl 2 rfl) ?_
        refine lv_iload_n hx hb dX7_run_61 rfl (lv_at hl 0 rfl) ?_
        refine lv_if_eq (tgt := 69) hx hb dX7_run_62 (by decide) (fun c_62 => ?_) (fun c_62 => ?_)
        · have h := h.1 c_62
          refine lv_iconst (v := (0 : Int32)) hx hb dX7_run_69 (by decide) ?_
          exact J_70 _ _ _ _ _ _ h _ _ _ hP hD hS (lv_sub hl [1, 0] rfl)
        · have h := h.2 c_62
          refine lv_iconst (v := (1 : Int32)) hx hb dX7_run_65 (by decide) ?_
          refine lv_goto (tgt := 70) hx hb dX7_run_66 (by decide) ?_
          exact J_70 _ _ _ _ _ _ h _ _ _ hP hD hS (lv_sub hl [1, 0] rfl)
      have J_58 : ∀ (mn : Nat → Int32) (mf : Nat → UInt32) (mm : Nat → Int32) (x1 : Int32), vX7_run_58 mn mf mk mg mt mm x1 K (fun z0 z1 z2 z3 z4 => lp (vX7_run_36F mk mg mt K ) k_36 (z0, z1, z2, z3, z4)) → ∀ (H : Heap) (locs : List Loc) (ls : Array Slot), va_P G vwCl (md_W cy a mn mf mk mg mv mt mm) H → va_D A (md_W cy a mn mf mk mg mv mt mm) → va_S A s.heap H locs → lv_has ls 3 [(0, .ref (a 0)), (1, .int x1)] → W p l e (headSpec (ws_ yX7_run cX7_run 3 (some .int)) ({ frames := 9, cells := 0, slots := 0, locals := 193 } : Room)).room s m ([.ref (a 0)] : List Value).toArray below meth c H locs 0 0 (MQ below (RI G K (fun u => md_W cy a u.1 u.2.1 u.2.2.1 u.2.2.2.1 mv mt u.2.2.2.2) A) ([.ref (a 0)] : List Value).toArray s 0 0 A) (F0 m 58 ls []) := by
        intro mn mf mm x1 h H locs ls hP hD hS hl
        unfold vX7_run_58 at h
        refine lv_iconst (v := (0 : Int32)) hx hb dX7_run_58 (by decide) ?_
        exact J_59 _ _ _ _ _ h _ _ _ hP hD hS (lv_sub hl [0, 1] rfl)
      intro mn mf mm x1 x2 h H locs ls hP hD hS hl
      have h : vX7_run_36b mk mg mt K  (fun z0 z1 z2 z3 z4 => lp (vX7_run_36F mk mg mt K ) k_36 (z0, z1, z2, z3, z4)) mn mf mm x1 x2 := h
      unfold vX7_run_36b at h
      refine lv_iload_n hx hb dX7_run_36 rfl (lv_at hl 2 rfl) ?_
      refine lv_if_eq (tgt := 96) hx hb dX7_run_37 (by decide) (fun c_37 => ?_) (fun c_37 => ?_)
      · have h := h.1 c_37
        refine lv_iload_n hx hb dX7_run_96 rfl (lv_at hl 1 rfl) ?_
        exact W.iret (v := x1) hx hb hr (fun t ht hW => ⟨⟨x1, (mn, mf, mk, mg, mm), rfl, h, ⟨hp_at ht hP, hD⟩⟩, hS.F ht⟩) hS.2.2 dX7_run_97
      · have h := h.2 c_37
        refine lv_aload_n hx hb dX7_run_40 rfl (lv_at hl 0 rfl) ?_
        refine kc_Vi0 (As := []) (rest := []) S hE (ctX7_passesAct l G cy a mn mf mk mg mv mt mm  _ h) q_25_19 q_25_20 q_25_21 q_1_5 q_25_22 rfl 0 rfl rfl ydX7_passesAct ⟨⟨rfl, rfl⟩, ⟨Nat.le_of_ble_eq_true rfl, Nat.le_of_ble_eq_true rfl⟩⟩ ⟨Nat.zero_le _, Nat.zero_le _⟩ hP hD hS rfl hl.1 rfl (Nat.le_of_ble_eq_true rfl) dX7_run_41 (fun r_41 u_41 H locs h hP hD hS => ?_)
        refine lv_if_eq (tgt := 58) hx hb dX7_run_44 (by decide) (fun c_44 => ?_) (fun c_44 => ?_)
        · have h := h.1 c_44
          exact J_58 _ _ _ _ h _ _ _ hP hD hS (lv_sub hl [0, 1] rfl)
        · have h := h.2 c_44
          refine lv_aload_n hx hb dX7_run_47 rfl (lv_at hl 0 rfl) ?_
          refine kc_Vi0 (As := []) (rest := []) S hE (ctX7_does l G cy a mn mf mk mg mv mt u_41  _ h) q_27_0 q_27_1 q_27_2 q_1_5 q_27_3 rfl 0 rfl rfl ydX7_does ⟨⟨rfl, rfl⟩, ⟨Nat.le_of_ble_eq_true rfl, Nat.le_of_ble_eq_true rfl⟩⟩ ⟨Nat.zero_le _, Nat.zero_le _⟩ hP hD hS rfl hl.1 rfl (Nat.le_of_ble_eq_true rfl) dX7_run_48 (fun r_48 u_48 H locs h hP hD hS => ?_)
          refine lv_if_eq (tgt := 58) hx hb dX7_run_51 (by decide) (fun c_51 => ?_) (fun c_51 => ?_)
          · have h := h.1 c_51
            exact J_58 _ _ _ _ h _ _ _ hP hD hS (lv_sub hl [0, 1] rfl)
          · have h := h.2 c_51
            refine lv_iconst (v := (1 : Int32)) hx hb dX7_run_54 (by decide) ?_
            refine lv_goto (tgt := 59) hx hb dX7_run_55 (by decide) ?_
            exact J_59 _ _ _ _ _ h _ _ _ hP hD hS (lv_sub hl [0, 1] rfl)
  have J_35 : ∀ (mn : Nat → Int32) (mf : Nat → UInt32) (mk : Nat → Int32) (mg : Nat → UInt32) (mt : Nat → Int32) (mm : Nat → Int32) (x1 : Int32) (y0 : Int32), vX7_run_35 mn mf mk mg mt mm x1 y0 K  → ∀ (H : Heap) (locs : List Loc) (ls : Array Slot), va_P G vwCl (md_W cy a mn mf mk mg mv mt mm) H → va_D A (md_W cy a mn mf mk mg mv mt mm) → va_S A s.heap H locs → lv_has ls 3 [(0, .ref (a 0)), (1, .int x1)] → W p l e (headSpec (ws_ yX7_run cX7_run 3 (some .int)) ({ frames := 9, cells := 0, slots := 0, locals := 193 } : Room)).room s m ([.ref (a 0)] : List Value).toArray below meth c H locs 0 0 (MQ below (RI G K (fun u => md_W cy a u.1 u.2.1 u.2.2.1 u.2.2.2.1 mv mt u.2.2.2.2) A) ([.ref (a 0)] : List Value).toArray s 0 0 A) (F0 m 35 ls [.int y0]) := by
    intro mn mf mk mg mt mm x1 y0 h H locs ls hP hD hS hl
    unfold vX7_run_35 at h
    refine lv_istore_n (lv' := [(2, .int y0), (0, .ref (a 0)), (1, .int x1)]) hx hb dX7_run_35 rfl hl (by decide) rfl (fun ls hl => ?_)
    obtain ⟨k0, h⟩ := h
    exact L_36 _ _ _ k0 _ _ _ _ _ h _ _ _ hP hD hS (lv_sub hl [1, 2, 0] rfl)
  refine lv_aload_n hx hb dX7_run_0 rfl (lv_at hl 0 rfl) ?_
  refine kc_Vi0 (As := []) (rest := []) S hE (ctX7_faultPosition l G cy a mn mf mk mg mv mt mm  _ h) q_26_23 q_25_15 q_25_16 q_1_5 q_25_17 rfl 0 rfl rfl ydX7_faultPosition ⟨⟨rfl, rfl⟩, ⟨Nat.le_of_ble_eq_true rfl, Nat.le_of_ble_eq_true rfl⟩⟩ ⟨Nat.zero_le _, Nat.zero_le _⟩ hP hD hS rfl hl.1 rfl (Nat.le_of_ble_eq_true rfl) dX7_run_1 (fun r_1 u_1 H locs h hP hD hS => ?_)
  refine lv_bipush (v := (-5 : Int32)) hx hb dX7_run_4 (by decide) ?_
  refine lv_icmp_eq (tgt := 12) hx hb dX7_run_6 (by decide) (fun c_6 => ?_) (fun c_6 => ?_)
  · have h := h.1 c_6
    refine lv_aload_n hx hb dX7_run_12 rfl (lv_at hl 0 rfl) ?_
    refine kc_Vv0 (As := []) (rest := []) S hE (ctX7_records l G cy a mn mf mk mg mv mt u_1  _ h) q_8_20 q_8_21 q_8_22 q_1_5 q_8_23 rfl 0 rfl rfl ydX7_records ⟨⟨rfl, rfl⟩, ⟨Nat.le_of_ble_eq_true rfl, Nat.le_of_ble_eq_true rfl⟩⟩ ⟨Nat.zero_le _, Nat.zero_le _⟩ hP hD hS rfl hl.1 rfl (Nat.le_of_ble_eq_true rfl) dX7_run_13 (fun u_13 H locs h hP hD hS => ?_)
    refine lv_iconst (v := (0 : Int32)) hx hb dX7_run_16 (by decide) ?_
    refine lv_istore_n (lv' := [(1, .int (0 : Int32)), (0, .ref (a 0))]) hx hb dX7_run_17 rfl hl (by decide) rfl (fun ls hl => ?_)
    refine lv_aload_n hx hb dX7_run_18 rfl (lv_at hl 1 rfl) ?_
    refine lv_iconst (v := (0 : Int32)) hx hb dX7_run_19 (by decide) ?_
    refine kp S hE hP hD hS 0 rfl rfl 8 (by decide) q_25_18 rfl rfl tyX7_ok nmX7 inlX7 rfl rfl (Nat.le_of_ble_eq_true rfl) dX7_run_20 (fun H locs hP hD hS => ?_)
    have hP : va_P G vwCl (md_W cy a mn mf u_13.1 u_13.2.1 mv mt (upd u_13.2.2 2 (0 : Int32))) H := hP
    have hD : va_D A (md_W cy a mn mf u_13.1 u_13.2.1 mv mt (upd u_13.2.2 2 (0 : Int32))) := hD
    refine lv_aload_n hx hb dX7_run_23 rfl (lv_at hl 1 rfl) ?_
    refine kg (v := .int (u_13.2.2 1)) S hE hP 0 rfl rfl 7 (by decide) q_23_23 rfl rfl inlX7 dX7_run_24 ?_
    refine lv_if_le (tgt := 34) hx hb dX7_run_27 (by decide) (fun c_27 => ?_) (fun c_27 => ?_)
    · have h := h.1 c_27
      refine lv_iconst (v := (0 : Int32)) hx hb dX7_run_34 (by decide) ?_
      exact J_35 _ _ _ _ _ _ _ _ h _ _ _ hP hD hS (lv_sub hl [1, 0] rfl)
    · have h := h.2 c_27
      refine lv_iconst (v := (1 : Int32)) hx hb dX7_run_30 (by decide) ?_
      refine lv_goto (tgt := 35) hx hb dX7_run_31 (by decide) ?_
      exact J_35 _ _ _ _ _ _ _ _ h _ _ _ hP hD hS (lv_sub hl [1, 0] rfl)
  · have h := h.2 c_6
    refine lv_bipush (v := (-3 : Int32)) hx hb dX7_run_9 (by decide) ?_
    exact W.iret (v := (-3 : Int32)) hx hb hr (fun t ht hW => ⟨⟨(-3 : Int32), (mn, mf, mk, mg, u_1), rfl, h, ⟨hp_at ht hP, hD⟩⟩, hS.F ht⟩) hS.2.2 dX7_run_11
def vX7_bitsOf_109 (x1 : Int32) (x4 : Int32) (y0 : UInt32) (K : Int32 → Unit → Prop)  : Prop :=
  vf_n32 (FP.fmul y0 (1258291200 : UInt32)) ∧ K ((x1 ||| x4) ||| (FP.f2i (FP.fmul y0 (1258291200 : UInt32)))) ()
def vX7_bitsOf_94 (x1 : Int32) (x2 : UInt32) (y0 : Int32) (K : Int32 → Unit → Prop)  : Prop :=
  ((0 : Int32) ≤ (fcg x2 FP.fconst1) → vf_n32 (FP.fsub x2 FP.fconst1) ∧ vX7_bitsOf_109 x1 y0 (FP.fsub x2 FP.fconst1) K ) ∧ (¬ (0 : Int32) ≤ (fcg x2 FP.fconst1) → vX7_bitsOf_109 x1 y0 x2 K )
def vX7_bitsOf_80 (x1 : Int32) (x2 : UInt32) (x3 : Int32) (K : Int32 → Unit → Prop)  : Prop :=
  ((0 : Int32) ≤ (fcg x2 FP.fconst1) → vX7_bitsOf_94 x1 x2 (x3 <<< ((23 : Int32) &&& 31)) K ) ∧ (¬ (0 : Int32) ≤ (fcg x2 FP.fconst1) → vX7_bitsOf_94 x1 x2 (0 : Int32) K )
def vX7_bitsOf_59b (x1 : Int32) (K : Int32 → Unit → Prop)  (B59 : UInt32 → Int32 → Prop) (x2 : UInt32) (x3 : Int32) : Prop :=
  ((0 : Int32) ≤ (fcg x2 FP.fconst1) → vX7_bitsOf_80 x1 x2 x3 K ) ∧ (¬ (0 : Int32) ≤ (fcg x2 FP.fconst1) → (x3 ≤ (1 : Int32) → vX7_bitsOf_80 x1 x2 x3 K ) ∧ (¬ x3 ≤ (1 : Int32) → vf_n32 (FP.fmul x2 FP.fconst2) ∧ B59 (FP.fmul x2 FP.fconst2) (x3 + (-1 : Int32))))
def vX7_bitsOf_59F (x1 : Int32) (K : Int32 → Unit → Prop)  : ((UInt32 × Int32) → Prop) → (UInt32 × Int32) → Prop := fun B z => vX7_bitsOf_59b x1 K  (fun z0 z1 => B (z0, z1)) z.1 z.2
def vX7_bitsOf_43b (x1 : Int32) (K : Int32 → Unit → Prop)  (B43 : UInt32 → Int32 → Prop) (x2 : UInt32) (x3 : Int32) : Prop :=
  ((fcl x2 FP.fconst2) < (0 : Int32) → ∃ k, lp (vX7_bitsOf_59F x1 K ) k (x2, x3)) ∧ (¬ (fcl x2 FP.fconst2) < (0 : Int32) → vf_n32 (FP.fdiv x2 FP.fconst2) ∧ B43 (FP.fdiv x2 FP.fconst2) (x3 + (1 : Int32)))
def vX7_bitsOf_43F (x1 : Int32) (K : Int32 → Unit → Prop)  : ((UInt32 × Int32) → Prop) → (UInt32 × Int32) → Prop := fun B z => vX7_bitsOf_43b x1 K  (fun z0 z1 => B (z0, z1)) z.1 z.2
def vX7_bitsOf_26 (x0 : UInt32) (y0 : Int32) (K : Int32 → Unit → Prop)  : Prop :=
  vX7_sizeOf x0 (fun r_28 u_28 => (¬ (fcl r_28 FP.fconst0) = (0 : Int32) → ∃ k, lp (vX7_bitsOf_43F y0 K ) k (r_28, (127 : Int32))) ∧ ((fcl r_28 FP.fconst0) = (0 : Int32) → K y0 ()))
def vX7_bitsOf_20 (x0 : UInt32) (K : Int32 → Unit → Prop)  : Prop :=
  vX7_bitsOf_26 x0 (-2147483648 : Int32) K 
def vX7_bitsOf_25 (x0 : UInt32) (K : Int32 → Unit → Prop)  : Prop :=
  vX7_bitsOf_26 x0 (0 : Int32) K 
def vX7_bitsOf (p0 : UInt32) (K : Int32 → Unit → Prop) : Prop :=
  ((fcg p0 FP.fconst0) < (0 : Int32) → vX7_bitsOf_20 p0 K ) ∧ (¬ (fcg p0 FP.fconst0) < (0 : Int32) → (¬ (fcl p0 FP.fconst0) = (0 : Int32) → vX7_bitsOf_25 p0 K ) ∧ ((fcl p0 FP.fconst0) = (0 : Int32) → vf_n32 (FP.fdiv FP.fconst1 p0) ∧ ((0 : Int32) ≤ (fcg (FP.fdiv FP.fconst1 p0) FP.fconst0) → vX7_bitsOf_25 p0 K ) ∧ (¬ (0 : Int32) ≤ (fcg (FP.fdiv FP.fconst1 p0) FP.fconst0) → vX7_bitsOf_20 p0 K )))
set_option maxRecDepth 100000 in
set_option maxHeartbeats 4000000 in
theorem ctX7_bitsOf (l : Launch) (G : va_G) (cy : Nat → ClassId)   (p0 : UInt32) (K : Int32 → Unit → Prop) (h : vX7_bitsOf p0 K) : Met l yX7_bitsOf (ws_ yX7_bitsOf cX7_bitsOf 6 (some .int)) ({ frames := 1, cells := 0, slots := 0, locals := 20 } : Room) (CP G cy [.float p0] ([])) (RI G K (fun u => []) (A1 ([]))) 0 0 (A1 ([])) := by
  refine hd_go (Qf := fun A => (RI G K (fun u => []) A)) (by decide +kernel) (Nat.le_of_ble_eq_true rfl) ?_
  intro p e s m below meth c ls A hx hb hr hlocks S hE hP hD hS hl
  have hl : lv_has ls 6 [(0, .float p0)] := hl
  unfold vX7_bitsOf at h
  have J_109 : ∀ (x1 : Int32) (x4 : Int32) (y0 : UInt32), vX7_bitsOf_109 x1 x4 y0 K  → ∀ (H : Heap) (locs : List Loc) (ls : Array Slot), va_P G vwCl ([]) H → va_D A ([]) → va_S A s.heap H locs → lv_has ls 6 [(1, .int x1), (4, .int x4)] → W p l e (headSpec (ws_ yX7_bitsOf cX7_bitsOf 6 (some .int)) ({ frames := 1, cells := 0, slots := 0, locals := 20 } : Room)).room s m ([.float p0] : List Value).toArray below meth c H locs 0 0 (MQ below (RI G K (fun u => []) A) ([.float p0] : List Value).toArray s 0 0 A) (F0 m 109 ls [.float y0]) := by
    intro x1 x4 y0 h H locs ls hP hD hS hl
    unfold vX7_bitsOf_109 at h
    refine lv_fstore (lv' := [(5, .float y0), (1, .int x1), (4, .int x4)]) hx hb dX7_bitsOf_109 hl (by decide) rfl (fun ls hl => ?_)
    refine lv_iload_n hx hb dX7_bitsOf_111 rfl (lv_at hl 1 rfl) ?_
    refine lv_iload hx hb dX7_bitsOf_112 (lv_at hl 2 rfl) ?_
    refine lv_ior hx hb dX7_bitsOf_114 ?_
    refine lv_fload hx hb dX7_bitsOf_115 (lv_at hl 0 rfl) ?_
    refine lv_ldcf hx hb S.2.2.2.1 (S.2.2.2.2 _ q_30_1) dX7_bitsOf_117 ?_
    refine lv_fmul hx hb dX7_bitsOf_119 h.1 ?_
    have h := h.2
    refine lv_f2i hx hb dX7_bitsOf_120 ?_
    refine lv_ior hx hb dX7_bitsOf_121 ?_
    exact W.iret (v := ((x1 ||| x4) ||| (FP.f2i (FP.fmul y0 (1258291200 : UInt32))))) hx hb hr (fun t ht hW => ⟨⟨((x1 ||| x4) ||| (FP.f2i (FP.fmul y0 (1258291200 : UInt32)))), (), rfl, h, ⟨hp_at ht hP, hD⟩⟩, hS.F ht⟩) hS.2.2 dX7_bitsOf_122
  have J_94 : ∀ (x1 : Int32) (x2 : UInt32) (y0 : Int32), vX7_bitsOf_94 x1 x2 y0 K  → ∀ (H : Heap) (locs : List Loc) (ls : Array Slot), va_P G vwCl ([]) H → va_D A ([]) → va_S A s.heap H locs → lv_has ls 6 [(1, .int x1), (2, .float x2)] → W p l e (headSpec (ws_ yX7_bitsOf cX7_bitsOf 6 (some .int)) ({ frames := 1, cells := 0, slots := 0, locals := 20 } : Room)).room s m ([.float p0] : List Value).toArray below meth c H locs 0 0 (MQ below (RI G K (fun u => []) A) ([.float p0] : List Value).toArray s 0 0 A) (F0 m 94 ls [.int y0]) := by
    intro x1 x2 y0 h H locs ls hP hD hS hl
    unfold vX7_bitsOf_94 at h
    refine lv_istore (lv' := [(4, .int y0), (1, .int x1), (2, .float x2)]) hx hb dX7_bitsOf_94 hl (by decide) rfl (fun ls hl => ?_)
    refine lv_fload_n hx hb dX7_bitsOf_96 rfl (lv_at hl 2 rfl) ?_
    refine lv_fconst1 hx hb dX7_bitsOf_97 ?_
    refine lv_fcmp hx hb dX7_bitsOf_98 ?_
    refine lv_if_ge (tgt := 106) hx hb dX7_bitsOf_99 (by decide) (fun c_99 => ?_) (fun c_99 => ?_)
    · have h := h.1 c_99
      refine lv_fload_n hx hb dX7_bitsOf_106 rfl (lv_at hl 2 rfl) ?_
      refine lv_fconst1 hx hb dX7_bitsOf_107 ?_
      refine lv_fsub hx hb dX7_bitsOf_108 h.1 ?_
      have h := h.2
      exact J_109 _ _ _ h _ _ _ hP hD hS (lv_sub hl [1, 0] rfl)
    · have h := h.2 c_99
      refine lv_fload_n hx hb dX7_bitsOf_102 rfl (lv_at hl 2 rfl) ?_
      refine lv_goto (tgt := 109) hx hb dX7_bitsOf_103 (by decide) ?_
      exact J_109 _ _ _ h _ _ _ hP hD hS (lv_sub hl [1, 0] rfl)
  have J_80 : ∀ (x1 : Int32) (x2 : UInt32) (x3 : Int32), vX7_bitsOf_80 x1 x2 x3 K  → ∀ (H : Heap) (locs : List Loc) (ls : Array Slot), va_P G vwCl ([]) H → va_D A ([]) → va_S A s.heap H locs → lv_has ls 6 [(1, .int x1), (2, .float x2), (3, .int x3)] → W p l e (headSpec (ws_ yX7_bitsOf cX7_bitsOf 6 (some .int)) ({ frames := 1, cells := 0, slots := 0, locals := 20 } : Room)).room s m ([.float p0] : List Value).toArray below meth c H locs 0 0 (MQ below (RI G K (fun u => []) A) ([.float p0] : List Value).toArray s 0 0 A) (F0 m 80 ls []) := by
    intro x1 x2 x3 h H locs ls hP hD hS hl
    unfold vX7_bitsOf_80 at h
    refine lv_fload_n hx hb dX7_bitsOf_80 rfl (lv_at hl 1 rfl) ?_
    refine lv_fconst1 hx hb dX7_bitsOf_81 ?_
    refine lv_fcmp hx hb dX7_bitsOf_82 ?_
    refine lv_if_ge (tgt := 90) hx hb dX7_bitsOf_83 (by decide) (fun c_83 => ?_) (fun c_83 => ?_)
    · have h := h.1 c_83
      refine lv_iload_n hx hb dX7_bitsOf_90 rfl (lv_at hl 2 rfl) ?_
      refine lv_bipush (v := (23 : Int32)) hx hb dX7_bitsOf_91 (by decide) ?_
      refine lv_ishl hx hb dX7_bitsOf_93 ?_
      exact J_94 _ _ _ h _ _ _ hP hD hS (lv_sub hl [0, 1] rfl)
    · have h := h.2 c_83
      refine lv_iconst (v := (0 : Int32)) hx hb dX7_bitsOf_86 (by decide) ?_
      refine lv_goto (tgt := 94) hx hb dX7_bitsOf_87 (by decide) ?_
      exact J_94 _ _ _ h _ _ _ hP hD hS (lv_sub hl [0, 1] rfl)
  have L_59 : ∀ (x1 : Int32) (k_59 : Nat) (x2 : UInt32) (x3 : Int32), lp (vX7_bitsOf_59F x1 K ) k_59 (x2, x3) → ∀ (H : Heap) (locs : List Loc) (ls : Array Slot), va_P G vwCl ([]) H → va_D A ([]) → va_S A s.heap H locs → lv_has ls 6 [(1, .int x1), (2, .float x2), (3, .int x3)] → W p l e (headSpec (ws_ yX7_bitsOf cX7_bitsOf 6 (some .int)) ({ frames := 1, cells := 0, slots := 0, locals := 20 } : Room)).room s m ([.float p0] : List Value).toArray below meth c H locs 0 0 (MQ below (RI G K (fun u => []) A) ([.float p0] : List Value).toArray s 0 0 A) (F0 m 59 ls []) := by
    intro x1 k_59
    induction k_59 with
    | zero => intro x2 x3 h; exact h.elim
    | succ k_59 ih_59 =>
      intro x2 x3 h H locs ls hP hD hS hl
      have h : vX7_bitsOf_59b x1 K  (fun z0 z1 => lp (vX7_bitsOf_59F x1 K ) k_59 (z0, z1)) x2 x3 := h
      unfold vX7_bitsOf_59b at h
      refine lv_fload_n hx hb dX7_bitsOf_59 rfl (lv_at hl 1 rfl) ?_
      refine lv_fconst1 hx hb dX7_bitsOf_60 ?_
      refine lv_fcmp hx hb dX7_bitsOf_61 ?_
      refine lv_if_ge (tgt := 80) hx hb dX7_bitsOf_62 (by decide) (fun c_62 => ?_) (fun c_62 => ?_)
      · have h := h.1 c_62
        exact J_80 _ _ _ h _ _ _ hP hD hS (lv_sub hl [0, 1, 2] rfl)
      · have h := h.2 c_62
        refine lv_iload_n hx hb dX7_bitsOf_65 rfl (lv_at hl 2 rfl) ?_
        refine lv_iconst (v := (1 : Int32)) hx hb dX7_bitsOf_66 (by decide) ?_
        refine lv_icmp_le (tgt := 80) hx hb dX7_bitsOf_67 (by decide) (fun c_67 => ?_) (fun c_67 => ?_)
        · have h := h.1 c_67
          exact J_80 _ _ _ h _ _ _ hP hD hS (lv_sub hl [0, 1, 2] rfl)
        · have h := h.2 c_67
          refine lv_fload_n hx hb dX7_bitsOf_70 rfl (lv_at hl 1 rfl) ?_
          refine lv_fconst2 hx hb dX7_bitsOf_71 ?_
          refine lv_fmul hx hb dX7_bitsOf_72 h.1 ?_
          have h := h.2
          refine lv_fstore_n (lv' := [(2, .float (FP.fmul x2 FP.fconst2)), (1, .int x1), (3, .int x3)]) hx hb dX7_bitsOf_73 rfl hl (by decide) rfl (fun ls hl => ?_)
          refine lv_iinc (v := (x3 + (-1 : Int32))) (lv' := [(3, .int (x3 + (-1 : Int32))), (2, .float (FP.fmul x2 FP.fconst2)), (1, .int x1)]) hx hb dX7_bitsOf_74 hl (k := 2) rfl (by rfl) (by decide) rfl (fun ls hl => ?_)
          refine lv_goto (tgt := 59) hx hb dX7_bitsOf_77 (by decide) ?_
          exact ih_59 _ _ h _ _ _ hP hD hS (lv_sub hl [2, 1, 0] rfl)
  have L_43 : ∀ (x1 : Int32) (k_43 : Nat) (x2 : UInt32) (x3 : Int32), lp (vX7_bitsOf_43F x1 K ) k_43 (x2, x3) → ∀ (H : Heap) (locs : List Loc) (ls : Array Slot), va_P G vwCl ([]) H → va_D A ([]) → va_S A s.heap H locs → lv_has ls 6 [(1, .int x1), (2, .float x2), (3, .int x3)] → W p l e (headSpec (ws_ yX7_bitsOf cX7_bitsOf 6 (some .int)) ({ frames := 1, cells := 0, slots := 0, locals := 20 } : Room)).room s m ([.float p0] : List Value).toArray below meth c H locs 0 0 (MQ below (RI G K (fun u => []) A) ([.float p0] : List Value).toArray s 0 0 A) (F0 m 43 ls []) := by
    intro x1 k_43
    induction k_43 with
    | zero => intro x2 x3 h; exact h.elim
    | succ k_43 ih_43 =>
      intro x2 x3 h H locs ls hP hD hS hl
      have h : vX7_bitsOf_43b x1 K  (fun z0 z1 => lp (vX7_bitsOf_43F x1 K ) k_43 (z0, z1)) x2 x3 := h
      unfold vX7_bitsOf_43b at h
      refine lv_fload_n hx hb dX7_bitsOf_43 rfl (lv_at hl 1 rfl) ?_
      refine lv_fconst2 hx hb dX7_bitsOf_44 ?_
      refine lv_fcmp hx hb dX7_bitsOf_45 ?_
      refine lv_if_lt (tgt := 59) hx hb dX7_bitsOf_46 (by decide) (fun c_46 => ?_) (fun c_46 => ?_)
      · have h := h.1 c_46
        obtain ⟨k0, h⟩ := h
        exact L_59 _ k0 _ _ h _ _ _ hP hD hS (lv_sub hl [0, 1, 2] rfl)
      · have h := h.2 c_46
        refine lv_fload_n hx hb dX7_bitsOf_49 rfl (lv_at hl 1 rfl) ?_
        refine lv_fconst2 hx hb dX7_bitsOf_50 ?_
        refine lv_fdiv hx hb dX7_bitsOf_51 h.1 ?_
        have h := h.2
        refine lv_fstore_n (lv' := [(2, .float (FP.fdiv x2 FP.fconst2)), (1, .int x1), (3, .int x3)]) hx hb dX7_bitsOf_52 rfl hl (by decide) rfl (fun ls hl => ?_)
        refine lv_iinc (v := (x3 + (1 : Int32))) (lv' := [(3, .int (x3 + (1 : Int32))), (2, .float (FP.fdiv x2 FP.fconst2)), (1, .int x1)]) hx hb dX7_bitsOf_53 hl (k := 2) rfl (by rfl) (by decide) rfl (fun ls hl => ?_)
        refine lv_goto (tgt := 43) hx hb dX7_bitsOf_56 (by decide) ?_
        exact ih_43 _ _ h _ _ _ hP hD hS (lv_sub hl [2, 1, 0] rfl)
  have J_26 : ∀ (x0 : UInt32) (y0 : Int32), vX7_bitsOf_26 x0 y0 K  → ∀ (H : Heap) (locs : List Loc) (ls : Array Slot), va_P G vwCl ([]) H → va_D A ([]) → va_S A s.heap H locs → lv_has ls 6 [(0, .float x0)] → W p l e (headSpec (ws_ yX7_bitsOf cX7_bitsOf 6 (some .int)) ({ frames := 1, cells := 0, slots := 0, locals := 20 } : Room)).room s m ([.float p0] : List Value).toArray below meth c H locs 0 0 (MQ below (RI G K (fun u => []) A) ([.float p0] : List Value).toArray s 0 0 A) (F0 m 26 ls [.int y0]) := by
    intro x0 y0 h H locs ls hP hD hS hl
    unfold vX7_bitsOf_26 at h
    refine lv_istore_n (lv' := [(1, .int y0), (0, .float x0)]) hx hb dX7_bitsOf_26 rfl hl (by decide) rfl (fun ls hl => ?_)
    refine lv_fload_n hx hb dX7_bitsOf_27 rfl (lv_at hl 1 rfl) ?_
    refine kc_SfE (As := [.float x0]) (rest := []) S hE (ctX7_sizeOf l G cy   x0 _ h) q_9_20 q_9_21 q_1_5 q_9_22 ydX7_sizeOf ⟨⟨rfl, rfl⟩, ⟨Nat.le_of_ble_eq_true rfl, Nat.le_of_ble_eq_true rfl⟩⟩ ⟨Nat.zero_le _, Nat.zero_le _⟩ hP hD hS (fun _ => rfl) rfl hl.1 rfl (Nat.le_of_ble_eq_true rfl) dX7_bitsOf_28 (fun r_28 u_28 H locs h hP hD hS => ?_)
    refine lv_fstore_n (lv' := [(2, .float r_28), (1, .int y0), (0, .float x0)]) hx hb dX7_bitsOf_31 rfl hl (by decide) rfl (fun ls hl => ?_)
    refine lv_fload_n hx hb dX7_bitsOf_32 rfl (lv_at hl 0 rfl) ?_
    refine lv_fconst0 hx hb dX7_bitsOf_33 ?_
    refine lv_fcmp hx hb dX7_bitsOf_34 ?_
    refine lv_if_ne (tgt := 40) hx hb dX7_bitsOf_35 (by decide) (fun c_35 => ?_) (fun c_35 => ?_)
    · have h := h.1 c_35
      refine lv_bipush (v := (127 : Int32)) hx hb dX7_bitsOf_40 (by decide) ?_
      refine lv_istore_n (lv' := [(3, .int (127 : Int32)), (2, .float r_28), (1, .int y0), (0, .float x0)]) hx hb dX7_bitsOf_42 rfl hl (by decide) rfl (fun ls hl => ?_)
      obtain ⟨k0, h⟩ := h
      exact L_43 _ k0 _ _ h _ _ _ hP hD hS (lv_sub hl [2, 1, 0] rfl)
    · have h := h.2 c_35
      refine lv_iload_n hx hb dX7_bitsOf_38 rfl (lv_at hl 1 rfl) ?_
      exact W.iret (v := y0) hx hb hr (fun t ht hW => ⟨⟨y0, (), rfl, h, ⟨hp_at ht hP, hD⟩⟩, hS.F ht⟩) hS.2.2 dX7_bitsOf_39
  have J_20 : ∀ (x0 : UInt32), vX7_bitsOf_20 x0 K  → ∀ (H : Heap) (locs : List Loc) (ls : Array Slot), va_P G vwCl ([]) H → va_D A ([]) → va_S A s.heap H locs → lv_has ls 6 [(0, .float x0)] → W p l e (headSpec (ws_ yX7_bitsOf cX7_bitsOf 6 (some .int)) ({ frames := 1, cells := 0, slots := 0, locals := 20 } : Room)).room s m ([.float p0] : List Value).toArray below meth c H locs 0 0 (MQ below (RI G K (fun u => []) A) ([.float p0] : List Value).toArray s 0 0 A) (F0 m 20 ls []) := by
    intro x0 h H locs ls hP hD hS hl
    unfold vX7_bitsOf_20 at h
    refine lv_ldc hx hb S.2.2.2.1 (S.2.2.2.2 _ q_30_0) dX7_bitsOf_20 ?_
    refine lv_goto (tgt := 26) hx hb dX7_bitsOf_22 (by decide) ?_
    exact J_26 _ _ h _ _ _ hP hD hS (lv_sub hl [0] rfl)
  have J_25 : ∀ (x0 : UInt32), vX7_bitsOf_25 x0 K  → ∀ (H : Heap) (locs : List Loc) (ls : Array Slot), va_P G vwCl ([]) H → va_D A ([]) → va_S A s.heap H locs → lv_has ls 6 [(0, .float x0)] → W p l e (headSpec (ws_ yX7_bitsOf cX7_bitsOf 6 (some .int)) ({ frames := 1, cells := 0, slots := 0, locals := 20 } : Room)).room s m ([.float p0] : List Value).toArray below meth c H locs 0 0 (MQ below (RI G K (fun u => []) A) ([.float p0] : List Value).toArray s 0 0 A) (F0 m 25 ls []) := by
    intro x0 h H locs ls hP hD hS hl
    unfold vX7_bitsOf_25 at h
    refine lv_iconst (v := (0 : Int32)) hx hb dX7_bitsOf_25 (by decide) ?_
    exact J_26 _ _ h _ _ _ hP hD hS (lv_sub hl [0] rfl)
  refine lv_fload_n hx hb dX7_bitsOf_0 rfl (lv_at hl 0 rfl) ?_
  refine lv_fconst0 hx hb dX7_bitsOf_1 ?_
  refine lv_fcmp hx hb dX7_bitsOf_2 ?_
  refine lv_if_lt (tgt := 20) hx hb dX7_bitsOf_3 (by decide) (fun c_3 => ?_) (fun c_3 => ?_)
  · have h := h.1 c_3
    exact J_20 _ h _ _ _ hP hD hS (lv_sub hl [0] rfl)
  · have h := h.2 c_3
    refine lv_fload_n hx hb dX7_bitsOf_6 rfl (lv_at hl 0 rfl) ?_
    refine lv_fconst0 hx hb dX7_bitsOf_7 ?_
    refine lv_fcmp hx hb dX7_bitsOf_8 ?_
    refine lv_if_ne (tgt := 25) hx hb dX7_bitsOf_9 (by decide) (fun c_9 => ?_) (fun c_9 => ?_)
    · have h := h.1 c_9
      exact J_25 _ h _ _ _ hP hD hS (lv_sub hl [0] rfl)
    · have h := h.2 c_9
      refine lv_fconst1 hx hb dX7_bitsOf_12 ?_
      refine lv_fload_n hx hb dX7_bitsOf_13 rfl (lv_at hl 0 rfl) ?_
      refine lv_fdiv hx hb dX7_bitsOf_14 h.1 ?_
      have h := h.2
      refine lv_fconst0 hx hb dX7_bitsOf_15 ?_
      refine lv_fcmp hx hb dX7_bitsOf_16 ?_
      refine lv_if_ge (tgt := 25) hx hb dX7_bitsOf_17 (by decide) (fun c_17 => ?_) (fun c_17 => ?_)
      · have h := h.1 c_17
        exact J_25 _ h _ _ _ hP hD hS (lv_sub hl [0] rfl)
      · have h := h.2 c_17
        exact J_20 _ h _ _ _ hP hD hS (lv_sub hl [0] rfl)
def vX7_told (mn : Nat → Int32) (mf : Nat → UInt32) (p1 : Int32) (K : UInt32 → Unit → Prop) : Prop :=
  (p1 = (1 : Int32) → K (mf 1) ()) ∧ (¬ p1 = (1 : Int32) → (p1 = (2 : Int32) → K (mf 2) ()) ∧ (¬ p1 = (2 : Int32) → (p1 = (3 : Int32) → K (mf 3) ()) ∧ (¬ p1 = (3 : Int32) → (p1 = (4 : Int32) → vX7_measured mn mf (mn 4) (fun r_72 u_72 => K r_72 ())) ∧ (¬ p1 = (4 : Int32) → (p1 = (5 : Int32) → vX7_measured mn mf (mn 4) (fun r_84 u_84 => vX7_limitAt mn r_84 (fun r_87 u_87 => K r_87 ()))) ∧ (¬ p1 = (5 : Int32) → (p1 = (6 : Int32) → vX7_measured mn mf (0 : Int32) (fun r_93 u_93 => K r_93 ())) ∧ (¬ p1 = (6 : Int32) → (p1 = (7 : Int32) → vX7_measured mn mf (1 : Int32) (fun r_99 u_99 => K r_99 ())) ∧ (¬ p1 = (7 : Int32) → K (mf 0) ())))))))
set_option maxRecDepth 100000 in
set_option maxHeartbeats 4000000 in
theorem ctX7_told (l : Launch) (G : va_G) (cy : Nat → ClassId) (a : Nat → Nat) (mn : Nat → Int32) (mf : Nat → UInt32) (mk : Nat → Int32) (mg : Nat → UInt32) (mv : Nat → Int32) (mt : Nat → Int32) (mm : Nat → Int32) (p1 : Int32) (K : UInt32 → Unit → Prop) (h : vX7_told mn mf p1 K) : Met l yX7_told (ws_ yX7_told cX7_told 2 (some .float)) ({ frames := 3, cells := 0, slots := 0, locals := 68 } : Room) (CP G cy [.ref (a 0), .int p1] (md_W cy a mn mf mk mg mv mt mm)) (RF G K (fun u => md_W cy a mn mf mk mg mv mt mm) (A1 (md_W cy a mn mf mk mg mv mt mm))) 0 0 (A1 (md_W cy a mn mf mk mg mv mt mm)) := by
  refine hd_go (Qf := fun A => (RF G K (fun u => md_W cy a mn mf mk mg mv mt mm) A)) (by decide +kernel) (Nat.le_of_ble_eq_true rfl) ?_
  intro p e s m below meth c ls A hx hb hr hlocks S hE hP hD hS hl
  have hl : lv_has ls 2 [(0, .ref (a 0)), (1, .int p1)] := hl
  unfold vX7_told at h
  refine lv_iload_n hx hb dX7_told_0 rfl (lv_at hl 1 rfl) ?_
  rcases Classical.em (p1 = (1 : Int32)) with c_1_0 | c_1_0
  · have h := h.1 c_1_0
    refine lv_tableIn (tgt := 44) hx hb dX7_told_1 (by rw [c_1_0]; decide) (by rw [c_1_0]; decide) (by rw [c_1_0]; try rfl) (by decide) ?_
    refine lv_aload_n hx hb dX7_told_44 rfl (lv_at hl 0 rfl) ?_
    refine kg (v := .ref (a 2)) S hE hP 0 rfl rfl 1 (by decide) q_4_15 rfl rfl inlX7 dX7_told_45 ?_
    refine lv_iconst (v := (1 : Int32)) hx hb dX7_told_48 (by decide) ?_
    refine kafl (v := (mf 1)) S hE hP 2 rfl (vi_1 (by decide)) tc_1 rfl dX7_told_49 ?_
    exact W.fret (v := (mf 1)) hx hb hr (fun t ht hW => ⟨⟨(mf 1), (), rfl, h, ⟨hp_at ht hP, hD⟩⟩, hS.F ht⟩) hS.2.2 dX7_told_50
  · have h := h.2 c_1_0
    rcases Classical.em (p1 = (2 : Int32)) with c_1_1 | c_1_1
    · have h := h.1 c_1_1
      refine lv_tableIn (tgt := 51) hx hb dX7_told_1 (by rw [c_1_1]; decide) (by rw [c_1_1]; decide) (by rw [c_1_1]; try rfl) (by decide) ?_
      refine lv_aload_n hx hb dX7_told_51 rfl (lv_at hl 0 rfl) ?_
      refine kg (v := .ref (a 2)) S hE hP 0 rfl rfl 1 (by decide) q_4_15 rfl rfl inlX7 dX7_told_52 ?_
      refine lv_iconst (v := (2 : Int32)) hx hb dX7_told_55 (by decide) ?_
      refine kafl (v := (mf 2)) S hE hP 2 rfl (vi_2 (by decide)) tc_2 rfl dX7_told_56 ?_
      exact W.fret (v := (mf 2)) hx hb hr (fun t ht hW => ⟨⟨(mf 2), (), rfl, h, ⟨hp_at ht hP, hD⟩⟩, hS.F ht⟩) hS.2.2 dX7_told_57
    · have h := h.2 c_1_1
      rcases Classical.em (p1 = (3 : Int32)) with c_1_2 | c_1_2
      · have h := h.1 c_1_2
        refine lv_tableIn (tgt := 58) hx hb dX7_told_1 (by rw [c_1_2]; decide) (by rw [c_1_2]; decide) (by rw [c_1_2]; try rfl) (by decide) ?_
        refine lv_aload_n hx hb dX7_told_58 rfl (lv_at hl 0 rfl) ?_
        refine kg (v := .ref (a 2)) S hE hP 0 rfl rfl 1 (by decide) q_4_15 rfl rfl inlX7 dX7_told_59 ?_
        refine lv_iconst (v := (3 : Int32)) hx hb dX7_told_62 (by decide) ?_
        refine kafl (v := (mf 3)) S hE hP 2 rfl (vi_3 (by decide)) tc_3 rfl dX7_told_63 ?_
        exact W.fret (v := (mf 3)) hx hb hr (fun t ht hW => ⟨⟨(mf 3), (), rfl, h, ⟨hp_at ht hP, hD⟩⟩, hS.F ht⟩) hS.2.2 dX7_told_64
      · have h := h.2 c_1_2
        rcases Classical.em (p1 = (4 : Int32)) with c_1_3 | c_1_3
        · have h := h.1 c_1_3
          refine lv_tableIn (tgt := 65) hx hb dX7_told_1 (by rw [c_1_3]; decide) (by rw [c_1_3]; decide) (by rw [c_1_3]; try rfl) (by decide) ?_
          refine lv_aload_n hx hb dX7_told_65 rfl (lv_at hl 0 rfl) ?_
          refine lv_aload_n hx hb dX7_told_66 rfl (lv_at hl 0 rfl) ?_
          refine kg (v := .ref (a 1)) S hE hP 0 rfl rfl 0 (by decide) q_4_13 rfl rfl inlX7 dX7_told_67 ?_
          refine lv_iconst (v := (4 : Int32)) hx hb dX7_told_70 (by decide) ?_
          refine kail (v := (mn 4)) S hE hP 1 rfl (vi_4 (by decide)) tc_4 rfl dX7_told_71 ?_
          refine kc_Vf0 (As := [.int (mn 4)]) (rest := []) S hE (ctX7_measured l G cy a mn mf mk mg mv mt mm (mn 4) _ h) q_21_23 q_22_0 q_22_1 q_1_5 q_22_2 rfl 0 rfl rfl ydX7_measured ⟨⟨rfl, rfl⟩, ⟨Nat.le_of_ble_eq_true rfl, Nat.le_of_ble_eq_true rfl⟩⟩ ⟨Nat.zero_le _, Nat.zero_le _⟩ hP hD hS rfl hl.1 rfl (Nat.le_of_ble_eq_true rfl) dX7_told_72 (fun r_72 u_72 H locs h hP hD hS => ?_)
          exact W.fret (v := r_72) hx hb hr (fun t ht hW => ⟨⟨r_72, (), rfl, h, ⟨hp_at ht hP, hD⟩⟩, hS.F ht⟩) hS.2.2 dX7_told_75
        · have h := h.2 c_1_3
          rcases Classical.em (p1 = (5 : Int32)) with c_1_4 | c_1_4
          · have h := h.1 c_1_4
            refine lv_tableIn (tgt := 76) hx hb dX7_told_1 (by rw [c_1_4]; decide) (by rw [c_1_4]; decide) (by rw [c_1_4]; try rfl) (by decide) ?_
            refine lv_aload_n hx hb dX7_told_76 rfl (lv_at hl 0 rfl) ?_
            refine lv_aload_n hx hb dX7_told_77 rfl (lv_at hl 0 rfl) ?_
            refine lv_aload_n hx hb dX7_told_78 rfl (lv_at hl 0 rfl) ?_
            refine kg (v := .ref (a 1)) S hE hP 0 rfl rfl 0 (by decide) q_4_13 rfl rfl inlX7 dX7_told_79 ?_
            refine lv_iconst (v := (4 : Int32)) hx hb dX7_told_82 (by decide) ?_
            refine kail (v := (mn 4)) S hE hP 1 rfl (vi_4 (by decide)) tc_4 rfl dX7_told_83 ?_
            refine kc_Vf0 (As := [.int (mn 4)]) (rest := [.ref (a 0)]) S hE (ctX7_measured l G cy a mn mf mk mg mv mt mm (mn 4) _ h) q_21_23 q_22_0 q_22_1 q_1_5 q_22_2 rfl 0 rfl rfl ydX7_measured ⟨⟨rfl, rfl⟩, ⟨Nat.le_of_ble_eq_true rfl, Nat.le_of_ble_eq_true rfl⟩⟩ ⟨Nat.zero_le _, Nat.zero_le _⟩ hP hD hS rfl hl.1 rfl (Nat.le_of_ble_eq_true rfl) dX7_told_84 (fun r_84 u_84 H locs h hP hD hS => ?_)
            refine kc_Vf0 (As := [.float r_84]) (rest := []) S hE (ctX7_limitAt l G cy a mn mf mk mg mv mt mm r_84 _ h) q_10_4 q_10_5 q_10_6 q_1_5 q_10_7 rfl 0 rfl rfl ydX7_limitAt ⟨⟨rfl, rfl⟩, ⟨Nat.le_of_ble_eq_true rfl, Nat.le_of_ble_eq_true rfl⟩⟩ ⟨Nat.zero_le _, Nat.zero_le _⟩ hP hD hS rfl hl.1 rfl (Nat.le_of_ble_eq_true rfl) dX7_told_87 (fun r_87 u_87 H locs h hP hD hS => ?_)
            exact W.fret (v := r_87) hx hb hr (fun t ht hW => ⟨⟨r_87, (), rfl, h, ⟨hp_at ht hP, hD⟩⟩, hS.F ht⟩) hS.2.2 dX7_told_90
          · have h := h.2 c_1_4
            rcases Classical.em (p1 = (6 : Int32)) with c_1_5 | c_1_5
            · have h := h.1 c_1_5
              refine lv_tableIn (tgt := 91) hx hb dX7_told_1 (by rw [c_1_5]; decide) (by rw [c_1_5]; decide) (by rw [c_1_5]; try rfl) (by decide) ?_
              refine lv_aload_n hx hb dX7_told_91 rfl (lv_at hl 0 rfl) ?_
              refine lv_iconst (v := (0 : Int32)) hx hb dX7_told_92 (by decide) ?_
              refine kc_Vf0 (As := [.int (0 : Int32)]) (rest := []) S hE (ctX7_measured l G cy a mn mf mk mg mv mt mm (0 : Int32) _ h) q_21_23 q_22_0 q_22_1 q_1_5 q_22_2 rfl 0 rfl rfl ydX7_measured ⟨⟨rfl, rfl⟩, ⟨Nat.le_of_ble_eq_true rfl, Nat.le_of_ble_eq_true rfl⟩⟩ ⟨Nat.zero_le _, Nat.zero_le _⟩ hP hD hS rfl hl.1 rfl (Nat.le_of_ble_eq_true rfl) dX7_told_93 (fun r_93 u_93 H locs h hP hD hS => ?_)
              exact W.fret (v := r_93) hx hb hr (fun t ht hW => ⟨⟨r_93, (), rfl, h, ⟨hp_at ht hP, hD⟩⟩, hS.F ht⟩) hS.2.2 dX7_told_96
            · have h := h.2 c_1_5
              rcases Classical.em (p1 = (7 : Int32)) with c_1_6 | c_1_6
              · have h := h.1 c_1_6
                refine lv_tableIn (tgt := 97) hx hb dX7_told_1 (by rw [c_1_6]; decide) (by rw [c_1_6]; decide) (by rw [c_1_6]; try rfl) (by decide) ?_
                refine lv_aload_n hx hb dX7_told_97 rfl (lv_at hl 0 rfl) ?_
                refine lv_iconst (v := (1 : Int32)) hx hb dX7_told_98 (by decide) ?_
                refine kc_Vf0 (As := [.int (1 : Int32)]) (rest := []) S hE (ctX7_measured l G cy a mn mf mk mg mv mt mm (1 : Int32) _ h) q_21_23 q_22_0 q_22_1 q_1_5 q_22_2 rfl 0 rfl rfl ydX7_measured ⟨⟨rfl, rfl⟩, ⟨Nat.le_of_ble_eq_true rfl, Nat.le_of_ble_eq_true rfl⟩⟩ ⟨Nat.zero_le _, Nat.zero_le _⟩ hP hD hS rfl hl.1 rfl (Nat.le_of_ble_eq_true rfl) dX7_told_99 (fun r_99 u_99 H locs h hP hD hS => ?_)
                exact W.fret (v := r_99) hx hb hr (fun t ht hW => ⟨⟨r_99, (), rfl, h, ⟨hp_at ht hP, hD⟩⟩, hS.F ht⟩) hS.2.2 dX7_told_102
              · have h := h.2 c_1_6
                have n_0 := lv_neT c_1_0 (a := 1) (by decide)
                have n_1 := lv_neT c_1_1 (a := 2) (by decide)
                have n_2 := lv_neT c_1_2 (a := 3) (by decide)
                have n_3 := lv_neT c_1_3 (a := 4) (by decide)
                have n_4 := lv_neT c_1_4 (a := 5) (by decide)
                have n_5 := lv_neT c_1_5 (a := 6) (by decide)
                have n_6 := lv_neT c_1_6 (a := 7) (by decide)
                refine lv_tableOut (tgt := 103) hx hb dX7_told_1 (by omega) (by decide) ?_
                refine lv_aload_n hx hb dX7_told_103 rfl (lv_at hl 0 rfl) ?_
                refine kg (v := .ref (a 2)) S hE hP 0 rfl rfl 1 (by decide) q_4_15 rfl rfl inlX7 dX7_told_104 ?_
                refine lv_iconst (v := (0 : Int32)) hx hb dX7_told_107 (by decide) ?_
                refine kafl (v := (mf 0)) S hE hP 2 rfl (vi_0 (by decide)) tc_0 rfl dX7_told_108 ?_
                exact W.fret (v := (mf 0)) hx hb hr (fun t ht hW => ⟨⟨(mf 0), (), rfl, h, ⟨hp_at ht hP, hD⟩⟩, hS.F ht⟩) hS.2.2 dX7_told_109
def vX7_bits (mn : Nat → Int32) (mf : Nat → UInt32) (p1 : Int32) (K : Int32 → Unit → Prop) : Prop :=
  vX7_told mn mf p1 (fun r_2 u_2 => vX7_bitsOf r_2 (fun r_5 u_5 => K r_5 ()))
set_option maxRecDepth 100000 in
set_option maxHeartbeats 4000000 in
theorem ctX7_bits (l : Launch) (G : va_G) (cy : Nat → ClassId) (a : Nat → Nat) (mn : Nat → Int32) (mf : Nat → UInt32) (mk : Nat → Int32) (mg : Nat → UInt32) (mv : Nat → Int32) (mt : Nat → Int32) (mm : Nat → Int32) (p1 : Int32) (K : Int32 → Unit → Prop) (h : vX7_bits mn mf p1 K) : Met l yX7_bits (ws_ yX7_bits cX7_bits 2 (some .int)) ({ frames := 4, cells := 0, slots := 0, locals := 89 } : Room) (CP G cy [.ref (a 0), .int p1] (md_W cy a mn mf mk mg mv mt mm)) (RI G K (fun u => md_W cy a mn mf mk mg mv mt mm) (A1 (md_W cy a mn mf mk mg mv mt mm))) 0 0 (A1 (md_W cy a mn mf mk mg mv mt mm)) := by
  refine hd_go (Qf := fun A => (RI G K (fun u => md_W cy a mn mf mk mg mv mt mm) A)) (by decide +kernel) (Nat.le_of_ble_eq_true rfl) ?_
  intro p e s m below meth c ls A hx hb hr hlocks S hE hP hD hS hl
  have hl : lv_has ls 2 [(0, .ref (a 0)), (1, .int p1)] := hl
  unfold vX7_bits at h
  refine lv_aload_n hx hb dX7_bits_0 rfl (lv_at hl 0 rfl) ?_
  refine lv_iload_n hx hb dX7_bits_1 rfl (lv_at hl 1 rfl) ?_
  refine kc_Vf0 (As := [.int p1]) (rest := []) S hE (ctX7_told l G cy a mn mf mk mg mv mt mm p1 _ h) q_29_17 q_29_18 q_29_19 q_1_5 q_29_20 rfl 0 rfl rfl ydX7_told ⟨⟨rfl, rfl⟩, ⟨Nat.le_of_ble_eq_true rfl, Nat.le_of_ble_eq_true rfl⟩⟩ ⟨Nat.zero_le _, Nat.zero_le _⟩ hP hD hS rfl hl.1 rfl (Nat.le_of_ble_eq_true rfl) dX7_bits_2 (fun r_2 u_2 H locs h hP hD hS => ?_)
  refine kc_SiE (As := [.float r_2]) (rest := []) S hE (ctX7_bitsOf l G cy   r_2 _ h) q_29_21 q_29_22 q_1_5 q_29_23 ydX7_bitsOf ⟨⟨rfl, rfl⟩, ⟨Nat.le_of_ble_eq_true rfl, Nat.le_of_ble_eq_true rfl⟩⟩ ⟨Nat.zero_le _, Nat.zero_le _⟩ hP hD hS (fun _ => rfl) rfl hl.1 rfl (Nat.le_of_ble_eq_true rfl) dX7_bits_5 (fun r_5 u_5 H locs h hP hD hS => ?_)
  exact W.iret (v := r_5) hx hb hr (fun t ht hW => ⟨⟨r_5, (), rfl, h, ⟨hp_at ht hP, hD⟩⟩, hS.F ht⟩) hS.2.2 dX7_bits_8
def vX7_thousandths (mn : Nat → Int32) (mf : Nat → UInt32) (p1 : Int32) (K : Int32 → Unit → Prop) : Prop :=
  vX7_told mn mf p1 (fun r_2 u_2 => vf_n32 (FP.fmul r_2 (1148846080 : UInt32)) ∧ K (FP.f2i (FP.fmul r_2 (1148846080 : UInt32))) ())
set_option maxRecDepth 100000 in
set_option maxHeartbeats 4000000 in
theorem ctX7_thousandths (l : Launch) (G : va_G) (cy : Nat → ClassId) (a : Nat → Nat) (mn : Nat → Int32) (mf : Nat → UInt32) (mk : Nat → Int32) (mg : Nat → UInt32) (mv : Nat → Int32) (mt : Nat → Int32) (mm : Nat → Int32) (p1 : Int32) (K : Int32 → Unit → Prop) (h : vX7_thousandths mn mf p1 K) : Met l yX7_thousandths (ws_ yX7_thousandths cX7_thousandths 2 (some .int)) ({ frames := 4, cells := 0, slots := 0, locals := 89 } : Room) (CP G cy [.ref (a 0), .int p1] (md_W cy a mn mf mk mg mv mt mm)) (RI G K (fun u => md_W cy a mn mf mk mg mv mt mm) (A1 (md_W cy a mn mf mk mg mv mt mm))) 0 0 (A1 (md_W cy a mn mf mk mg mv mt mm)) := by
  refine hd_go (Qf := fun A => (RI G K (fun u => md_W cy a mn mf mk mg mv mt mm) A)) (by decide +kernel) (Nat.le_of_ble_eq_true rfl) ?_
  intro p e s m below meth c ls A hx hb hr hlocks S hE hP hD hS hl
  have hl : lv_has ls 2 [(0, .ref (a 0)), (1, .int p1)] := hl
  unfold vX7_thousandths at h
  refine lv_aload_n hx hb dX7_thousandths_0 rfl (lv_at hl 0 rfl) ?_
  refine lv_iload_n hx hb dX7_thousandths_1 rfl (lv_at hl 1 rfl) ?_
  refine kc_Vf0 (As := [.int p1]) (rest := []) S hE (ctX7_told l G cy a mn mf mk mg mv mt mm p1 _ h) q_29_17 q_29_18 q_29_19 q_1_5 q_29_20 rfl 0 rfl rfl ydX7_told ⟨⟨rfl, rfl⟩, ⟨Nat.le_of_ble_eq_true rfl, Nat.le_of_ble_eq_true rfl⟩⟩ ⟨Nat.zero_le _, Nat.zero_le _⟩ hP hD hS rfl hl.1 rfl (Nat.le_of_ble_eq_true rfl) dX7_thousandths_2 (fun r_2 u_2 H locs h hP hD hS => ?_)
  refine lv_ldcf hx hb S.2.2.2.1 (S.2.2.2.2 _ q_9_11) dX7_thousandths_5 ?_
  refine lv_fmul hx hb dX7_thousandths_7 h.1 ?_
  have h := h.2
  refine lv_f2i hx hb dX7_thousandths_8 ?_
  exact W.iret (v := (FP.f2i (FP.fmul r_2 (1148846080 : UInt32)))) hx hb hr (fun t ht hW => ⟨⟨(FP.f2i (FP.fmul r_2 (1148846080 : UInt32))), (), rfl, h, ⟨hp_at ht hP, hD⟩⟩, hS.F ht⟩) hS.2.2 dX7_thousandths_9
def vX7_limit (mn : Nat → Int32) (p1 : Int32) (K : Int32 → Unit → Prop) : Prop :=
  vX7_isIn p1 (0 : Int32) (100000 : Int32) (fun r_4 u_4 => (r_4 = (0 : Int32) → K (-2 : Int32) ()) ∧ (¬ r_4 = (0 : Int32) → vX7_metres p1 (fun r_12 u_12 => vX7_limitAt mn r_12 (fun r_15 u_15 => vX7_bitsOf r_15 (fun r_18 u_18 => K r_18 ())))))
set_option maxRecDepth 100000 in
set_option maxHeartbeats 4000000 in
theorem ctX7_limit (l : Launch) (G : va_G) (cy : Nat → ClassId) (a : Nat → Nat) (mn : Nat → Int32) (mf : Nat → UInt32) (mk : Nat → Int32) (mg : Nat → UInt32) (mv : Nat → Int32) (mt : Nat → Int32) (mm : Nat → Int32) (p1 : Int32) (K : Int32 → Unit → Prop) (h : vX7_limit mn p1 K) : Met l yX7_limit (ws_ yX7_limit cX7_limit 2 (some .int)) ({ frames := 3, cells := 0, slots := 0, locals := 68 } : Room) (CP G cy [.ref (a 0), .int p1] (md_W cy a mn mf mk mg mv mt mm)) (RI G K (fun u => md_W cy a mn mf mk mg mv mt mm) (A1 (md_W cy a mn mf mk mg mv mt mm))) 0 0 (A1 (md_W cy a mn mf mk mg mv mt mm)) := by
  refine hd_go (Qf := fun A => (RI G K (fun u => md_W cy a mn mf mk mg mv mt mm) A)) (by decide +kernel) (Nat.le_of_ble_eq_true rfl) ?_
  intro p e s m below meth c ls A hx hb hr hlocks S hE hP hD hS hl
  have hl : lv_has ls 2 [(0, .ref (a 0)), (1, .int p1)] := hl
  unfold vX7_limit at h
  refine lv_iload_n hx hb dX7_limit_0 rfl (lv_at hl 1 rfl) ?_
  refine lv_iconst (v := (0 : Int32)) hx hb dX7_limit_1 (by decide) ?_
  refine lv_ldc hx hb S.2.2.2.1 (S.2.2.2.2 _ q_8_15) dX7_limit_2 ?_
  refine kc_SiE (As := [.int p1, .int (0 : Int32), .int (100000 : Int32)]) (rest := []) S hE (ctX7_isIn l G cy   p1 (0 : Int32) (100000 : Int32) _ h) q_8_17 q_8_18 q_1_5 q_8_19 ydX7_isIn ⟨⟨rfl, rfl⟩, ⟨Nat.le_of_ble_eq_true rfl, Nat.le_of_ble_eq_true rfl⟩⟩ ⟨Nat.zero_le _, Nat.zero_le _⟩ hP hD hS (fun _ => rfl) rfl hl.1 rfl (Nat.le_of_ble_eq_true rfl) dX7_limit_4 (fun r_4 u_4 H locs h hP hD hS => ?_)
  refine lv_if_eq (tgt := 24) hx hb dX7_limit_7 (by decide) (fun c_7 => ?_) (fun c_7 => ?_)
  · have h := h.1 c_7
    refine lv_bipush (v := (-2 : Int32)) hx hb dX7_limit_24 (by decide) ?_
    exact W.iret (v := (-2 : Int32)) hx hb hr (fun t ht hW => ⟨⟨(-2 : Int32), (), rfl, h, ⟨hp_at ht hP, hD⟩⟩, hS.F ht⟩) hS.2.2 dX7_limit_26
  · have h := h.2 c_7
    refine lv_aload_n hx hb dX7_limit_10 rfl (lv_at hl 0 rfl) ?_
    refine lv_iload_n hx hb dX7_limit_11 rfl (lv_at hl 1 rfl) ?_
    refine kc_SfE (As := [.int p1]) (rest := [.ref (a 0)]) S hE (ctX7_metres l G cy   p1 _ h) q_9_5 q_9_6 q_1_5 q_9_7 ydX7_metres ⟨⟨rfl, rfl⟩, ⟨Nat.le_of_ble_eq_true rfl, Nat.le_of_ble_eq_true rfl⟩⟩ ⟨Nat.zero_le _, Nat.zero_le _⟩ hP hD hS (fun _ => rfl) rfl hl.1 rfl (Nat.le_of_ble_eq_true rfl) dX7_limit_12 (fun r_12 u_12 H locs h hP hD hS => ?_)
    refine kc_Vf0 (As := [.float r_12]) (rest := []) S hE (ctX7_limitAt l G cy a mn mf mk mg mv mt mm r_12 _ h) q_10_4 q_10_5 q_10_6 q_1_5 q_10_7 rfl 0 rfl rfl ydX7_limitAt ⟨⟨rfl, rfl⟩, ⟨Nat.le_of_ble_eq_true rfl, Nat.le_of_ble_eq_true rfl⟩⟩ ⟨Nat.zero_le _, Nat.zero_le _⟩ hP hD hS rfl hl.1 rfl (Nat.le_of_ble_eq_true rfl) dX7_limit_15 (fun r_15 u_15 H locs h hP hD hS => ?_)
    refine kc_SiE (As := [.float r_15]) (rest := []) S hE (ctX7_bitsOf l G cy   r_15 _ h) q_29_21 q_29_22 q_1_5 q_29_23 ydX7_bitsOf ⟨⟨rfl, rfl⟩, ⟨Nat.le_of_ble_eq_true rfl, Nat.le_of_ble_eq_true rfl⟩⟩ ⟨Nat.zero_le _, Nat.zero_le _⟩ hP hD hS (fun _ => rfl) rfl hl.1 rfl (Nat.le_of_ble_eq_true rfl) dX7_limit_18 (fun r_18 u_18 H locs h hP hD hS => ?_)
    refine lv_goto (tgt := 26) hx hb dX7_limit_21 (by decide) ?_
    exact W.iret (v := r_18) hx hb hr (fun t ht hW => ⟨⟨r_18, (), rfl, h, ⟨hp_at ht hP, hD⟩⟩, hS.F ht⟩) hS.2.2 dX7_limit_26
def vX7_judgement (mn : Nat → Int32) (mf : Nat → UInt32) (K : Int32 → Unit → Prop) : Prop :=
  vX7_judged mn mf (fun r_1 u_1 => K r_1 ())
set_option maxRecDepth 100000 in
set_option maxHeartbeats 4000000 in
theorem ctX7_judgement (l : Launch) (G : va_G) (cy : Nat → ClassId) (a : Nat → Nat) (mn : Nat → Int32) (mf : Nat → UInt32) (mk : Nat → Int32) (mg : Nat → UInt32) (mv : Nat → Int32) (mt : Nat → Int32) (mm : Nat → Int32)  (K : Int32 → Unit → Prop) (h : vX7_judgement mn mf K) : Met l yX7_judgement (ws_ yX7_judgement cX7_judgement 1 (some .int)) ({ frames := 5, cells := 0, slots := 0, locals := 109 } : Room) (CP G cy [.ref (a 0)] (md_W cy a mn mf mk mg mv mt mm)) (RI G K (fun u => md_W cy a mn mf mk mg mv mt mm) (A1 (md_W cy a mn mf mk mg mv mt mm))) 0 0 (A1 (md_W cy a mn mf mk mg mv mt mm)) := by
  refine hd_go (Qf := fun A => (RI G K (fun u => md_W cy a mn mf mk mg mv mt mm) A)) (by decide +kernel) (Nat.le_of_ble_eq_true rfl) ?_
  intro p e s m below meth c ls A hx hb hr hlocks S hE hP hD hS hl
  have hl : lv_has ls 1 [(0, .ref (a 0))] := hl
  unfold vX7_judgement at h
  refine lv_aload_n hx hb dX7_judgement_0 rfl (lv_at hl 0 rfl) ?_
  refine kc_Vi0 (As := []) (rest := []) S hE (ctX7_judged l G cy a mn mf mk mg mv mt mm  _ h) q_9_12 q_9_13 q_9_14 q_1_5 q_9_15 rfl 0 rfl rfl ydX7_judged ⟨⟨rfl, rfl⟩, ⟨Nat.le_of_ble_eq_true rfl, Nat.le_of_ble_eq_true rfl⟩⟩ ⟨Nat.zero_le _, Nat.zero_le _⟩ hP hD hS rfl hl.1 rfl (Nat.le_of_ble_eq_true rfl) dX7_judgement_1 (fun r_1 u_1 H locs h hP hD hS => ?_)
  exact W.iret (v := r_1) hx hb hr (fun t ht hW => ⟨⟨r_1, (), rfl, h, ⟨hp_at ht hP, hD⟩⟩, hS.F ht⟩) hS.2.2 dX7_judgement_4
def vX7_stop_48 (mn : Nat → Int32) (x1 : Int32) (x2 : Int32) (K : Int32 → Unit → Prop)  : Prop :=
  vp_in (((32 : Int32) + ((2 : Int32) * x1)) + x2) 40 ∧ K (mn (Int32.toNatClampNeg (((32 : Int32) + ((2 : Int32) * x1)) + x2))) ()
def vX7_stop (mn : Nat → Int32) (p1 : Int32) (p2 : Int32) (K : Int32 → Unit → Prop) : Prop :=
  vX7_isIn p1 (0 : Int32) ((mn 11) - (1 : Int32)) (fun r_11 u_11 => (¬ r_11 = (0 : Int32) → (p2 = (0 : Int32) → vX7_stop_48 mn p1 p2 K ) ∧ (¬ p2 = (0 : Int32) → (p2 = (1 : Int32) → vX7_stop_48 mn p1 p2 K ) ∧ (¬ p2 = (1 : Int32) → (p2 = (2 : Int32) → (¬ (mn 5) = p1 → K (0 : Int32) ()) ∧ ((mn 5) = p1 → K (1 : Int32) ())) ∧ (¬ p2 = (2 : Int32) → K (-2 : Int32) ())))) ∧ (r_11 = (0 : Int32) → K (-1 : Int32) ()))
set_option maxRecDepth 100000 in
set_option maxHeartbeats 4000000 in
theorem ctX7_stop (l : Launch) (G : va_G) (cy : Nat → ClassId) (a : Nat → Nat) (mn : Nat → Int32) (mf : Nat → UInt32) (mk : Nat → Int32) (mg : Nat → UInt32) (mv : Nat → Int32) (mt : Nat → Int32) (mm : Nat → Int32) (p1 : Int32) (p2 : Int32) (K : Int32 → Unit → Prop) (h : vX7_stop mn p1 p2 K) : Met l yX7_stop (ws_ yX7_stop cX7_stop 3 (some .int)) ({ frames := 1, cells := 0, slots := 0, locals := 22 } : Room) (CP G cy [.ref (a 0), .int p1, .int p2] (md_W cy a mn mf mk mg mv mt mm)) (RI G K (fun u => md_W cy a mn mf mk mg mv mt mm) (A1 (md_W cy a mn mf mk mg mv mt mm))) 0 0 (A1 (md_W cy a mn mf mk mg mv mt mm)) := by
  refine hd_go (Qf := fun A => (RI G K (fun u => md_W cy a mn mf mk mg mv mt mm) A)) (by decide +kernel) (Nat.le_of_ble_eq_true rfl) ?_
  intro p e s m below meth c ls A hx hb hr hlocks S hE hP hD hS hl
  have hl : lv_has ls 3 [(0, .ref (a 0)), (1, .int p1), (2, .int p2)] := hl
  unfold vX7_stop at h
  have J_48 : ∀ (mn : Nat → Int32) (x1 : Int32) (x2 : Int32), vX7_stop_48 mn x1 x2 K  → ∀ (H : Heap) (locs : List Loc) (ls : Array Slot), va_P G vwCl (md_W cy a mn mf mk mg mv mt mm) H → va_D A (md_W cy a mn mf mk mg mv mt mm) → va_S A s.heap H locs → lv_has ls 3 [(0, .ref (a 0)), (1, .int x1), (2, .int x2)] → W p l e (headSpec (ws_ yX7_stop cX7_stop 3 (some .int)) ({ frames := 1, cells := 0, slots := 0, locals := 22 } : Room)).room s m ([.ref (a 0), .int p1, .int p2] : List Value).toArray below meth c H locs 0 0 (MQ below (RI G K (fun u => md_W cy a mn mf mk mg mv mt mm) A) ([.ref (a 0), .int p1, .int p2] : List Value).toArray s 0 0 A) (F0 m 48 ls []) := by
    intro mn x1 x2 h H locs ls hP hD hS hl
    unfold vX7_stop_48 at h
    refine lv_aload_n hx hb dX7_stop_48 rfl (lv_at hl 0 rfl) ?_
    refine kg (v := .ref (a 1)) S hE hP 0 rfl rfl 0 (by decide) q_4_13 rfl rfl inlX7 dX7_stop_49 ?_
    refine lv_bipush (v := (32 : Int32)) hx hb dX7_stop_52 (by decide) ?_
    refine lv_iconst (v := (2 : Int32)) hx hb dX7_stop_54 (by decide) ?_
    refine lv_iload_n hx hb dX7_stop_55 rfl (lv_at hl 1 rfl) ?_
    refine lv_imul hx hb dX7_stop_56 ?_
    refine lv_iadd hx hb dX7_stop_57 ?_
    refine lv_iload_n hx hb dX7_stop_58 rfl (lv_at hl 2 rfl) ?_
    refine lv_iadd hx hb dX7_stop_59 ?_
    refine kail (v := (mn (Int32.toNatClampNeg (((32 : Int32) + ((2 : Int32) * x1)) + x2)))) S hE hP 1 rfl h.1 rfl rfl dX7_stop_60 ?_
    have h := h.2
    exact W.iret (v := (mn (Int32.toNatClampNeg (((32 : Int32) + ((2 : Int32) * x1)) + x2)))) hx hb hr (fun t ht hW => ⟨⟨(mn (Int32.toNatClampNeg (((32 : Int32) + ((2 : Int32) * x1)) + x2))), (), rfl, h, ⟨hp_at ht hP, hD⟩⟩, hS.F ht⟩) hS.2.2 dX7_stop_61
  refine lv_iload_n hx hb dX7_stop_0 rfl (lv_at hl 1 rfl) ?_
  refine lv_iconst (v := (0 : Int32)) hx hb dX7_stop_1 (by decide) ?_
  refine lv_aload_n hx hb dX7_stop_2 rfl (lv_at hl 0 rfl) ?_
  refine kg (v := .ref (a 1)) S hE hP 0 rfl rfl 0 (by decide) q_4_13 rfl rfl inlX7 dX7_stop_3 ?_
  refine lv_bipush (v := (11 : Int32)) hx hb dX7_stop_6 (by decide) ?_
  refine kail (v := (mn 11)) S hE hP 1 rfl (vi_11 (by decide)) tc_11 rfl dX7_stop_8 ?_
  refine lv_iconst (v := (1 : Int32)) hx hb dX7_stop_9 (by decide) ?_
  refine lv_isub hx hb dX7_stop_10 ?_
  refine kc_SiE (As := [.int p1, .int (0 : Int32), .int ((mn 11) - (1 : Int32))]) (rest := []) S hE (ctX7_isIn l G cy   p1 (0 : Int32) ((mn 11) - (1 : Int32)) _ h) q_8_17 q_8_18 q_1_5 q_8_19 ydX7_isIn ⟨⟨rfl, rfl⟩, ⟨Nat.le_of_ble_eq_true rfl, Nat.le_of_ble_eq_true rfl⟩⟩ ⟨Nat.zero_le _, Nat.zero_le _⟩ hP hD hS (fun _ => rfl) rfl hl.1 rfl (Nat.le_of_ble_eq_true rfl) dX7_stop_11 (fun r_11 u_11 H locs h hP hD hS => ?_)
  refine lv_if_ne (tgt := 19) hx hb dX7_stop_14 (by decide) (fun c_14 => ?_) (fun c_14 => ?_)
  · have h := h.1 c_14
    refine lv_iload_n hx hb dX7_stop_19 rfl (lv_at hl 2 rfl) ?_
    rcases Classical.em (p2 = (0 : Int32)) with c_20_0 | c_20_0
    · have h := h.1 c_20_0
      refine lv_tableIn (tgt := 48) hx hb dX7_stop_20 (by rw [c_20_0]; decide) (by rw [c_20_0]; decide) (by rw [c_20_0]; try rfl) (by decide) ?_
      exact J_48 _ _ _ h _ _ _ hP hD hS (lv_sub hl [0, 1, 2] rfl)
    · have h := h.2 c_20_0
      rcases Classical.em (p2 = (1 : Int32)) with c_20_1 | c_20_1
      · have h := h.1 c_20_1
        refine lv_tableIn (tgt := 48) hx hb dX7_stop_20 (by rw [c_20_1]; decide) (by rw [c_20_1]; decide) (by rw [c_20_1]; try rfl) (by decide) ?_
        exact J_48 _ _ _ h _ _ _ hP hD hS (lv_sub hl [0, 1, 2] rfl)
      · have h := h.2 c_20_1
        rcases Classical.em (p2 = (2 : Int32)) with c_20_2 | c_20_2
        · have h := h.1 c_20_2
          refine lv_tableIn (tgt := 62) hx hb dX7_stop_20 (by rw [c_20_2]; decide) (by rw [c_20_2]; decide) (by rw [c_20_2]; try rfl) (by decide) ?_
          refine lv_aload_n hx hb dX7_stop_62 rfl (lv_at hl 0 rfl) ?_
          refine kg (v := .ref (a 1)) S hE hP 0 rfl rfl 0 (by decide) q_4_13 rfl rfl inlX7 dX7_stop_63 ?_
          refine lv_iconst (v := (5 : Int32)) hx hb dX7_stop_66 (by decide) ?_
          refine kail (v := (mn 5)) S hE hP 1 rfl (vi_5 (by decide)) tc_5 rfl dX7_stop_67 ?_
          refine lv_iload_n hx hb dX7_stop_68 rfl (lv_at hl 1 rfl) ?_
          refine lv_icmp_ne (tgt := 76) hx hb dX7_stop_69 (by decide) (fun c_69 => ?_) (fun c_69 => ?_)
          · have h := h.1 c_69
            refine lv_iconst (v := (0 : Int32)) hx hb dX7_stop_76 (by decide) ?_
            exact W.iret (v := (0 : Int32)) hx hb hr (fun t ht hW => ⟨⟨(0 : Int32), (), rfl, h, ⟨hp_at ht hP, hD⟩⟩, hS.F ht⟩) hS.2.2 dX7_stop_77
          · have h := h.2 c_69
            refine lv_iconst (v := (1 : Int32)) hx hb dX7_stop_72 (by decide) ?_
            refine lv_goto (tgt := 77) hx hb dX7_stop_73 (by decide) ?_
            exact W.iret (v := (1 : Int32)) hx hb hr (fun t ht hW => ⟨⟨(1 : Int32), (), rfl, h, ⟨hp_at ht hP, hD⟩⟩, hS.F ht⟩) hS.2.2 dX7_stop_77
        · have h := h.2 c_20_2
          have n_0 := lv_neT c_20_0 (a := 0) (by decide)
          have n_1 := lv_neT c_20_1 (a := 1) (by decide)
          have n_2 := lv_neT c_20_2 (a := 2) (by decide)
          refine lv_tableOut (tgt := 78) hx hb dX7_stop_20 (by omega) (by decide) ?_
          refine lv_bipush (v := (-2 : Int32)) hx hb dX7_stop_78 (by decide) ?_
          exact W.iret (v := (-2 : Int32)) hx hb hr (fun t ht hW => ⟨⟨(-2 : Int32), (), rfl, h, ⟨hp_at ht hP, hD⟩⟩, hS.F ht⟩) hS.2.2 dX7_stop_80
  · have h := h.2 c_14
    refine lv_iconst (v := (-1 : Int32)) hx hb dX7_stop_17 (by decide) ?_
    exact W.iret (v := (-1 : Int32)) hx hb hr (fun t ht hW => ⟨⟨(-1 : Int32), (), rfl, h, ⟨hp_at ht hP, hD⟩⟩, hS.F ht⟩) hS.2.2 dX7_stop_18
def vX7_point (mn : Nat → Int32) (p1 : Int32) (p2 : Int32) (K : Int32 → Unit → Prop) : Prop :=
  vX7_isIn p1 (0 : Int32) ((mn 10) - (1 : Int32)) (fun r_11 u_11 => (¬ r_11 = (0 : Int32) → vX7_isIn p2 (0 : Int32) (1 : Int32) (fun r_22 u_22 => (r_22 = (0 : Int32) → K (-2 : Int32) ()) ∧ (¬ r_22 = (0 : Int32) → vp_in (((20 : Int32) + ((2 : Int32) * p1)) + p2) 40 ∧ K (mn (Int32.toNatClampNeg (((20 : Int32) + ((2 : Int32) * p1)) + p2))) ()))) ∧ (r_11 = (0 : Int32) → K (-1 : Int32) ()))
set_option maxRecDepth 100000 in
set_option maxHeartbeats 4000000 in
theorem ctX7_point (l : Launch) (G : va_G) (cy : Nat → ClassId) (a : Nat → Nat) (mn : Nat → Int32) (mf : Nat → UInt32) (mk : Nat → Int32) (mg : Nat → UInt32) (mv : Nat → Int32) (mt : Nat → Int32) (mm : Nat → Int32) (p1 : Int32) (p2 : Int32) (K : Int32 → Unit → Prop) (h : vX7_point mn p1 p2 K) : Met l yX7_point (ws_ yX7_point cX7_point 3 (some .int)) ({ frames := 1, cells := 0, slots := 0, locals := 22 } : Room) (CP G cy [.ref (a 0), .int p1, .int p2] (md_W cy a mn mf mk mg mv mt mm)) (RI G K (fun u => md_W cy a mn mf mk mg mv mt mm) (A1 (md_W cy a mn mf mk mg mv mt mm))) 0 0 (A1 (md_W cy a mn mf mk mg mv mt mm)) := by
  refine hd_go (Qf := fun A => (RI G K (fun u => md_W cy a mn mf mk mg mv mt mm) A)) (by decide +kernel) (Nat.le_of_ble_eq_true rfl) ?_
  intro p e s m below meth c ls A hx hb hr hlocks S hE hP hD hS hl
  have hl : lv_has ls 3 [(0, .ref (a 0)), (1, .int p1), (2, .int p2)] := hl
  unfold vX7_point at h
  refine lv_iload_n hx hb dX7_point_0 rfl (lv_at hl 1 rfl) ?_
  refine lv_iconst (v := (0 : Int32)) hx hb dX7_point_1 (by decide) ?_
  refine lv_aload_n hx hb dX7_point_2 rfl (lv_at hl 0 rfl) ?_
  refine kg (v := .ref (a 1)) S hE hP 0 rfl rfl 0 (by decide) q_4_13 rfl rfl inlX7 dX7_point_3 ?_
  refine lv_bipush (v := (10 : Int32)) hx hb dX7_point_6 (by decide) ?_
  refine kail (v := (mn 10)) S hE hP 1 rfl (vi_10 (by decide)) tc_10 rfl dX7_point_8 ?_
  refine lv_iconst (v := (1 : Int32)) hx hb dX7_point_9 (by decide) ?_
  refine lv_isub hx hb dX7_point_10 ?_
  refine kc_SiE (As := [.int p1, .int (0 : Int32), .int ((mn 10) - (1 : Int32))]) (rest := []) S hE (ctX7_isIn l G cy   p1 (0 : Int32) ((mn 10) - (1 : Int32)) _ h) q_8_17 q_8_18 q_1_5 q_8_19 ydX7_isIn ⟨⟨rfl, rfl⟩, ⟨Nat.le_of_ble_eq_true rfl, Nat.le_of_ble_eq_true rfl⟩⟩ ⟨Nat.zero_le _, Nat.zero_le _⟩ hP hD hS (fun _ => rfl) rfl hl.1 rfl (Nat.le_of_ble_eq_true rfl) dX7_point_11 (fun r_11 u_11 H locs h hP hD hS => ?_)
  refine lv_if_ne (tgt := 19) hx hb dX7_point_14 (by decide) (fun c_14 => ?_) (fun c_14 => ?_)
  · have h := h.1 c_14
    refine lv_iload_n hx hb dX7_point_19 rfl (lv_at hl 2 rfl) ?_
    refine lv_iconst (v := (0 : Int32)) hx hb dX7_point_20 (by decide) ?_
    refine lv_iconst (v := (1 : Int32)) hx hb dX7_point_21 (by decide) ?_
    refine kc_SiE (As := [.int p2, .int (0 : Int32), .int (1 : Int32)]) (rest := []) S hE (ctX7_isIn l G cy   p2 (0 : Int32) (1 : Int32) _ h) q_8_17 q_8_18 q_1_5 q_8_19 ydX7_isIn ⟨⟨rfl, rfl⟩, ⟨Nat.le_of_ble_eq_true rfl, Nat.le_of_ble_eq_true rfl⟩⟩ ⟨Nat.zero_le _, Nat.zero_le _⟩ hP hD hS (fun _ => rfl) rfl hl.1 rfl (Nat.le_of_ble_eq_true rfl) dX7_point_22 (fun r_22 u_22 H locs h hP hD hS => ?_)
    refine lv_if_eq (tgt := 44) hx hb dX7_point_25 (by decide) (fun c_25 => ?_) (fun c_25 => ?_)
    · have h := h.1 c_25
      refine lv_bipush (v := (-2 : Int32)) hx hb dX7_point_44 (by decide) ?_
      exact W.iret (v := (-2 : Int32)) hx hb hr (fun t ht hW => ⟨⟨(-2 : Int32), (), rfl, h, ⟨hp_at ht hP, hD⟩⟩, hS.F ht⟩) hS.2.2 dX7_point_46
    · have h := h.2 c_25
      refine lv_aload_n hx hb dX7_point_28 rfl (lv_at hl 0 rfl) ?_
      refine kg (v := .ref (a 1)) S hE hP 0 rfl rfl 0 (by decide) q_4_13 rfl rfl inlX7 dX7_point_29 ?_
      refine lv_bipush (v := (20 : Int32)) hx hb dX7_point_32 (by decide) ?_
      refine lv_iconst (v := (2 : Int32)) hx hb dX7_point_34 (by decide) ?_
      refine lv_iload_n hx hb dX7_point_35 rfl (lv_at hl 1 rfl) ?_
      refine lv_imul hx hb dX7_point_36 ?_
      refine lv_iadd hx hb dX7_point_37 ?_
      refine lv_iload_n hx hb dX7_point_38 rfl (lv_at hl 2 rfl) ?_
      refine lv_iadd hx hb dX7_point_39 ?_
      refine kail (v := (mn (Int32.toNatClampNeg (((20 : Int32) + ((2 : Int32) * p1)) + p2)))) S hE hP 1 rfl h.1 rfl rfl dX7_point_40 ?_
      have h := h.2
      refine lv_goto (tgt := 46) hx hb dX7_point_41 (by decide) ?_
      exact W.iret (v := (mn (Int32.toNatClampNeg (((20 : Int32) + ((2 : Int32) * p1)) + p2)))) hx hb hr (fun t ht hW => ⟨⟨(mn (Int32.toNatClampNeg (((20 : Int32) + ((2 : Int32) * p1)) + p2))), (), rfl, h, ⟨hp_at ht hP, hD⟩⟩, hS.F ht⟩) hS.2.2 dX7_point_46
  · have h := h.2 c_14
    refine lv_iconst (v := (-1 : Int32)) hx hb dX7_point_17 (by decide) ?_
    exact W.iret (v := (-1 : Int32)) hx hb hr (fun t ht hW => ⟨⟨(-1 : Int32), (), rfl, h, ⟨hp_at ht hP, hD⟩⟩, hS.F ht⟩) hS.2.2 dX7_point_18
def vX7_total_92 (mn : Nat → Int32) (mf : Nat → UInt32) (mm : Nat → Int32) (x1 : Int32) (K : Int32 → Unit → Prop)  : Prop :=
  vp_in x1 40 ∧ K (mn (Int32.toNatClampNeg x1)) ()
def vX7_total_104 (mn : Nat → Int32) (mf : Nat → UInt32) (mm : Nat → Int32) (x1 : Int32) (K : Int32 → Unit → Prop)  : Prop :=
  vp_in (x1 + (4 : Int32)) 40 ∧ K (mn (Int32.toNatClampNeg (x1 + (4 : Int32)))) ()
def vX7_total_128 (mn : Nat → Int32) (mf : Nat → UInt32) (mm : Nat → Int32) (x1 : Int32) (K : Int32 → Unit → Prop)  : Prop :=
  vp_in (x1 - (3 : Int32)) 40 ∧ K (mn (Int32.toNatClampNeg (x1 - (3 : Int32)))) ()
def vX7_total (mn : Nat → Int32) (mf : Nat → UInt32) (mm : Nat → Int32) (p1 : Int32) (K : Int32 → Unit → Prop) : Prop :=
  vX7_isIn p1 (13 : Int32) (20 : Int32) (fun r_5 u_5 => (r_5 = (0 : Int32) → (p1 = (0 : Int32) → vX7_total_92 mn mf mm p1 K ) ∧ (¬ p1 = (0 : Int32) → (p1 = (1 : Int32) → vX7_total_92 mn mf mm p1 K ) ∧ (¬ p1 = (1 : Int32) → (p1 = (2 : Int32) → vX7_total_92 mn mf mm p1 K ) ∧ (¬ p1 = (2 : Int32) → (p1 = (3 : Int32) → vX7_total_92 mn mf mm p1 K ) ∧ (¬ p1 = (3 : Int32) → (p1 = (4 : Int32) → vX7_total_92 mn mf mm p1 K ) ∧ (¬ p1 = (4 : Int32) → (p1 = (5 : Int32) → vX7_nextStop mn mf (fun r_100 u_100 => K r_100 ())) ∧ (¬ p1 = (5 : Int32) → (p1 = (6 : Int32) → vX7_total_104 mn mf mm p1 K ) ∧ (¬ p1 = (6 : Int32) → (p1 = (7 : Int32) → vX7_total_104 mn mf mm p1 K ) ∧ (¬ p1 = (7 : Int32) → (p1 = (8 : Int32) → vX7_closed mn (fun r_114 u_114 => K r_114 ())) ∧ (¬ p1 = (8 : Int32) → (p1 = (9 : Int32) → K (mm 0) ()) ∧ (¬ p1 = (9 : Int32) → (p1 = (10 : Int32) → K (mm 1) ()) ∧ (¬ p1 = (10 : Int32) → (p1 = (11 : Int32) → vX7_total_128 mn mf mm p1 K ) ∧ (¬ p1 = (11 : Int32) → (p1 = (12 : Int32) → vX7_total_128 mn mf mm p1 K ) ∧ (¬ p1 = (12 : Int32) → K (-2 : Int32) ())))))))))))))) ∧ (¬ r_5 = (0 : Int32) → vp_in (((12 : Int32) + p1) - (13 : Int32)) 40 ∧ K (mn (Int32.toNatClampNeg (((12 : Int32) + p1) - (13 : Int32)))) ()))
set_option maxRecDepth 100000 in
set_option maxHeartbeats 4000000 in
theorem ctX7_total (l : Launch) (G : va_G) (cy : Nat → ClassId) (a : Nat → Nat) (mn : Nat → Int32) (mf : Nat → UInt32) (mk : Nat → Int32) (mg : Nat → UInt32) (mv : Nat → Int32) (mt : Nat → Int32) (mm : Nat → Int32) (p1 : Int32) (K : Int32 → Unit → Prop) (h : vX7_total mn mf mm p1 K) : Met l yX7_total (ws_ yX7_total cX7_total 2 (some .int)) ({ frames := 3, cells := 0, slots := 0, locals := 64 } : Room) (CP G cy [.ref (a 0), .int p1] (md_W cy a mn mf mk mg mv mt mm)) (RI G K (fun u => md_W cy a mn mf mk mg mv mt mm) (A1 (md_W cy a mn mf mk mg mv mt mm))) 0 0 (A1 (md_W cy a mn mf mk mg mv mt mm)) := by
  refine hd_go (Qf := fun A => (RI G K (fun u => md_W cy a mn mf mk mg mv mt mm) A)) (by decide +kernel) (Nat.le_of_ble_eq_true rfl) ?_
  intro p e s m below meth c ls A hx hb hr hlocks S hE hP hD hS hl
  have hl : lv_has ls 2 [(0, .ref (a 0)), (1, .int p1)] := hl
  unfold vX7_total at h
  have J_92 : ∀ (mn : Nat → Int32) (mf : Nat → UInt32) (mm : Nat → Int32) (x1 : Int32), vX7_total_92 mn mf mm x1 K  → ∀ (H : Heap) (locs : List Loc) (ls : Array Slot), va_P G vwCl (md_W cy a mn mf mk mg mv mt mm) H → va_D A (md_W cy a mn mf mk mg mv mt mm) → va_S A s.heap H locs → lv_has ls 2 [(0, .ref (a 0)), (1, .int x1)] → W p l e (headSpec (ws_ yX7_total cX7_total 2 (some .int)) ({ frames := 3, cells := 0, slots := 0, locals := 64 } : Room)).room s m ([.ref (a 0), .int p1] : List Value).toArray below meth c H locs 0 0 (MQ below (RI G K (fun u => md_W cy a mn mf mk mg mv mt mm) A) ([.ref (a 0), .int p1] : List Value).toArray s 0 0 A) (F0 m 92 ls []) := by
    intro mn mf mm x1 h H locs ls hP hD hS hl
    unfold vX7_total_92 at h
    refine lv_aload_n hx hb dX7_total_92 rfl (lv_at hl 0 rfl) ?_
    refine kg (v := .ref (a 1)) S hE hP 0 rfl rfl 0 (by decide) q_4_13 rfl rfl inlX7 dX7_total_93 ?_
    refine lv_iload_n hx hb dX7_total_96 rfl (lv_at hl 1 rfl) ?_
    refine kail (v := (mn (Int32.toNatClampNeg x1))) S hE hP 1 rfl h.1 rfl rfl dX7_total_97 ?_
    have h := h.2
    exact W.iret (v := (mn (Int32.toNatClampNeg x1))) hx hb hr (fun t ht hW => ⟨⟨(mn (Int32.toNatClampNeg x1)), (), rfl, h, ⟨hp_at ht hP, hD⟩⟩, hS.F ht⟩) hS.2.2 dX7_total_98
  have J_104 : ∀ (mn : Nat → Int32) (mf : Nat → UInt32) (mm : Nat → Int32) (x1 : Int32), vX7_total_104 mn mf mm x1 K  → ∀ (H : Heap) (locs : List Loc) (ls : Array Slot), va_P G vwCl (md_W cy a mn mf mk mg mv mt mm) H → va_D A (md_W cy a mn mf mk mg mv mt mm) → va_S A s.heap H locs → lv_has ls 2 [(0, .ref (a 0)), (1, .int x1)] → W p l e (headSpec (ws_ yX7_total cX7_total 2 (some .int)) ({ frames := 3, cells := 0, slots := 0, locals := 64 } : Room)).room s m ([.ref (a 0), .int p1] : List Value).toArray below meth c H locs 0 0 (MQ below (RI G K (fun u => md_W cy a mn mf mk mg mv mt mm) A) ([.ref (a 0), .int p1] : List Value).toArray s 0 0 A) (F0 m 104 ls []) := by
    intro mn mf mm x1 h H locs ls hP hD hS hl
    unfold vX7_total_104 at h
    refine lv_aload_n hx hb dX7_total_104 rfl (lv_at hl 0 rfl) ?_
    refine kg (v := .ref (a 1)) S hE hP 0 rfl rfl 0 (by decide) q_4_13 rfl rfl inlX7 dX7_total_105 ?_
    refine lv_iload_n hx hb dX7_total_108 rfl (lv_at hl 1 rfl) ?_
    refine lv_iconst (v := (4 : Int32)) hx hb dX7_total_109 (by decide) ?_
    refine lv_iadd hx hb dX7_total_110 ?_
    refine kail (v := (mn (Int32.toNatClampNeg (x1 + (4 : Int32))))) S hE hP 1 rfl h.1 rfl rfl dX7_total_111 ?_
    have h := h.2
    exact W.iret (v := (mn (Int32.toNatClampNeg (x1 + (4 : Int32))))) hx hb hr (fun t ht hW => ⟨⟨(mn (Int32.toNatClampNeg (x1 + (4 : Int32)))), (), rfl, h, ⟨hp_at ht hP, hD⟩⟩, hS.F ht⟩) hS.2.2 dX7_total_112
  have J_128 : ∀ (mn : Nat → Int32) (mf : Nat → UInt32) (mm : Nat → Int32) (x1 : Int32), vX7_total_128 mn mf mm x1 K  → ∀ (H : Heap) (locs : List Loc) (ls : Array Slot), va_P G vwCl (md_W cy a mn mf mk mg mv mt mm) H → va_D A (md_W cy a mn mf mk mg mv mt mm) → va_S A s.heap H locs → lv_has ls 2 [(0, .ref (a 0)), (1, .int x1)] → W p l e (headSpec (ws_ yX7_total cX7_total 2 (some .int)) ({ frames := 3, cells := 0, slots := 0, locals := 64 } : Room)).room s m ([.ref (a 0), .int p1] : List Value).toArray below meth c H locs 0 0 (MQ below (RI G K (fun u => md_W cy a mn mf mk mg mv mt mm) A) ([.ref (a 0), .int p1] : List Value).toArray s 0 0 A) (F0 m 128 ls []) := by
    intro mn mf mm x1 h H locs ls hP hD hS hl
    unfold vX7_total_128 at h
    refine lv_aload_n hx hb dX7_total_128 rfl (lv_at hl 0 rfl) ?_
    refine kg (v := .ref (a 1)) S hE hP 0 rfl rfl 0 (by decide) q_4_13 rfl rfl inlX7 dX7_total_129 ?_
    refine lv_iload_n hx hb dX7_total_132 rfl (lv_at hl 1 rfl) ?_
    refine lv_iconst (v := (3 : Int32)) hx hb dX7_total_133 (by decide) ?_
    refine lv_isub hx hb dX7_total_134 ?_
    refine kail (v := (mn (Int32.toNatClampNeg (x1 - (3 : Int32))))) S hE hP 1 rfl h.1 rfl rfl dX7_total_135 ?_
    have h := h.2
    exact W.iret (v := (mn (Int32.toNatClampNeg (x1 - (3 : Int32))))) hx hb hr (fun t ht hW => ⟨⟨(mn (Int32.toNatClampNeg (x1 - (3 : Int32)))), (), rfl, h, ⟨hp_at ht hP, hD⟩⟩, hS.F ht⟩) hS.2.2 dX7_total_136
  refine lv_iload_n hx hb dX7_total_0 rfl (lv_at hl 1 rfl) ?_
  refine lv_bipush (v := (13 : Int32)) hx hb dX7_total_1 (by decide) ?_
  refine lv_bipush (v := (20 : Int32)) hx hb dX7_total_3 (by decide) ?_
  refine kc_SiE (As := [.int p1, .int (13 : Int32), .int (20 : Int32)]) (rest := []) S hE (ctX7_isIn l G cy   p1 (13 : Int32) (20 : Int32) _ h) q_8_17 q_8_18 q_1_5 q_8_19 ydX7_isIn ⟨⟨rfl, rfl⟩, ⟨Nat.le_of_ble_eq_true rfl, Nat.le_of_ble_eq_true rfl⟩⟩ ⟨Nat.zero_le _, Nat.zero_le _⟩ hP hD hS (fun _ => rfl) rfl hl.1 rfl (Nat.le_of_ble_eq_true rfl) dX7_total_5 (fun r_5 u_5 H locs h hP hD hS => ?_)
  refine lv_if_eq (tgt := 24) hx hb dX7_total_8 (by decide) (fun c_8 => ?_) (fun c_8 => ?_)
  · have h := h.1 c_8
    refine lv_iload_n hx hb dX7_total_24 rfl (lv_at hl 1 rfl) ?_
    rcases Classical.em (p1 = (0 : Int32)) with c_25_0 | c_25_0
    · have h := h.1 c_25_0
      refine lv_tableIn (tgt := 92) hx hb dX7_total_25 (by rw [c_25_0]; decide) (by rw [c_25_0]; decide) (by rw [c_25_0]; try rfl) (by decide) ?_
      exact J_92 _ _ _ _ h _ _ _ hP hD hS (lv_sub hl [0, 1] rfl)
    · have h := h.2 c_25_0
      rcases Classical.em (p1 = (1 : Int32)) with c_25_1 | c_25_1
      · have h := h.1 c_25_1
        refine lv_tableIn (tgt := 92) hx hb dX7_total_25 (by rw [c_25_1]; decide) (by rw [c_25_1]; decide) (by rw [c_25_1]; try rfl) (by decide) ?_
        exact J_92 _ _ _ _ h _ _ _ hP hD hS (lv_sub hl [0, 1] rfl)
      · have h := h.2 c_25_1
        rcases Classical.em (p1 = (2 : Int32)) with c_25_2 | c_25_2
        · have h := h.1 c_25_2
          refine lv_tableIn (tgt := 92) hx hb dX7_total_25 (by rw [c_25_2]; decide) (by rw [c_25_2]; decide) (by rw [c_25_2]; try rfl) (by decide) ?_
          exact J_92 _ _ _ _ h _ _ _ hP hD hS (lv_sub hl [0, 1] rfl)
        · have h := h.2 c_25_2
          rcases Classical.em (p1 = (3 : Int32)) with c_25_3 | c_25_3
          · have h := h.1 c_25_3
            refine lv_tableIn (tgt := 92) hx hb dX7_total_25 (by rw [c_25_3]; decide) (by rw [c_25_3]; decide) (by rw [c_25_3]; try rfl) (by decide) ?_
            exact J_92 _ _ _ _ h _ _ _ hP hD hS (lv_sub hl [0, 1] rfl)
          · have h := h.2 c_25_3
            rcases Classical.em (p1 = (4 : Int32)) with c_25_4 | c_25_4
            · have h := h.1 c_25_4
              refine lv_tableIn (tgt := 92) hx hb dX7_total_25 (by rw [c_25_4]; decide) (by rw [c_25_4]; decide) (by rw [c_25_4]; try rfl) (by decide) ?_
              exact J_92 _ _ _ _ h _ _ _ hP hD hS (lv_sub hl [0, 1] rfl)
            · have h := h.2 c_25_4
              rcases Classical.em (p1 = (5 : Int32)) with c_25_5 | c_25_5
              · have h := h.1 c_25_5
                refine lv_tableIn (tgt := 99) hx hb dX7_total_25 (by rw [c_25_5]; decide) (by rw [c_25_5]; decide) (by rw [c_25_5]; try rfl) (by decide) ?_
                refine lv_aload_n hx hb dX7_total_99 rfl (lv_at hl 0 rfl) ?_
                refine kc_Vi0 (As := []) (rest := []) S hE (ctX7_nextStop l G cy a mn mf mk mg mv mt mm  _ h) q_22_7 q_22_8 q_22_9 q_1_5 q_22_10 rfl 0 rfl rfl ydX7_nextStop ⟨⟨rfl, rfl⟩, ⟨Nat.le_of_ble_eq_true rfl, Nat.le_of_ble_eq_true rfl⟩⟩ ⟨Nat.zero_le _, Nat.zero_le _⟩ hP hD hS rfl hl.1 rfl (Nat.le_of_ble_eq_true rfl) dX7_total_100 (fun r_100 u_100 H locs h hP hD hS => ?_)
                exact W.iret (v := r_100) hx hb hr (fun t ht hW => ⟨⟨r_100, (), rfl, h, ⟨hp_at ht hP, hD⟩⟩, hS.F ht⟩) hS.2.2 dX7_total_103
              · have h := h.2 c_25_5
                rcases Classical.em (p1 = (6 : Int32)) with c_25_6 | c_25_6
                · have h := h.1 c_25_6
                  refine lv_tableIn (tgt := 104) hx hb dX7_total_25 (by rw [c_25_6]; decide) (by rw [c_25_6]; decide) (by rw [c_25_6]; try rfl) (by decide) ?_
                  exact J_104 _ _ _ _ h _ _ _ hP hD hS (lv_sub hl [0, 1] rfl)
                · have h := h.2 c_25_6
                  rcases Classical.em (p1 = (7 : Int32)) with c_25_7 | c_25_7
                  · have h := h.1 c_25_7
                    refine lv_tableIn (tgt := 104) hx hb dX7_total_25 (by rw [c_25_7]; decide) (by rw [c_25_7]; decide) (by rw [c_25_7]; try rfl) (by decide) ?_
                    exact J_104 _ _ _ _ h _ _ _ hP hD hS (lv_sub hl [0, 1] rfl)
                  · have h := h.2 c_25_7
                    rcases Classical.em (p1 = (8 : Int32)) with c_25_8 | c_25_8
                    · have h := h.1 c_25_8
                      refine lv_tableIn (tgt := 113) hx hb dX7_total_25 (by rw [c_25_8]; decide) (by rw [c_25_8]; decide) (by rw [c_25_8]; try rfl) (by decide) ?_
                      refine lv_aload_n hx hb dX7_total_113 rfl (lv_at hl 0 rfl) ?_
                      refine kc_Vi0 (As := []) (rest := []) S hE (ctX7_closed l G cy a mn mf mk mg mv mt mm  _ h) q_20_13 q_20_14 q_20_15 q_1_5 q_20_16 rfl 0 rfl rfl ydX7_closed ⟨⟨rfl, rfl⟩, ⟨Nat.le_of_ble_eq_true rfl, Nat.le_of_ble_eq_true rfl⟩⟩ ⟨Nat.zero_le _, Nat.zero_le _⟩ hP hD hS rfl hl.1 rfl (Nat.le_of_ble_eq_true rfl) dX7_total_114 (fun r_114 u_114 H locs h hP hD hS => ?_)
                      exact W.iret (v := r_114) hx hb hr (fun t ht hW => ⟨⟨r_114, (), rfl, h, ⟨hp_at ht hP, hD⟩⟩, hS.F ht⟩) hS.2.2 dX7_total_117
                    · have h := h.2 c_25_8
                      rcases Classical.em (p1 = (9 : Int32)) with c_25_9 | c_25_9
                      · have h := h.1 c_25_9
                        refine lv_tableIn (tgt := 118) hx hb dX7_total_25 (by rw [c_25_9]; decide) (by rw [c_25_9]; decide) (by rw [c_25_9]; try rfl) (by decide) ?_
                        refine lv_aload_n hx hb dX7_total_118 rfl (lv_at hl 0 rfl) ?_
                        refine kg (v := .int (mm 0)) S hE hP 0 rfl rfl 5 (by decide) q_9_0 rfl rfl inlX7 dX7_total_119 ?_
                        exact W.iret (v := (mm 0)) hx hb hr (fun t ht hW => ⟨⟨(mm 0), (), rfl, h, ⟨hp_at ht hP, hD⟩⟩, hS.F ht⟩) hS.2.2 dX7_total_122
                      · have h := h.2 c_25_9
                        rcases Classical.em (p1 = (10 : Int32)) with c_25_10 | c_25_10
                        · have h := h.1 c_25_10
                          refine lv_tableIn (tgt := 123) hx hb dX7_total_25 (by rw [c_25_10]; decide) (by rw [c_25_10]; decide) (by rw [c_25_10]; try rfl) (by decide) ?_
                          refine lv_aload_n hx hb dX7_total_123 rfl (lv_at hl 0 rfl) ?_
                          refine kg (v := .int (mm 1)) S hE hP 0 rfl rfl 7 (by decide) q_23_23 rfl rfl inlX7 dX7_total_124 ?_
                          exact W.iret (v := (mm 1)) hx hb hr (fun t ht hW => ⟨⟨(mm 1), (), rfl, h, ⟨hp_at ht hP, hD⟩⟩, hS.F ht⟩) hS.2.2 dX7_total_127
                        · have h := h.2 c_25_10
                          rcases Classical.em (p1 = (11 : Int32)) with c_25_11 | c_25_11
                          · have h := h.1 c_25_11
                            refine lv_tableIn (tgt := 128) hx hb dX7_total_25 (by rw [c_25_11]; decide) (by rw [c_25_11]; decide) (by rw [c_25_11]; try rfl) (by decide) ?_
                            exact J_128 _ _ _ _ h _ _ _ hP hD hS (lv_sub hl [0, 1] rfl)
                          · have h := h.2 c_25_11
                            rcases Classical.em (p1 = (12 : Int32)) with c_25_12 | c_25_12
                            · have h := h.1 c_25_12
                              refine lv_tableIn (tgt := 128) hx hb dX7_total_25 (by rw [c_25_12]; decide) (by rw [c_25_12]; decide) (by rw [c_25_12]; try rfl) (by decide) ?_
                              exact J_128 _ _ _ _ h _ _ _ hP hD hS (lv_sub hl [0, 1] rfl)
                            · have h := h.2 c_25_12
                              have n_0 := lv_neT c_25_0 (a := 0) (by decide)
                              have n_1 := lv_neT c_25_1 (a := 1) (by decide)
                              have n_2 := lv_neT c_25_2 (a := 2) (by decide)
                              have n_3 := lv_neT c_25_3 (a := 3) (by decide)
                              have n_4 := lv_neT c_25_4 (a := 4) (by decide)
                              have n_5 := lv_neT c_25_5 (a := 5) (by decide)
                              have n_6 := lv_neT c_25_6 (a := 6) (by decide)
                              have n_7 := lv_neT c_25_7 (a := 7) (by decide)
                              have n_8 := lv_neT c_25_8 (a := 8) (by decide)
                              have n_9 := lv_neT c_25_9 (a := 9) (by decide)
                              have n_10 := lv_neT c_25_10 (a := 10) (by decide)
                              have n_11 := lv_neT c_25_11 (a := 11) (by decide)
                              have n_12 := lv_neT c_25_12 (a := 12) (by decide)
                              refine lv_tableOut (tgt := 137) hx hb dX7_total_25 (by omega) (by decide) ?_
                              refine lv_bipush (v := (-2 : Int32)) hx hb dX7_total_137 (by decide) ?_
                              exact W.iret (v := (-2 : Int32)) hx hb hr (fun t ht hW => ⟨⟨(-2 : Int32), (), rfl, h, ⟨hp_at ht hP, hD⟩⟩, hS.F ht⟩) hS.2.2 dX7_total_139
  · have h := h.2 c_8
    refine lv_aload_n hx hb dX7_total_11 rfl (lv_at hl 0 rfl) ?_
    refine kg (v := .ref (a 1)) S hE hP 0 rfl rfl 0 (by decide) q_4_13 rfl rfl inlX7 dX7_total_12 ?_
    refine lv_bipush (v := (12 : Int32)) hx hb dX7_total_15 (by decide) ?_
    refine lv_iload_n hx hb dX7_total_17 rfl (lv_at hl 1 rfl) ?_
    refine lv_iadd hx hb dX7_total_18 ?_
    refine lv_bipush (v := (13 : Int32)) hx hb dX7_total_19 (by decide) ?_
    refine lv_isub hx hb dX7_total_21 ?_
    refine kail (v := (mn (Int32.toNatClampNeg (((12 : Int32) + p1) - (13 : Int32))))) S hE hP 1 rfl h.1 rfl rfl dX7_total_22 ?_
    have h := h.2
    exact W.iret (v := (mn (Int32.toNatClampNeg (((12 : Int32) + p1) - (13 : Int32))))) hx hb hr (fun t ht hW => ⟨⟨(mn (Int32.toNatClampNeg (((12 : Int32) + p1) - (13 : Int32)))), (), rfl, h, ⟨hp_at ht hP, hD⟩⟩, hS.F ht⟩) hS.2.2 dX7_total_23
def vX7_modeIn (mn : Nat → Int32) (mf : Nat → UInt32) (mk : Nat → Int32) (mg : Nat → UInt32) (p1 : Int32) (K : Int32 → ((Nat → Int32) × (Nat → UInt32) × (Nat → Int32) × (Nat → UInt32)) → Prop) : Prop :=
  vX7_isIn p1 (0 : Int32) (500 : Int32) (fun r_5 u_5 => (¬ r_5 = (0 : Int32) → vX7_keeps mn mf mk mg (7 : Int32) (fun u_17 => vX7_passes mn mf p1 (fun r_22 u_22 => vX7_brings u_22.1 u_22.2 u_17.1 u_17.2 (7 : Int32) (fun u_29 => K r_22 (u_29.1, u_29.2, u_17.1, u_17.2))))) ∧ (r_5 = (0 : Int32) → K (-2 : Int32) (mn, mf, mk, mg)))
set_option maxRecDepth 100000 in
set_option maxHeartbeats 4000000 in
theorem ctX7_modeIn (l : Launch) (G : va_G) (cy : Nat → ClassId) (a : Nat → Nat) (mn : Nat → Int32) (mf : Nat → UInt32) (mk : Nat → Int32) (mg : Nat → UInt32) (mv : Nat → Int32) (mt : Nat → Int32) (mm : Nat → Int32) (p1 : Int32) (K : Int32 → ((Nat → Int32) × (Nat → UInt32) × (Nat → Int32) × (Nat → UInt32)) → Prop) (h : vX7_modeIn mn mf mk mg p1 K) : Met l yX7_modeIn (ws_ yX7_modeIn cX7_modeIn 3 (some .int)) ({ frames := 8, cells := 0, slots := 0, locals := 172 } : Room) (CP G cy [.ref (a 0), .int p1] (md_W cy a mn mf mk mg mv mt mm)) (RI G K (fun u => md_W cy a u.1 u.2.1 u.2.2.1 u.2.2.2 mv mt mm) (A1 (md_W cy a mn mf mk mg mv mt mm))) 0 0 (A1 (md_W cy a mn mf mk mg mv mt mm)) := by
  refine hd_go (Qf := fun A => (RI G K (fun u => md_W cy a u.1 u.2.1 u.2.2.1 u.2.2.2 mv mt mm) A)) (by decide +kernel) (Nat.le_of_ble_eq_true rfl) ?_
  intro p e s m below meth c ls A hx hb hr hlocks S hE hP hD hS hl
  have hl : lv_has ls 3 [(0, .ref (a 0)), (1, .int p1)] := hl
  unfold vX7_modeIn at h
  refine lv_iload_n hx hb dX7_modeIn_0 rfl (lv_at hl 1 rfl) ?_
  refine lv_iconst (v := (0 : Int32)) hx hb dX7_modeIn_1 (by decide) ?_
  refine lv_sipush (v := (500 : Int32)) hx hb dX7_modeIn_2 (by decide) ?_
  refine kc_SiE (As := [.int p1, .int (0 : Int32), .int (500 : Int32)]) (rest := []) S hE (ctX7_isIn l G cy   p1 (0 : Int32) (500 : Int32) _ h) q_8_17 q_8_18 q_1_5 q_8_19 ydX7_isIn ⟨⟨rfl, rfl⟩, ⟨Nat.le_of_ble_eq_true rfl, Nat.le_of_ble_eq_true rfl⟩⟩ ⟨Nat.zero_le _, Nat.zero_le _⟩ hP hD hS (fun _ => rfl) rfl hl.1 rfl (Nat.le_of_ble_eq_true rfl) dX7_modeIn_5 (fun r_5 u_5 H locs h hP hD hS => ?_)
  refine lv_if_ne (tgt := 14) hx hb dX7_modeIn_8 (by decide) (fun c_8 => ?_) (fun c_8 => ?_)
  · have h := h.1 c_8
    refine lv_aload_n hx hb dX7_modeIn_14 rfl (lv_at hl 0 rfl) ?_
    refine lv_bipush (v := (7 : Int32)) hx hb dX7_modeIn_15 (by decide) ?_
    refine kc_Vv0 (As := [.int (7 : Int32)]) (rest := []) S hE (ctX7_keeps l G cy a mn mf mk mg mv mt mm (7 : Int32) _ h) q_9_1 q_9_2 q_9_3 q_1_5 q_9_4 rfl 0 rfl rfl ydX7_keeps ⟨⟨rfl, rfl⟩, ⟨Nat.le_of_ble_eq_true rfl, Nat.le_of_ble_eq_true rfl⟩⟩ ⟨Nat.zero_le _, Nat.zero_le _⟩ hP hD hS rfl hl.1 rfl (Nat.le_of_ble_eq_true rfl) dX7_modeIn_17 (fun u_17 H locs h hP hD hS => ?_)
    refine lv_aload_n hx hb dX7_modeIn_20 rfl (lv_at hl 0 rfl) ?_
    refine lv_iload_n hx hb dX7_modeIn_21 rfl (lv_at hl 1 rfl) ?_
    refine kc_Vi0 (As := [.int p1]) (rest := []) S hE (ctX7_passes l G cy a mn mf u_17.1 u_17.2 mv mt mm p1 _ h) q_21_1 q_21_2 q_21_3 q_1_5 q_21_4 rfl 0 rfl rfl ydX7_passes ⟨⟨rfl, rfl⟩, ⟨Nat.le_of_ble_eq_true rfl, Nat.le_of_ble_eq_true rfl⟩⟩ ⟨Nat.zero_le _, Nat.zero_le _⟩ hP hD hS rfl hl.1 rfl (Nat.le_of_ble_eq_true rfl) dX7_modeIn_22 (fun r_22 u_22 H locs h hP hD hS => ?_)
    refine lv_istore_n (lv' := [(2, .int r_22), (0, .ref (a 0)), (1, .int p1)]) hx hb dX7_modeIn_25 rfl hl (by decide) rfl (fun ls hl => ?_)
    refine lv_aload_n hx hb dX7_modeIn_26 rfl (lv_at hl 1 rfl) ?_
    refine lv_bipush (v := (7 : Int32)) hx hb dX7_modeIn_27 (by decide) ?_
    refine kc_Vv0 (As := [.int (7 : Int32)]) (rest := []) S hE (ctX7_brings l G cy a u_22.1 u_22.2 u_17.1 u_17.2 mv mt mm (7 : Int32) _ h) q_27_17 q_27_18 q_27_19 q_1_5 q_27_20 rfl 0 rfl rfl ydX7_brings ⟨⟨rfl, rfl⟩, ⟨Nat.le_of_ble_eq_true rfl, Nat.le_of_ble_eq_true rfl⟩⟩ ⟨Nat.zero_le _, Nat.zero_le _⟩ hP hD hS rfl hl.1 rfl (Nat.le_of_ble_eq_true rfl) dX7_modeIn_29 (fun u_29 H locs h hP hD hS => ?_)
    refine lv_iload_n hx hb dX7_modeIn_32 rfl (lv_at hl 0 rfl) ?_
    exact W.iret (v := r_22) hx hb hr (fun t ht hW => ⟨⟨r_22, (u_29.1, u_29.2, u_17.1, u_17.2), rfl, h, ⟨hp_at ht hP, hD⟩⟩, hS.F ht⟩) hS.2.2 dX7_modeIn_33
  · have h := h.2 c_8
    refine lv_bipush (v := (-2 : Int32)) hx hb dX7_modeIn_11 (by decide) ?_
    exact W.iret (v := (-2 : Int32)) hx hb hr (fun t ht hW => ⟨⟨(-2 : Int32), (mn, mf, mk, mg), rfl, h, ⟨hp_at ht hP, hD⟩⟩, hS.F ht⟩) hS.2.2 dX7_modeIn_13
def vX7_secondsTo_47 (mn : Nat → Int32) (mf : Nat → UInt32) (mk : Nat → Int32) (mg : Nat → UInt32) (x2 : Int32) (K : Int32 → ((Nat → Int32) × (Nat → UInt32) × (Nat → Int32) × (Nat → UInt32)) → Prop)  : Prop :=
  vX7_brings mn mf mk mg (7 : Int32) (fun u_50 => (x2 ≤ (500 : Int32) → K x2 (u_50.1, u_50.2, mk, mg)) ∧ (¬ x2 ≤ (500 : Int32) → K (-5 : Int32) (u_50.1, u_50.2, mk, mg)))
def vX7_secondsTo_20b (mk : Nat → Int32) (mg : Nat → UInt32) (x1 : Int32) (K : Int32 → ((Nat → Int32) × (Nat → UInt32) × (Nat → Int32) × (Nat → UInt32)) → Prop)  (B20 : (Nat → Int32) → (Nat → UInt32) → Int32 → Prop) (mn : Nat → Int32) (mf : Nat → UInt32) (x2 : Int32) : Prop :=
  ((mn 0) = x1 → vX7_secondsTo_47 mn mf mk mg x2 K ) ∧ (¬ (mn 0) = x1 → ((500 : Int32) < x2 → vX7_secondsTo_47 mn mf mk mg x2 K ) ∧ (¬ (500 : Int32) < x2 → vX7_passesSecond mn mf (fun u_38 => B20 u_38.1 u_38.2 (x2 + (1 : Int32)))))
def vX7_secondsTo_20F (mk : Nat → Int32) (mg : Nat → UInt32) (x1 : Int32) (K : Int32 → ((Nat → Int32) × (Nat → UInt32) × (Nat → Int32) × (Nat → UInt32)) → Prop)  : (((Nat → Int32) × (Nat → UInt32) × Int32) → Prop) → ((Nat → Int32) × (Nat → UInt32) × Int32) → Prop := fun B z => vX7_secondsTo_20b mk mg x1 K  (fun z0 z1 z2 => B (z0, z1, z2)) z.1 z.2.1 z.2.2
def vX7_secondsTo (mn : Nat → Int32) (mf : Nat → UInt32) (mk : Nat → Int32) (mg : Nat → UInt32) (p1 : Int32) (K : Int32 → ((Nat → Int32) × (Nat → UInt32) × (Nat → Int32) × (Nat → UInt32)) → Prop) : Prop :=
  vX7_isIn p1 (0 : Int32) (5 : Int32) (fun r_3 u_3 => (¬ r_3 = (0 : Int32) → vX7_keeps mn mf mk mg (7 : Int32) (fun u_15 => ∃ k, lp (vX7_secondsTo_20F u_15.1 u_15.2 p1 K ) k (mn, mf, (0 : Int32)))) ∧ (r_3 = (0 : Int32) → K (-2 : Int32) (mn, mf, mk, mg)))
set_option maxRecDepth 100000 in
set_option maxHeartbeats 4000000 in
theorem ctX7_secondsTo (l : Launch) (G : va_G) (cy : Nat → ClassId) (a : Nat → Nat) (mn : Nat → Int32) (mf : Nat → UInt32) (mk : Nat → Int32) (mg : Nat → UInt32) (mv : Nat → Int32) (mt : Nat → Int32) (mm : Nat → Int32) (p1 : Int32) (K : Int32 → ((Nat → Int32) × (Nat → UInt32) × (Nat → Int32) × (Nat → UInt32)) → Prop) (h : vX7_secondsTo mn mf mk mg p1 K) : Met l yX7_secondsTo (ws_ yX7_secondsTo cX7_secondsTo 3 (some .int)) ({ frames := 7, cells := 0, slots := 0, locals := 150 } : Room) (CP G cy [.ref (a 0), .int p1] (md_W cy a mn mf mk mg mv mt mm)) (RI G K (fun u => md_W cy a u.1 u.2.1 u.2.2.1 u.2.2.2 mv mt mm) (A1 (md_W cy a mn mf mk mg mv mt mm))) 0 0 (A1 (md_W cy a mn mf mk mg mv mt mm)) := by
  refine hd_go (Qf := fun A => (RI G K (fun u => md_W cy a u.1 u.2.1 u.2.2.1 u.2.2.2 mv mt mm) A)) (by decide +kernel) (Nat.le_of_ble_eq_true rfl) ?_
  intro p e s m below meth c ls A hx hb hr hlocks S hE hP hD hS hl
  have hl : lv_has ls 3 [(0, .ref (a 0)), (1, .int p1)] := hl
  unfold vX7_secondsTo at h
  have J_47 : ∀ (mn : Nat → Int32) (mf : Nat → UInt32) (mk : Nat → Int32) (mg : Nat → UInt32) (x2 : Int32), vX7_secondsTo_47 mn mf mk mg x2 K  → ∀ (H : Heap) (locs : List Loc) (ls : Array Slot), va_P G vwCl (md_W cy a mn mf mk mg mv mt mm) H → va_D A (md_W cy a mn mf mk mg mv mt mm) → va_S A s.heap H locs → lv_has ls 3 [(0, .ref (a 0)), (2, .int x2)] → W p l e (headSpec (ws_ yX7_secondsTo cX7_secondsTo 3 (some .int)) ({ frames := 7, cells := 0, slots := 0, locals := 150 } : Room)).room s m ([.ref (a 0), .int p1] : List Value).toArray below meth c H locs 0 0 (MQ below (RI G K (fun u => md_W cy a u.1 u.2.1 u.2.2.1 u.2.2.2 mv mt mm) A) ([.ref (a 0), .int p1] : List Value).toArray s 0 0 A) (F0 m 47 ls []) := by
    intro mn mf mk mg x2 h H locs ls hP hD hS hl
    unfold vX7_secondsTo_47 at h
    refine lv_aload_n hx hb dX7_secondsTo_47 rfl (lv_at hl 0 rfl) ?_
    refine lv_bipush (v := (7 : Int32)) hx hb dX7_secondsTo_48 (by decide) ?_
    refine kc_Vv0 (As := [.int (7 : Int32)]) (rest := []) S hE (ctX7_brings l G cy a mn mf mk mg mv mt mm (7 : Int32) _ h) q_27_17 q_27_18 q_27_19 q_1_5 q_27_20 rfl 0 rfl rfl ydX7_brings ⟨⟨rfl, rfl⟩, ⟨Nat.le_of_ble_eq_true rfl, Nat.le_of_ble_eq_true rfl⟩⟩ ⟨Nat.zero_le _, Nat.zero_le _⟩ hP hD hS rfl hl.1 rfl (Nat.le_of_ble_eq_true rfl) dX7_secondsTo_50 (fun u_50 H locs h hP hD hS => ?_)
    refine lv_iload_n hx hb dX7_secondsTo_53 rfl (lv_at hl 1 rfl) ?_
    refine lv_sipush (v := (500 : Int32)) hx hb dX7_secondsTo_54 (by decide) ?_
    refine lv_icmp_le (tgt := 65) hx hb dX7_secondsTo_57 (by decide) (fun c_57 => ?_) (fun c_57 => ?_)
    · have h := h.1 c_57
      refine lv_iload_n hx hb dX7_secondsTo_65 rfl (lv_at hl 1 rfl) ?_
      exact W.iret (v := x2) hx hb hr (fun t ht hW => ⟨⟨x2, (u_50.1, u_50.2, mk, mg), rfl, h, ⟨hp_at ht hP, hD⟩⟩, hS.F ht⟩) hS.2.2 dX7_secondsTo_66
    · have h := h.2 c_57
      refine lv_bipush (v := (-5 : Int32)) hx hb dX7_secondsTo_60 (by decide) ?_
      refine lv_goto (tgt := 66) hx hb dX7_secondsTo_62 (by decide) ?_
      exact W.iret (v := (-5 : Int32)) hx hb hr (fun t ht hW => ⟨⟨(-5 : Int32), (u_50.1, u_50.2, mk, mg), rfl, h, ⟨hp_at ht hP, hD⟩⟩, hS.F ht⟩) hS.2.2 dX7_secondsTo_66
  have L_20 : ∀ (mk : Nat → Int32) (mg : Nat → UInt32) (x1 : Int32) (k_20 : Nat) (mn : Nat → Int32) (mf : Nat → UInt32) (x2 : Int32), lp (vX7_secondsTo_20F mk mg x1 K ) k_20 (mn, mf, x2) → ∀ (H : Heap) (locs : List Loc) (ls : Array Slot), va_P G vwCl (md_W cy a mn mf mk mg mv mt mm) H → va_D A (md_W cy a mn mf mk mg mv mt mm) → va_S A s.heap H locs → lv_has ls 3 [(0, .ref (a 0)), (1, .int x1), (2, .int x2)] → W p l e (headSpec (ws_ yX7_secondsTo cX7_secondsTo 3 (some .int)) ({ frames := 7, cells := 0, slots := 0, locals := 150 } : Room)).room s m ([.ref (a 0), .int p1] : List Value).toArray below meth c H locs 0 0 (MQ below (RI G K (fun u => md_W cy a u.1 u.2.1 u.2.2.1 u.2.2.2 mv mt mm) A) ([.ref (a 0), .int p1] : List Value).toArray s 0 0 A) (F0 m 20 ls []) := by
    intro mk mg x1 k_20
    induction k_20 with
    | zero => intro mn mf x2 h; exact h.elim
    | succ k_20 ih_20 =>
      intro mn mf x2 h H locs ls hP hD hS hl
      have h : vX7_secondsTo_20b mk mg x1 K  (fun z0 z1 z2 => lp (vX7_secondsTo_20F mk mg x1 K ) k_20 (z0, z1, z2)) mn mf x2 := h
      unfold vX7_secondsTo_20b at h
      refine lv_aload_n hx hb dX7_secondsTo_20 rfl (lv_at hl 0 rfl) ?_
      refine kg (v := .ref (a 1)) S hE hP 0 rfl rfl 0 (by decide) q_4_13 rfl rfl inlX7 dX7_secondsTo_21 ?_
      refine lv_iconst (v := (0 : Int32)) hx hb dX7_secondsTo_24 (by decide) ?_
      refine kail (v := (mn 0)) S hE hP 1 rfl (vi_0 (by decide)) tc_0 rfl dX7_secondsTo_25 ?_
      refine lv_iload_n hx hb dX7_secondsTo_26 rfl (lv_at hl 1 rfl) ?_
      refine lv_icmp_eq (tgt := 47) hx hb dX7_secondsTo_27 (by decide) (fun c_27 => ?_) (fun c_27 => ?_)
      · have h := h.1 c_27
        exact J_47 _ _ _ _ _ h _ _ _ hP hD hS (lv_sub hl [0, 2] rfl)
      · have h := h.2 c_27
        refine lv_iload_n hx hb dX7_secondsTo_30 rfl (lv_at hl 2 rfl) ?_
        refine lv_sipush (v := (500 : Int32)) hx hb dX7_secondsTo_31 (by decide) ?_
        refine lv_icmp_gt (tgt := 47) hx hb dX7_secondsTo_34 (by decide) (fun c_34 => ?_) (fun c_34 => ?_)
        · have h := h.1 c_34
          exact J_47 _ _ _ _ _ h _ _ _ hP hD hS (lv_sub hl [0, 2] rfl)
        · have h := h.2 c_34
          refine lv_aload_n hx hb dX7_secondsTo_37 rfl (lv_at hl 0 rfl) ?_
          refine kc_Vv0 (As := []) (rest := []) S hE (ctX7_passesSecond l G cy a mn mf mk mg mv mt mm  _ h) q_21_5 q_21_6 q_21_7 q_1_5 q_21_8 rfl 0 rfl rfl ydX7_passesSecond ⟨⟨rfl, rfl⟩, ⟨Nat.le_of_ble_eq_true rfl, Nat.le_of_ble_eq_true rfl⟩⟩ ⟨Nat.zero_le _, Nat.zero_le _⟩ hP hD hS rfl hl.1 rfl (Nat.le_of_ble_eq_true rfl) dX7_secondsTo_38 (fun u_38 H locs h hP hD hS => ?_)
          refine lv_iinc (v := (x2 + (1 : Int32))) (lv' := [(2, .int (x2 + (1 : Int32))), (0, .ref (a 0)), (1, .int x1)]) hx hb dX7_secondsTo_41 hl (k := 2) rfl (by rfl) (by decide) rfl (fun ls hl => ?_)
          refine lv_goto (tgt := 20) hx hb dX7_secondsTo_44 (by decide) ?_
          exact ih_20 _ _ _ h _ _ _ hP hD hS (lv_sub hl [1, 2, 0] rfl)
  refine lv_iload_n hx hb dX7_secondsTo_0 rfl (lv_at hl 1 rfl) ?_
  refine lv_iconst (v := (0 : Int32)) hx hb dX7_secondsTo_1 (by decide) ?_
  refine lv_iconst (v := (5 : Int32)) hx hb dX7_secondsTo_2 (by decide) ?_
  refine kc_SiE (As := [.int p1, .int (0 : Int32), .int (5 : Int32)]) (rest := []) S hE (ctX7_isIn l G cy   p1 (0 : Int32) (5 : Int32) _ h) q_8_17 q_8_18 q_1_5 q_8_19 ydX7_isIn ⟨⟨rfl, rfl⟩, ⟨Nat.le_of_ble_eq_true rfl, Nat.le_of_ble_eq_true rfl⟩⟩ ⟨Nat.zero_le _, Nat.zero_le _⟩ hP hD hS (fun _ => rfl) rfl hl.1 rfl (Nat.le_of_ble_eq_true rfl) dX7_secondsTo_3 (fun r_3 u_3 H locs h hP hD hS => ?_)
  refine lv_if_ne (tgt := 12) hx hb dX7_secondsTo_6 (by decide) (fun c_6 => ?_) (fun c_6 => ?_)
  · have h := h.1 c_6
    refine lv_aload_n hx hb dX7_secondsTo_12 rfl (lv_at hl 0 rfl) ?_
    refine lv_bipush (v := (7 : Int32)) hx hb dX7_secondsTo_13 (by decide) ?_
    refine kc_Vv0 (As := [.int (7 : Int32)]) (rest := []) S hE (ctX7_keeps l G cy a mn mf mk mg mv mt mm (7 : Int32) _ h) q_9_1 q_9_2 q_9_3 q_1_5 q_9_4 rfl 0 rfl rfl ydX7_keeps ⟨⟨rfl, rfl⟩, ⟨Nat.le_of_ble_eq_true rfl, Nat.le_of_ble_eq_true rfl⟩⟩ ⟨Nat.zero_le _, Nat.zero_le _⟩ hP hD hS rfl hl.1 rfl (Nat.le_of_ble_eq_true rfl) dX7_secondsTo_15 (fun u_15 H locs h hP hD hS => ?_)
    refine lv_iconst (v := (0 : Int32)) hx hb dX7_secondsTo_18 (by decide) ?_
    refine lv_istore_n (lv' := [(2, .int (0 : Int32)), (0, .ref (a 0)), (1, .int p1)]) hx hb dX7_secondsTo_19 rfl hl (by decide) rfl (fun ls hl => ?_)
    obtain ⟨k0, h⟩ := h
    exact L_20 _ _ _ k0 _ _ _ h _ _ _ hP hD hS (lv_sub hl [1, 2, 0] rfl)
  · have h := h.2 c_6
    refine lv_bipush (v := (-2 : Int32)) hx hb dX7_secondsTo_9 (by decide) ?_
    exact W.iret (v := (-2 : Int32)) hx hb hr (fun t ht hW => ⟨⟨(-2 : Int32), (mn, mf, mk, mg), rfl, h, ⟨hp_at ht hP, hD⟩⟩, hS.F ht⟩) hS.2.2 dX7_secondsTo_11
def vX7_closest_88 (mf : Nat → UInt32) (x1 : Int32) (x2 : UInt32) (x3 : UInt32) (x5 : Int32) (y0 : UInt32) (K : Int32 → Unit → Prop) (B40 : UInt32 → UInt32 → UInt32 → Int32 → Prop) : Prop :=
  B40 x2 x3 y0 (x5 + (1 : Int32))
def vX7_closest_40b (mf : Nat → UInt32) (x1 : Int32) (K : Int32 → Unit → Prop)  (B40 : UInt32 → UInt32 → UInt32 → Int32 → Prop) (x2 : UInt32) (x3 : UInt32) (x4 : UInt32) (x5 : Int32) : Prop :=
  (x1 ≤ x5 → vX7_bitsOf x4 (fun r_98 u_98 => K r_98 ())) ∧ (¬ x1 ≤ x5 → vf_n32 (FP.fadd x2 (mf 2)) ∧ vf_n32 (FP.fadd x3 (mf 3)) ∧ vf_n32 (FP.fmul (FP.fadd x2 (mf 2)) (FP.fadd x2 (mf 2))) ∧ vf_n32 (FP.fmul (FP.fadd x3 (mf 3)) (FP.fadd x3 (mf 3))) ∧ vf_n32 (FP.fadd (FP.fmul (FP.fadd x2 (mf 2)) (FP.fadd x2 (mf 2))) (FP.fmul (FP.fadd x3 (mf 3)) (FP.fadd x3 (mf 3)))) ∧ ((0 : Int32) ≤ (fcg (FP.fadd (FP.fmul (FP.fadd x2 (mf 2)) (FP.fadd x2 (mf 2))) (FP.fmul (FP.fadd x3 (mf 3)) (FP.fadd x3 (mf 3)))) x4) → vX7_closest_88 mf x1 (FP.fadd x2 (mf 2)) (FP.fadd x3 (mf 3)) x5 x4 K B40) ∧ (¬ (0 : Int32) ≤ (fcg (FP.fadd (FP.fmul (FP.fadd x2 (mf 2)) (FP.fadd x2 (mf 2))) (FP.fmul (FP.fadd x3 (mf 3)) (FP.fadd x3 (mf 3)))) x4) → vX7_closest_88 mf x1 (FP.fadd x2 (mf 2)) (FP.fadd x3 (mf 3)) x5 (FP.fadd (FP.fmul (FP.fadd x2 (mf 2)) (FP.fadd x2 (mf 2))) (FP.fmul (FP.fadd x3 (mf 3)) (FP.fadd x3 (mf 3)))) K B40))
def vX7_closest_40F (mf : Nat → UInt32) (x1 : Int32) (K : Int32 → Unit → Prop)  : ((UInt32 × UInt32 × UInt32 × Int32) → Prop) → (UInt32 × UInt32 × UInt32 × Int32) → Prop := fun B z => vX7_closest_40b mf x1 K  (fun z0 z1 z2 z3 => B (z0, z1, z2, z3)) z.1 z.2.1 z.2.2.1 z.2.2.2
def vX7_closest (mf : Nat → UInt32) (p1 : Int32) (K : Int32 → Unit → Prop) : Prop :=
  vX7_isIn p1 (0 : Int32) (500 : Int32) (fun r_5 u_5 => (¬ r_5 = (0 : Int32) → vf_n32 (FP.fmul (mf 0) (mf 0)) ∧ vf_n32 (FP.fmul (mf 1) (mf 1)) ∧ vf_n32 (FP.fadd (FP.fmul (mf 0) (mf 0)) (FP.fmul (mf 1) (mf 1))) ∧ ∃ k, lp (vX7_closest_40F mf p1 K ) k ((mf 0), (mf 1), (FP.fadd (FP.fmul (mf 0) (mf 0)) (FP.fmul (mf 1) (mf 1))), (0 : Int32))) ∧ (r_5 = (0 : Int32) → K (-2 : Int32) ()))
set_option maxRecDepth 100000 in
set_option maxHeartbeats 4000000 in
theorem ctX7_closest (l : Launch) (G : va_G) (cy : Nat → ClassId) (a : Nat → Nat) (mn : Nat → Int32) (mf : Nat → UInt32) (mk : Nat → Int32) (mg : Nat → UInt32) (mv : Nat → Int32) (mt : Nat → Int32) (mm : Nat → Int32) (p1 : Int32) (K : Int32 → Unit → Prop) (h : vX7_closest mf p1 K) : Met l yX7_closest (ws_ yX7_closest cX7_closest 7 (some .int)) ({ frames := 2, cells := 0, slots := 0, locals := 45 } : Room) (CP G cy [.ref (a 0), .int p1] (md_W cy a mn mf mk mg mv mt mm)) (RI G K (fun u => md_W cy a mn mf mk mg mv mt mm) (A1 (md_W cy a mn mf mk mg mv mt mm))) 0 0 (A1 (md_W cy a mn mf mk mg mv mt mm)) := by
  refine hd_go (Qf := fun A => (RI G K (fun u => md_W cy a mn mf mk mg mv mt mm) A)) (by decide +kernel) (Nat.le_of_ble_eq_true rfl) ?_
  intro p e s m below meth c ls A hx hb hr hlocks S hE hP hD hS hl
  have hl : lv_has ls 7 [(0, .ref (a 0)), (1, .int p1)] := hl
  unfold vX7_closest at h
  have L_40 : ∀ (mf : Nat → UInt32) (x1 : Int32) (k_40 : Nat) (x2 : UInt32) (x3 : UInt32) (x4 : UInt32) (x5 : Int32), lp (vX7_closest_40F mf x1 K ) k_40 (x2, x3, x4, x5) → ∀ (H : Heap) (locs : List Loc) (ls : Array Slot), va_P G vwCl (md_W cy a mn mf mk mg mv mt mm) H → va_D A (md_W cy a mn mf mk mg mv mt mm) → va_S A s.heap H locs → lv_has ls 7 [(0, .ref (a 0)), (1, .int x1), (2, .float x2), (3, .float x3), (4, .float x4), (5, .int x5)] → W p l e (headSpec (ws_ yX7_closest cX7_closest 7 (some .int)) ({ frames := 2, cells := 0, slots := 0, locals := 45 } : Room)).room s m ([.ref (a 0), .int p1] : List Value).toArray below meth c H locs 0 0 (MQ below (RI G K (fun u => md_W cy a mn mf mk mg mv mt mm) A) ([.ref (a 0), .int p1] : List Value).toArray s 0 0 A) (F0 m 40 ls []) := by
    intro mf x1 k_40
    induction k_40 with
    | zero => intro x2 x3 x4 x5 h; exact h.elim
    | succ k_40 ih_40 =>
      have J_88 : ∀ (x2 : UInt32) (x3 : UInt32) (x5 : Int32) (y0 : UInt32), vX7_closest_88 mf x1 x2 x3 x5 y0 K (fun z0 z1 z2 z3 => lp (vX7_closest_40F mf x1 K ) k_40 (z0, z1, z2, z3)) → ∀ (H : Heap) (locs : List Loc) (ls : Array Slot), va_P G vwCl (md_W cy a mn mf mk mg mv mt mm) H → va_D A (md_W cy a mn mf mk mg mv mt mm) → va_S A s.heap H locs → lv_has ls 7 [(0, .ref (a 0)), (1, .int x1), (2, .float x2), (3, .float x3), (5, .int x5)] → W p l e (headSpec (ws_ yX7_closest cX7_closest 7 (some .int)) ({ frames := 2, cells := 0, slots := 0, locals := 45 } : Room)).room s m ([.ref (a 0), .int p1] : List Value).toArray below meth c H locs 0 0 (MQ below (RI G K (fun u => md_W cy a mn mf mk mg mv mt mm) A) ([.ref (a 0), .int p1] : List Value).toArray s 0 0 A) (F0 m 88 ls [.float y0]) := by
        intro x2 x3 x5 y0 h H locs ls hP hD hS hl
        unfold vX7_closest_88 at h
        refine lv_fstore (lv' := [(4, .float y0), (0, .ref (a 0)), (1, .int x1), (2, .float x2), (3, .float x3), (5, .int x5)]) hx hb dX7_closest_88 hl (by decide) rfl (fun ls hl => ?_)
        refine lv_iinc (v := (x5 + (1 : Int32))) (lv' := [(5, .int (x5 + (1 : Int32))), (4, .float y0), (0, .ref (a 0)), (1, .int x1), (2, .float x2), (3, .float x3)]) hx hb dX7_closest_90 hl (k := 5) rfl (by rfl) (by decide) rfl (fun ls hl => ?_)
        refine lv_goto (tgt := 40) hx hb dX7_closest_93 (by decide) ?_
        exact ih_40 _ _ _ _ h _ _ _ hP hD hS (lv_sub hl [2, 3, 4, 5, 1, 0] rfl)
      intro x2 x3 x4 x5 h H locs ls hP hD hS hl
      have h : vX7_closest_40b mf x1 K  (fun z0 z1 z2 z3 => lp (vX7_closest_40F mf x1 K ) k_40 (z0, z1, z2, z3)) x2 x3 x4 x5 := h
      unfold vX7_closest_40b at h
      refine lv_iload hx hb dX7_closest_40 (lv_at hl 5 rfl) ?_
      refine lv_iload_n hx hb dX7_closest_42 rfl (lv_at hl 1 rfl) ?_
      refine lv_icmp_ge (tgt := 96) hx hb dX7_closest_43 (by decide) (fun c_43 => ?_) (fun c_43 => ?_)
      · have h := h.1 c_43
        refine lv_fload hx hb dX7_closest_96 (lv_at hl 4 rfl) ?_
        refine kc_SiE (As := [.float x4]) (rest := []) S hE (ctX7_bitsOf l G cy   x4 _ h) q_29_21 q_29_22 q_1_5 q_29_23 ydX7_bitsOf ⟨⟨rfl, rfl⟩, ⟨Nat.le_of_ble_eq_true rfl, Nat.le_of_ble_eq_true rfl⟩⟩ ⟨Nat.zero_le _, Nat.zero_le _⟩ hP hD hS (fun _ => rfl) rfl hl.1 rfl (Nat.le_of_ble_eq_true rfl) dX7_closest_98 (fun r_98 u_98 H locs h hP hD hS => ?_)
        exact W.iret (v := r_98) hx hb hr (fun t ht hW => ⟨⟨r_98, (), rfl, h, ⟨hp_at ht hP, hD⟩⟩, hS.F ht⟩) hS.2.2 dX7_closest_101
      · have h := h.2 c_43
        refine lv_fload_n hx hb dX7_closest_46 rfl (lv_at hl 2 rfl) ?_
        refine lv_aload_n hx hb dX7_closest_47 rfl (lv_at hl 0 rfl) ?_
        refine kg (v := .ref (a 2)) S hE hP 0 rfl rfl 1 (by decide) q_4_15 rfl rfl inlX7 dX7_closest_48 ?_
        refine lv_iconst (v := (2 : Int32)) hx hb dX7_closest_51 (by decide) ?_
        refine kafl (v := (mf 2)) S hE hP 2 rfl (vi_2 (by decide)) tc_2 rfl dX7_closest_52 ?_
        refine lv_fadd hx hb dX7_closest_53 h.1 ?_
        have h := h.2
        refine lv_fstore_n (lv' := [(2, .float (FP.fadd x2 (mf 2))), (0, .ref (a 0)), (1, .int x1), (3, .float x3), (4, .float x4), (5, .int x5)]) hx hb dX7_closest_54 rfl hl (by decide) rfl (fun ls hl => ?_)
        refine lv_fload_n hx hb dX7_closest_55 rfl (lv_at hl 3 rfl) ?_
        refine lv_aload_n hx hb dX7_closest_56 rfl (lv_at hl 1 rfl) ?_
        refine kg (v := .ref (a 2)) S hE hP 0 rfl rfl 1 (by decide) q_4_15 rfl rfl inlX7 dX7_closest_57 ?_
        refine lv_iconst (v := (3 : Int32)) hx hb dX7_closest_60 (by decide) ?_
        refine kafl (v := (mf 3)) S hE hP 2 rfl (vi_3 (by decide)) tc_3 rfl dX7_closest_61 ?_
        refine lv_fadd hx hb dX7_closest_62 h.1 ?_
        have h := h.2
        refine lv_fstore_n (lv' := [(3, .float (FP.fadd x3 (mf 3))), (2, .float (FP.fadd x2 (mf 2))), (0, .ref (a 0)), (1, .int x1), (4, .float x4), (5, .int x5)]) hx hb dX7_closest_63 rfl hl (by decide) rfl (fun ls hl => ?_)
        refine lv_fload_n hx hb dX7_closest_64 rfl (lv_at hl 1 rfl) ?_
        refine lv_fload_n hx hb dX7_closest_65 rfl (lv_at hl 1 rfl) ?_
        refine lv_fmul hx hb dX7_closest_66 h.1 ?_
        have h := h.2
        refine lv_fload_n hx hb dX7_closest_67 rfl (lv_at hl 0 rfl) ?_
        refine lv_fload_n hx hb dX7_closest_68 rfl (lv_at hl 0 rfl) ?_
        refine lv_fmul hx hb dX7_closest_69 h.1 ?_
        have h := h.2
        refine lv_fadd hx hb dX7_closest_70 h.1 ?_
        have h := h.2
        refine lv_fstore (lv' := [(6, .float (FP.fadd (FP.fmul (FP.fadd x2 (mf 2)) (FP.fadd x2 (mf 2))) (FP.fmul (FP.fadd x3 (mf 3)) (FP.fadd x3 (mf 3))))), (3, .float (FP.fadd x3 (mf 3))), (2, .float (FP.fadd x2 (mf 2))), (0, .ref (a 0)), (1, .int x1), (4, .float x4), (5, .int x5)]) hx hb dX7_closest_71 hl (by decide) rfl (fun ls hl => ?_)
        refine lv_fload hx hb dX7_closest_73 (lv_at hl 0 rfl) ?_
        refine lv_fload hx hb dX7_closest_75 (lv_at hl 5 rfl) ?_
        refine lv_fcmp hx hb dX7_closest_77 ?_
        refine lv_if_ge (tgt := 86) hx hb dX7_closest_78 (by decide) (fun c_78 => ?_) (fun c_78 => ?_)
        · have h := h.1 c_78
          refine lv_fload hx hb dX7_closest_86 (lv_at hl 5 rfl) ?_
          exact J_88 _ _ _ _ h _ _ _ hP hD hS (lv_sub hl [3, 4, 2, 1, 6] rfl)
        · have h := h.2 c_78
          refine lv_fload hx hb dX7_closest_81 (lv_at hl 0 rfl) ?_
          refine lv_goto (tgt := 88) hx hb dX7_closest_83 (by decide) ?_
          exact J_88 _ _ _ _ h _ _ _ hP hD hS (lv_sub hl [3, 4, 2, 1, 6] rfl)
  refine lv_iload_n hx hb dX7_closest_0 rfl (lv_at hl 1 rfl) ?_
  refine lv_iconst (v := (0 : Int32)) hx hb dX7_closest_1 (by decide) ?_
  refine lv_sipush (v := (500 : Int32)) hx hb dX7_closest_2 (by decide) ?_
  refine kc_SiE (As := [.int p1, .int (0 : Int32), .int (500 : Int32)]) (rest := []) S hE (ctX7_isIn l G cy   p1 (0 : Int32) (500 : Int32) _ h) q_8_17 q_8_18 q_1_5 q_8_19 ydX7_isIn ⟨⟨rfl, rfl⟩, ⟨Nat.le_of_ble_eq_true rfl, Nat.le_of_ble_eq_true rfl⟩⟩ ⟨Nat.zero_le _, Nat.zero_le _⟩ hP hD hS (fun _ => rfl) rfl hl.1 rfl (Nat.le_of_ble_eq_true rfl) dX7_closest_5 (fun r_5 u_5 H locs h hP hD hS => ?_)
  refine lv_if_ne (tgt := 14) hx hb dX7_closest_8 (by decide) (fun c_8 => ?_) (fun c_8 => ?_)
  · have h := h.1 c_8
    refine lv_aload_n hx hb dX7_closest_14 rfl (lv_at hl 0 rfl) ?_
    refine kg (v := .ref (a 2)) S hE hP 0 rfl rfl 1 (by decide) q_4_15 rfl rfl inlX7 dX7_closest_15 ?_
    refine lv_iconst (v := (0 : Int32)) hx hb dX7_closest_18 (by decide) ?_
    refine kafl (v := (mf 0)) S hE hP 2 rfl (vi_0 (by decide)) tc_0 rfl dX7_closest_19 ?_
    refine lv_fstore_n (lv' := [(2, .float (mf 0)), (0, .ref (a 0)), (1, .int p1)]) hx hb dX7_closest_20 rfl hl (by decide) rfl (fun ls hl => ?_)
    refine lv_aload_n hx hb dX7_closest_21 rfl (lv_at hl 1 rfl) ?_
    refine kg (v := .ref (a 2)) S hE hP 0 rfl rfl 1 (by decide) q_4_15 rfl rfl inlX7 dX7_closest_22 ?_
    refine lv_iconst (v := (1 : Int32)) hx hb dX7_closest_25 (by decide) ?_
    refine kafl (v := (mf 1)) S hE hP 2 rfl (vi_1 (by decide)) tc_1 rfl dX7_closest_26 ?_
    refine lv_fstore_n (lv' := [(3, .float (mf 1)), (2, .float (mf 0)), (0, .ref (a 0)), (1, .int p1)]) hx hb dX7_closest_27 rfl hl (by decide) rfl (fun ls hl => ?_)
    refine lv_fload_n hx hb dX7_closest_28 rfl (lv_at hl 1 rfl) ?_
    refine lv_fload_n hx hb dX7_closest_29 rfl (lv_at hl 1 rfl) ?_
    refine lv_fmul hx hb dX7_closest_30 h.1 ?_
    have h := h.2
    refine lv_fload_n hx hb dX7_closest_31 rfl (lv_at hl 0 rfl) ?_
    refine lv_fload_n hx hb dX7_closest_32 rfl (lv_at hl 0 rfl) ?_
    refine lv_fmul hx hb dX7_closest_33 h.1 ?_
    have h := h.2
    refine lv_fadd hx hb dX7_closest_34 h.1 ?_
    have h := h.2
    refine lv_fstore (lv' := [(4, .float (FP.fadd (FP.fmul (mf 0) (mf 0)) (FP.fmul (mf 1) (mf 1)))), (3, .float (mf 1)), (2, .float (mf 0)), (0, .ref (a 0)), (1, .int p1)]) hx hb dX7_closest_35 hl (by decide) rfl (fun ls hl => ?_)
    refine lv_iconst (v := (0 : Int32)) hx hb dX7_closest_37 (by decide) ?_
    refine lv_istore (lv' := [(5, .int (0 : Int32)), (4, .float (FP.fadd (FP.fmul (mf 0) (mf 0)) (FP.fmul (mf 1) (mf 1)))), (3, .float (mf 1)), (2, .float (mf 0)), (0, .ref (a 0)), (1, .int p1)]) hx hb dX7_closest_38 hl (by decide) rfl (fun ls hl => ?_)
    obtain ⟨k0, h⟩ := h
    exact L_40 _ _ k0 _ _ _ _ h _ _ _ hP hD hS (lv_sub hl [4, 5, 3, 2, 1, 0] rfl)
  · have h := h.2 c_8
    refine lv_bipush (v := (-2 : Int32)) hx hb dX7_closest_11 (by decide) ?_
    exact W.iret (v := (-2 : Int32)) hx hb hr (fun t ht hW => ⟨⟨(-2 : Int32), (), rfl, h, ⟨hp_at ht hP, hD⟩⟩, hS.F ht⟩) hS.2.2 dX7_closest_13
def vX7_safeSpeed_33 (mn : Nat → Int32) (mf : Nat → UInt32) (x1 : Int32) (K : Int32 → Unit → Prop) (B4 : Int32 → Prop) : Prop :=
  B4 (x1 + (-1 : Int32))
def vX7_safeSpeed_4b (mn : Nat → Int32) (mf : Nat → UInt32) (K : Int32 → Unit → Prop)  (B4 : Int32 → Prop) (x1 : Int32) : Prop :=
  (x1 < (0 : Int32) → K (-5 : Int32) ()) ∧ (¬ x1 < (0 : Int32) → vX7_thousandth x1 (fun r_10 u_10 => vf_n32 (FP.fsub FP.fconst0 r_10) ∧ vX7_isTooFast mn mf (FP.fsub FP.fconst0 r_10) (fun r_17 u_17 => (¬ r_17 = (0 : Int32) → vX7_safeSpeed_33 mn mf x1 K B4) ∧ (r_17 = (0 : Int32) → vX7_isUnsafe mn mf (FP.fsub FP.fconst0 r_10) (fun r_25 u_25 => (¬ r_25 = (0 : Int32) → vX7_safeSpeed_33 mn mf x1 K B4) ∧ (r_25 = (0 : Int32) → K x1 ()))))))
def vX7_safeSpeed_4F (mn : Nat → Int32) (mf : Nat → UInt32) (K : Int32 → Unit → Prop)  : ((Int32) → Prop) → (Int32) → Prop := fun B z => vX7_safeSpeed_4b mn mf K  (fun z0 => B z0) z
def vX7_safeSpeed (mn : Nat → Int32) (mf : Nat → UInt32) (K : Int32 → Unit → Prop) : Prop :=
  ∃ k, lp (vX7_safeSpeed_4F mn mf K ) k (5000 : Int32)
set_option maxRecDepth 100000 in
set_option maxHeartbeats 4000000 in
theorem ctX7_safeSpeed (l : Launch) (G : va_G) (cy : Nat → ClassId) (a : Nat → Nat) (mn : Nat → Int32) (mf : Nat → UInt32) (mk : Nat → Int32) (mg : Nat → UInt32) (mv : Nat → Int32) (mt : Nat → Int32) (mm : Nat → Int32)  (K : Int32 → Unit → Prop) (h : vX7_safeSpeed mn mf K) : Met l yX7_safeSpeed (ws_ yX7_safeSpeed cX7_safeSpeed 3 (some .int)) ({ frames := 4, cells := 0, slots := 0, locals := 89 } : Room) (CP G cy [.ref (a 0)] (md_W cy a mn mf mk mg mv mt mm)) (RI G K (fun u => md_W cy a mn mf mk mg mv mt mm) (A1 (md_W cy a mn mf mk mg mv mt mm))) 0 0 (A1 (md_W cy a mn mf mk mg mv mt mm)) := by
  refine hd_go (Qf := fun A => (RI G K (fun u => md_W cy a mn mf mk mg mv mt mm) A)) (by decide +kernel) (Nat.le_of_ble_eq_true rfl) ?_
  intro p e s m below meth c ls A hx hb hr hlocks S hE hP hD hS hl
  have hl : lv_has ls 3 [(0, .ref (a 0))] := hl
  unfold vX7_safeSpeed at h
  have L_4 : ∀ (mn : Nat → Int32) (mf : Nat → UInt32) (k_4 : Nat) (x1 : Int32), lp (vX7_safeSpeed_4F mn mf K ) k_4 x1 → ∀ (H : Heap) (locs : List Loc) (ls : Array Slot), va_P G vwCl (md_W cy a mn mf mk mg mv mt mm) H → va_D A (md_W cy a mn mf mk mg mv mt mm) → va_S A s.heap H locs → lv_has ls 3 [(0, .ref (a 0)), (1, .int x1)] → W p l e (headSpec (ws_ yX7_safeSpeed cX7_safeSpeed 3 (some .int)) ({ frames := 4, cells := 0, slots := 0, locals := 89 } : Room)).room s m ([.ref (a 0)] : List Value).toArray below meth c H locs 0 0 (MQ below (RI G K (fun u => md_W cy a mn mf mk mg mv mt mm) A) ([.ref (a 0)] : List Value).toArray s 0 0 A) (F0 m 4 ls []) := by
    intro mn mf k_4
    induction k_4 with
    | zero => intro x1 h; exact h.elim
    | succ k_4 ih_4 =>
      have J_33 : ∀ (x1 : Int32), vX7_safeSpeed_33 mn mf x1 K (fun z0 => lp (vX7_safeSpeed_4F mn mf K ) k_4 z0) → ∀ (H : Heap) (locs : List Loc) (ls : Array Slot), va_P G vwCl (md_W cy a mn mf mk mg mv mt mm) H → va_D A (md_W cy a mn mf mk mg mv mt mm) → va_S A s.heap H locs → lv_has ls 3 [(0, .ref (a 0)), (1, .int x1)] → W p l e (headSpec (ws_ yX7_safeSpeed cX7_safeSpeed 3 (some .int)) ({ frames := 4, cells := 0, slots := 0, locals := 89 } : Room)).room s m ([.ref (a 0)] : List Value).toArray below meth c H locs 0 0 (MQ below (RI G K (fun u => md_W cy a mn mf mk mg mv mt mm) A) ([.ref (a 0)] : List Value).toArray s 0 0 A) (F0 m 33 ls []) := by
        intro x1 h H locs ls hP hD hS hl
        unfold vX7_safeSpeed_33 at h
        refine lv_iinc (v := (x1 + (-1 : Int32))) (lv' := [(1, .int (x1 + (-1 : Int32))), (0, .ref (a 0))]) hx hb dX7_safeSpeed_33 hl (k := 1) rfl (by rfl) (by decide) rfl (fun ls hl => ?_)
        refine lv_goto (tgt := 4) hx hb dX7_safeSpeed_36 (by decide) ?_
        exact ih_4 _ h _ _ _ hP hD hS (lv_sub hl [1, 0] rfl)
      intro x1 h H locs ls hP hD hS hl
      have h : vX7_safeSpeed_4b mn mf K  (fun z0 => lp (vX7_safeSpeed_4F mn mf K ) k_4 z0) x1 := h
      unfold vX7_safeSpeed_4b at h
      refine lv_iload_n hx hb dX7_safeSpeed_4 rfl (lv_at hl 1 rfl) ?_
      refine lv_if_lt (tgt := 39) hx hb dX7_safeSpeed_5 (by decide) (fun c_5 => ?_) (fun c_5 => ?_)
      · have h := h.1 c_5
        refine lv_bipush (v := (-5 : Int32)) hx hb dX7_safeSpeed_39 (by decide) ?_
        exact W.iret (v := (-5 : Int32)) hx hb hr (fun t ht hW => ⟨⟨(-5 : Int32), (), rfl, h, ⟨hp_at ht hP, hD⟩⟩, hS.F ht⟩) hS.2.2 dX7_safeSpeed_41
      · have h := h.2 c_5
        refine lv_fconst0 hx hb dX7_safeSpeed_8 ?_
        refine lv_iload_n hx hb dX7_safeSpeed_9 rfl (lv_at hl 1 rfl) ?_
        refine kc_SfE (As := [.int x1]) (rest := [.float FP.fconst0]) S hE (ctX7_thousandth l G cy   x1 _ h) q_9_8 q_9_9 q_1_5 q_9_10 ydX7_thousandth ⟨⟨rfl, rfl⟩, ⟨Nat.le_of_ble_eq_true rfl, Nat.le_of_ble_eq_true rfl⟩⟩ ⟨Nat.zero_le _, Nat.zero_le _⟩ hP hD hS (fun _ => rfl) rfl hl.1 rfl (Nat.le_of_ble_eq_true rfl) dX7_safeSpeed_10 (fun r_10 u_10 H locs h hP hD hS => ?_)
        refine lv_fsub hx hb dX7_safeSpeed_13 h.1 ?_
        have h := h.2
        refine lv_fstore_n (lv' := [(2, .float (FP.fsub FP.fconst0 r_10)), (0, .ref (a 0)), (1, .int x1)]) hx hb dX7_safeSpeed_14 rfl hl (by decide) rfl (fun ls hl => ?_)
        refine lv_aload_n hx hb dX7_safeSpeed_15 rfl (lv_at hl 1 rfl) ?_
        refine lv_fload_n hx hb dX7_safeSpeed_16 rfl (lv_at hl 0 rfl) ?_
        refine kc_Vi0 (As := [.float (FP.fsub FP.fconst0 r_10)]) (rest := []) S hE (ctX7_isTooFast l G cy a mn mf mk mg mv mt mm (FP.fsub FP.fconst0 r_10) _ h) q_9_23 q_10_0 q_10_1 q_1_5 q_10_2 rfl 0 rfl rfl ydX7_isTooFast ⟨⟨rfl, rfl⟩, ⟨Nat.le_of_ble_eq_true rfl, Nat.le_of_ble_eq_true rfl⟩⟩ ⟨Nat.zero_le _, Nat.zero_le _⟩ hP hD hS rfl hl.1 rfl (Nat.le_of_ble_eq_true rfl) dX7_safeSpeed_17 (fun r_17 u_17 H locs h hP hD hS => ?_)
        refine lv_if_ne (tgt := 33) hx hb dX7_safeSpeed_20 (by decide) (fun c_20 => ?_) (fun c_20 => ?_)
        · have h := h.1 c_20
          exact J_33 _ h _ _ _ hP hD hS (lv_sub hl [1, 2] rfl)
        · have h := h.2 c_20
          refine lv_aload_n hx hb dX7_safeSpeed_23 rfl (lv_at hl 1 rfl) ?_
          refine lv_fload_n hx hb dX7_safeSpeed_24 rfl (lv_at hl 0 rfl) ?_
          refine kc_Vi0 (As := [.float (FP.fsub FP.fconst0 r_10)]) (rest := []) S hE (ctX7_isUnsafe l G cy a mn mf mk mg mv mt mm (FP.fsub FP.fconst0 r_10) _ h) q_10_17 q_10_18 q_10_19 q_1_5 q_10_20 rfl 0 rfl rfl ydX7_isUnsafe ⟨⟨rfl, rfl⟩, ⟨Nat.le_of_ble_eq_true rfl, Nat.le_of_ble_eq_true rfl⟩⟩ ⟨Nat.zero_le _, Nat.zero_le _⟩ hP hD hS rfl hl.1 rfl (Nat.le_of_ble_eq_true rfl) dX7_safeSpeed_25 (fun r_25 u_25 H locs h hP hD hS => ?_)
          refine lv_if_ne (tgt := 33) hx hb dX7_safeSpeed_28 (by decide) (fun c_28 => ?_) (fun c_28 => ?_)
          · have h := h.1 c_28
            exact J_33 _ h _ _ _ hP hD hS (lv_sub hl [1, 2] rfl)
          · have h := h.2 c_28
            refine lv_iload_n hx hb dX7_safeSpeed_31 rfl (lv_at hl 2 rfl) ?_
            exact W.iret (v := x1) hx hb hr (fun t ht hW => ⟨⟨x1, (), rfl, h, ⟨hp_at ht hP, hD⟩⟩, hS.F ht⟩) hS.2.2 dX7_safeSpeed_32
  refine lv_sipush (v := (5000 : Int32)) hx hb dX7_safeSpeed_0 (by decide) ?_
  refine lv_istore_n (lv' := [(1, .int (5000 : Int32)), (0, .ref (a 0))]) hx hb dX7_safeSpeed_3 rfl hl (by decide) rfl (fun ls hl => ?_)
  obtain ⟨k0, h⟩ := h
  exact L_4 _ _ k0 _ h _ _ _ hP hD hS (lv_sub hl [1, 0] rfl)
