def vX0_byteAt (tm : Nat → Int32) (tx : Nat → Int32) (p1 : Int32) (K : Int32 → Unit → Prop) : Prop :=
  (p1 < (0 : Int32) → K (-5 : Int32) ()) ∧ (¬ p1 < (0 : Int32) → ((tm 0) ≤ p1 → K (-5 : Int32) ()) ∧ (¬ (tm 0) ≤ p1 → vp_in p1 80 ∧ K (tx (Int32.toNatClampNeg p1)) ()))
set_option maxRecDepth 100000 in
set_option maxHeartbeats 4000000 in
theorem ctX0_byteAt (l : Launch) (G : va_G) (cy : Nat → ClassId) (a : Nat → Nat) (tm : Nat → Int32) (tx : Nat → Int32) (p1 : Int32) (K : Int32 → Unit → Prop) (h : vX0_byteAt tm tx p1 K) : Met l yX0_byteAt (ws_ yX0_byteAt cX0_byteAt 2 (some .int)) ({ frames := 0, cells := 0, slots := 0, locals := 0 } : Room) (CP G cy [.ref (a 0), .int p1] (tx_W cy a tm tx)) (RI G K (fun u => tx_W cy a tm tx) (A1 (tx_W cy a tm tx))) 0 0 (A1 (tx_W cy a tm tx)) := by
  refine hd_go (Qf := fun A => (RI G K (fun u => tx_W cy a tm tx) A)) (by decide +kernel) (Nat.le_of_ble_eq_true rfl) ?_
  intro p e s m below meth c ls A hx hb hr hlocks S hE hP hD hS hl
  have hl : lv_has ls 2 [(0, .ref (a 0)), (1, .int p1)] := hl
  unfold vX0_byteAt at h
  refine lv_iload_n hx hb dX0_byteAt_0 rfl (lv_at hl 1 rfl) ?_
  refine lv_if_lt (tgt := 21) hx hb dX0_byteAt_1 (by decide) (fun c_1 => ?_) (fun c_1 => ?_)
  · have h := h.1 c_1
    refine lv_bipush (v := (-5 : Int32)) hx hb dX0_byteAt_21 (by decide) ?_
    exact W.iret (v := (-5 : Int32)) hx hb hr (fun t ht hW => ⟨⟨(-5 : Int32), (), rfl, h, ⟨hp_at ht hP, hD⟩⟩, hS.F ht⟩) hS.2.2 dX0_byteAt_23
  · have h := h.2 c_1
    refine lv_iload_n hx hb dX0_byteAt_4 rfl (lv_at hl 1 rfl) ?_
    refine lv_aload_n hx hb dX0_byteAt_5 rfl (lv_at hl 0 rfl) ?_
    refine kg (v := .int (tm 0)) S hE hP 0 rfl rfl 0 (by decide) q_24_16 rfl rfl inlX0 dX0_byteAt_6 ?_
    refine lv_icmp_ge (tgt := 21) hx hb dX0_byteAt_9 (by decide) (fun c_9 => ?_) (fun c_9 => ?_)
    · have h := h.1 c_9
      refine lv_bipush (v := (-5 : Int32)) hx hb dX0_byteAt_21 (by decide) ?_
      exact W.iret (v := (-5 : Int32)) hx hb hr (fun t ht hW => ⟨⟨(-5 : Int32), (), rfl, h, ⟨hp_at ht hP, hD⟩⟩, hS.F ht⟩) hS.2.2 dX0_byteAt_23
    · have h := h.2 c_9
      refine lv_aload_n hx hb dX0_byteAt_12 rfl (lv_at hl 0 rfl) ?_
      refine kg (v := .ref (a 1)) S hE hP 0 rfl rfl 1 (by decide) q_4_8 rfl rfl inlX0 dX0_byteAt_13 ?_
      refine lv_iload_n hx hb dX0_byteAt_16 rfl (lv_at hl 1 rfl) ?_
      refine kabl (v := (tx (Int32.toNatClampNeg p1))) S hE hP 1 rfl h.1 rfl rfl dX0_byteAt_17 ?_
      have h := h.2
      refine lv_goto (tgt := 23) hx hb dX0_byteAt_18 (by decide) ?_
      exact W.iret (v := (tx (Int32.toNatClampNeg p1))) hx hb hr (fun t ht hW => ⟨⟨(tx (Int32.toNatClampNeg p1)), (), rfl, h, ⟨hp_at ht hP, hD⟩⟩, hS.F ht⟩) hS.2.2 dX0_byteAt_23
def vX0_isAct_30  (K : Int32 → Unit → Prop)  : Prop :=
  K (1 : Int32) ()
def vX0_isAct (p0 : Int32) (K : Int32 → Unit → Prop) : Prop :=
  (p0 = (103 : Int32) → vX0_isAct_30  K ) ∧ (¬ p0 = (103 : Int32) → (p0 = (102 : Int32) → vX0_isAct_30  K ) ∧ (¬ p0 = (102 : Int32) → (p0 = (98 : Int32) → vX0_isAct_30  K ) ∧ (¬ p0 = (98 : Int32) → (p0 = (111 : Int32) → vX0_isAct_30  K ) ∧ (¬ p0 = (111 : Int32) → (¬ p0 = (116 : Int32) → K (0 : Int32) ()) ∧ (p0 = (116 : Int32) → vX0_isAct_30  K )))))
set_option maxRecDepth 100000 in
set_option maxHeartbeats 4000000 in
theorem ctX0_isAct (l : Launch) (G : va_G) (cy : Nat → ClassId)   (p0 : Int32) (K : Int32 → Unit → Prop) (h : vX0_isAct p0 K) : Met l yX0_isAct (ws_ yX0_isAct cX0_isAct 1 (some .boolean)) ({ frames := 0, cells := 0, slots := 0, locals := 0 } : Room) (CP G cy [.int p0] ([])) (RI G K (fun u => []) (A1 ([]))) 0 0 (A1 ([])) := by
  refine hd_go (Qf := fun A => (RI G K (fun u => []) A)) (by decide +kernel) (Nat.le_of_ble_eq_true rfl) ?_
  intro p e s m below meth c ls A hx hb hr hlocks S hE hP hD hS hl
  have hl : lv_has ls 1 [(0, .int p0)] := hl
  unfold vX0_isAct at h
  have J_30 : vX0_isAct_30  K  → ∀ (H : Heap) (locs : List Loc) (ls : Array Slot), va_P G vwCl ([]) H → va_D A ([]) → va_S A s.heap H locs → lv_has ls 1 [] → W p l e (headSpec (ws_ yX0_isAct cX0_isAct 1 (some .boolean)) ({ frames := 0, cells := 0, slots := 0, locals := 0 } : Room)).room s m ([.int p0] : List Value).toArray below meth c H locs 0 0 (MQ below (RI G K (fun u => []) A) ([.int p0] : List Value).toArray s 0 0 A) (F0 m 30 ls []) := by
    intro  h H locs ls hP hD hS hl
    unfold vX0_isAct_30 at h
    refine lv_iconst (v := (1 : Int32)) hx hb dX0_isAct_30 (by decide) ?_
    refine lv_goto (tgt := 35) hx hb dX0_isAct_31 (by decide) ?_
    exact W.zret (v := (1 : Int32)) hx hb hr (by decide +kernel) (fun t ht hW => ⟨⟨(1 : Int32), (), rfl, h, ⟨hp_at ht hP, hD⟩⟩, hS.F ht⟩) hS.2.2 dX0_isAct_35
  refine lv_iload_n hx hb dX0_isAct_0 rfl (lv_at hl 0 rfl) ?_
  refine lv_bipush (v := (103 : Int32)) hx hb dX0_isAct_1 (by decide) ?_
  refine lv_icmp_eq (tgt := 30) hx hb dX0_isAct_3 (by decide) (fun c_3 => ?_) (fun c_3 => ?_)
  · have h := h.1 c_3
    exact J_30  h _ _ _ hP hD hS (lv_sub hl [] rfl)
  · have h := h.2 c_3
    refine lv_iload_n hx hb dX0_isAct_6 rfl (lv_at hl 0 rfl) ?_
    refine lv_bipush (v := (102 : Int32)) hx hb dX0_isAct_7 (by decide) ?_
    refine lv_icmp_eq (tgt := 30) hx hb dX0_isAct_9 (by decide) (fun c_9 => ?_) (fun c_9 => ?_)
    · have h := h.1 c_9
      exact J_30  h _ _ _ hP hD hS (lv_sub hl [] rfl)
    · have h := h.2 c_9
      refine lv_iload_n hx hb dX0_isAct_12 rfl (lv_at hl 0 rfl) ?_
      refine lv_bipush (v := (98 : Int32)) hx hb dX0_isAct_13 (by decide) ?_
      refine lv_icmp_eq (tgt := 30) hx hb dX0_isAct_15 (by decide) (fun c_15 => ?_) (fun c_15 => ?_)
      · have h := h.1 c_15
        exact J_30  h _ _ _ hP hD hS (lv_sub hl [] rfl)
      · have h := h.2 c_15
        refine lv_iload_n hx hb dX0_isAct_18 rfl (lv_at hl 0 rfl) ?_
        refine lv_bipush (v := (111 : Int32)) hx hb dX0_isAct_19 (by decide) ?_
        refine lv_icmp_eq (tgt := 30) hx hb dX0_isAct_21 (by decide) (fun c_21 => ?_) (fun c_21 => ?_)
        · have h := h.1 c_21
          exact J_30  h _ _ _ hP hD hS (lv_sub hl [] rfl)
        · have h := h.2 c_21
          refine lv_iload_n hx hb dX0_isAct_24 rfl (lv_at hl 0 rfl) ?_
          refine lv_bipush (v := (116 : Int32)) hx hb dX0_isAct_25 (by decide) ?_
          refine lv_icmp_ne (tgt := 34) hx hb dX0_isAct_27 (by decide) (fun c_27 => ?_) (fun c_27 => ?_)
          · have h := h.1 c_27
            refine lv_iconst (v := (0 : Int32)) hx hb dX0_isAct_34 (by decide) ?_
            exact W.zret (v := (0 : Int32)) hx hb hr (by decide +kernel) (fun t ht hW => ⟨⟨(0 : Int32), (), rfl, h, ⟨hp_at ht hP, hD⟩⟩, hS.F ht⟩) hS.2.2 dX0_isAct_35
          · have h := h.2 c_27
            exact J_30  h _ _ _ hP hD hS (lv_sub hl [] rfl)
def vX0_isDigit (p0 : Int32) (K : Int32 → Unit → Prop) : Prop :=
  (p0 < (48 : Int32) → K (0 : Int32) ()) ∧ (¬ p0 < (48 : Int32) → ((57 : Int32) < p0 → K (0 : Int32) ()) ∧ (¬ (57 : Int32) < p0 → K (1 : Int32) ()))
set_option maxRecDepth 100000 in
set_option maxHeartbeats 4000000 in
theorem ctX0_isDigit (l : Launch) (G : va_G) (cy : Nat → ClassId)   (p0 : Int32) (K : Int32 → Unit → Prop) (h : vX0_isDigit p0 K) : Met l yX0_isDigit (ws_ yX0_isDigit cX0_isDigit 1 (some .boolean)) ({ frames := 0, cells := 0, slots := 0, locals := 0 } : Room) (CP G cy [.int p0] ([])) (RI G K (fun u => []) (A1 ([]))) 0 0 (A1 ([])) := by
  refine hd_go (Qf := fun A => (RI G K (fun u => []) A)) (by decide +kernel) (Nat.le_of_ble_eq_true rfl) ?_
  intro p e s m below meth c ls A hx hb hr hlocks S hE hP hD hS hl
  have hl : lv_has ls 1 [(0, .int p0)] := hl
  unfold vX0_isDigit at h
  refine lv_iload_n hx hb dX0_isDigit_0 rfl (lv_at hl 0 rfl) ?_
  refine lv_bipush (v := (48 : Int32)) hx hb dX0_isDigit_1 (by decide) ?_
  refine lv_icmp_lt (tgt := 16) hx hb dX0_isDigit_3 (by decide) (fun c_3 => ?_) (fun c_3 => ?_)
  · have h := h.1 c_3
    refine lv_iconst (v := (0 : Int32)) hx hb dX0_isDigit_16 (by decide) ?_
    exact W.zret (v := (0 : Int32)) hx hb hr (by decide +kernel) (fun t ht hW => ⟨⟨(0 : Int32), (), rfl, h, ⟨hp_at ht hP, hD⟩⟩, hS.F ht⟩) hS.2.2 dX0_isDigit_17
  · have h := h.2 c_3
    refine lv_iload_n hx hb dX0_isDigit_6 rfl (lv_at hl 0 rfl) ?_
    refine lv_bipush (v := (57 : Int32)) hx hb dX0_isDigit_7 (by decide) ?_
    refine lv_icmp_gt (tgt := 16) hx hb dX0_isDigit_9 (by decide) (fun c_9 => ?_) (fun c_9 => ?_)
    · have h := h.1 c_9
      refine lv_iconst (v := (0 : Int32)) hx hb dX0_isDigit_16 (by decide) ?_
      exact W.zret (v := (0 : Int32)) hx hb hr (by decide +kernel) (fun t ht hW => ⟨⟨(0 : Int32), (), rfl, h, ⟨hp_at ht hP, hD⟩⟩, hS.F ht⟩) hS.2.2 dX0_isDigit_17
    · have h := h.2 c_9
      refine lv_iconst (v := (1 : Int32)) hx hb dX0_isDigit_12 (by decide) ?_
      refine lv_goto (tgt := 17) hx hb dX0_isDigit_13 (by decide) ?_
      exact W.zret (v := (1 : Int32)) hx hb hr (by decide +kernel) (fun t ht hW => ⟨⟨(1 : Int32), (), rfl, h, ⟨hp_at ht hP, hD⟩⟩, hS.F ht⟩) hS.2.2 dX0_isDigit_17
def vX0_digitsAt_14b (tm : Nat → Int32) (tx : Nat → Int32) (x1 : Int32) (K : Int32 → Unit → Prop)  (B14 : Int32 → Prop) (x2 : Int32) : Prop :=
  ((3 : Int32) ≤ x2 → K x2 ()) ∧ (¬ (3 : Int32) ≤ x2 → vX0_byteAt tm tx (x1 + x2) (fun r_23 u_23 => vX0_isDigit r_23 (fun r_26 u_26 => (r_26 = (0 : Int32) → K x2 ()) ∧ (¬ r_26 = (0 : Int32) → B14 (x2 + (1 : Int32))))))
def vX0_digitsAt_14F (tm : Nat → Int32) (tx : Nat → Int32) (x1 : Int32) (K : Int32 → Unit → Prop)  : ((Int32) → Prop) → (Int32) → Prop := fun B z => vX0_digitsAt_14b tm tx x1 K  (fun z0 => B z0) z
def vX0_digitsAt (tm : Nat → Int32) (tx : Nat → Int32) (p1 : Int32) (K : Int32 → Unit → Prop) : Prop :=
  vX0_byteAt tm tx p1 (fun r_2 u_2 => (¬ r_2 = (48 : Int32) → ∃ k, lp (vX0_digitsAt_14F tm tx p1 K ) k (0 : Int32)) ∧ (r_2 = (48 : Int32) → K (1 : Int32) ()))
set_option maxRecDepth 100000 in
set_option maxHeartbeats 4000000 in
theorem ctX0_digitsAt (l : Launch) (G : va_G) (cy : Nat → ClassId) (a : Nat → Nat) (tm : Nat → Int32) (tx : Nat → Int32) (p1 : Int32) (K : Int32 → Unit → Prop) (h : vX0_digitsAt tm tx p1 K) : Met l yX0_digitsAt (ws_ yX0_digitsAt cX0_digitsAt 3 (some .int)) ({ frames := 1, cells := 0, slots := 0, locals := 21 } : Room) (CP G cy [.ref (a 0), .int p1] (tx_W cy a tm tx)) (RI G K (fun u => tx_W cy a tm tx) (A1 (tx_W cy a tm tx))) 0 0 (A1 (tx_W cy a tm tx)) := by
  refine hd_go (Qf := fun A => (RI G K (fun u => tx_W cy a tm tx) A)) (by decide +kernel) (Nat.le_of_ble_eq_true rfl) ?_
  intro p e s m below meth c ls A hx hb hr hlocks S hE hP hD hS hl
  have hl : lv_has ls 3 [(0, .ref (a 0)), (1, .int p1)] := hl
  unfold vX0_digitsAt at h
  have L_14 : ∀ (tm : Nat → Int32) (tx : Nat → Int32) (x1 : Int32) (k_14 : Nat) (x2 : Int32), lp (vX0_digitsAt_14F tm tx x1 K ) k_14 x2 → ∀ (H : Heap) (locs : List Loc) (ls : Array Slot), va_P G vwCl (tx_W cy a tm tx) H → va_D A (tx_W cy a tm tx) → va_S A s.heap H locs → lv_has ls 3 [(0, .ref (a 0)), (1, .int x1), (2, .int x2)] → W p l e (headSpec (ws_ yX0_digitsAt cX0_digitsAt 3 (some .int)) ({ frames := 1, cells := 0, slots := 0, locals := 21 } : Room)).room s m ([.ref (a 0), .int p1] : List Value).toArray below meth c H locs 0 0 (MQ below (RI G K (fun u => tx_W cy a tm tx) A) ([.ref (a 0), .int p1] : List Value).toArray s 0 0 A) (F0 m 14 ls []) := by
    intro tm tx x1 k_14
    induction k_14 with
    | zero => intro x2 h; exact h.elim
    | succ k_14 ih_14 =>
      intro x2 h H locs ls hP hD hS hl
      have h : vX0_digitsAt_14b tm tx x1 K  (fun z0 => lp (vX0_digitsAt_14F tm tx x1 K ) k_14 z0) x2 := h
      unfold vX0_digitsAt_14b at h
      refine lv_iload_n hx hb dX0_digitsAt_14 rfl (lv_at hl 2 rfl) ?_
      refine lv_iconst (v := (3 : Int32)) hx hb dX0_digitsAt_15 (by decide) ?_
      refine lv_icmp_ge (tgt := 38) hx hb dX0_digitsAt_16 (by decide) (fun c_16 => ?_) (fun c_16 => ?_)
      · have h := h.1 c_16
        refine lv_iload_n hx hb dX0_digitsAt_38 rfl (lv_at hl 2 rfl) ?_
        exact W.iret (v := x2) hx hb hr (fun t ht hW => ⟨⟨x2, (), rfl, h, ⟨hp_at ht hP, hD⟩⟩, hS.F ht⟩) hS.2.2 dX0_digitsAt_39
      · have h := h.2 c_16
        refine lv_aload_n hx hb dX0_digitsAt_19 rfl (lv_at hl 0 rfl) ?_
        refine lv_iload_n hx hb dX0_digitsAt_20 rfl (lv_at hl 1 rfl) ?_
        refine lv_iload_n hx hb dX0_digitsAt_21 rfl (lv_at hl 2 rfl) ?_
        refine lv_iadd hx hb dX0_digitsAt_22 ?_
        refine kc_Vi0 (As := [.int (x1 + x2)]) (rest := []) S hE (ctX0_byteAt l G cy a tm tx (x1 + x2) _ h) q_24_17 q_24_18 q_24_19 q_2_2 q_24_20 rfl 0 rfl rfl ydX0_byteAt ⟨⟨rfl, rfl⟩, ⟨Nat.le_of_ble_eq_true rfl, Nat.le_of_ble_eq_true rfl⟩⟩ ⟨Nat.zero_le _, Nat.zero_le _⟩ hP hD hS rfl hl.1 rfl (Nat.le_of_ble_eq_true rfl) dX0_digitsAt_23 (fun r_23 u_23 H locs h hP hD hS => ?_)
        refine kc_SiE (As := [.int r_23]) (rest := []) S hE (ctX0_isDigit l G cy   r_23 _ h) q_25_4 q_25_5 q_2_2 q_25_6 ydX0_isDigit ⟨⟨rfl, rfl⟩, ⟨Nat.le_of_ble_eq_true rfl, Nat.le_of_ble_eq_true rfl⟩⟩ ⟨Nat.zero_le _, Nat.zero_le _⟩ hP hD hS (fun _ => rfl) rfl hl.1 rfl (Nat.le_of_ble_eq_true rfl) dX0_digitsAt_26 (fun r_26 u_26 H locs h hP hD hS => ?_)
        refine lv_if_eq (tgt := 38) hx hb dX0_digitsAt_29 (by decide) (fun c_29 => ?_) (fun c_29 => ?_)
        · have h := h.1 c_29
          refine lv_iload_n hx hb dX0_digitsAt_38 rfl (lv_at hl 2 rfl) ?_
          exact W.iret (v := x2) hx hb hr (fun t ht hW => ⟨⟨x2, (), rfl, h, ⟨hp_at ht hP, hD⟩⟩, hS.F ht⟩) hS.2.2 dX0_digitsAt_39
        · have h := h.2 c_29
          refine lv_iinc (v := (x2 + (1 : Int32))) (lv' := [(2, .int (x2 + (1 : Int32))), (0, .ref (a 0)), (1, .int x1)]) hx hb dX0_digitsAt_32 hl (k := 2) rfl (by rfl) (by decide) rfl (fun ls hl => ?_)
          refine lv_goto (tgt := 14) hx hb dX0_digitsAt_35 (by decide) ?_
          exact ih_14 _ h _ _ _ hP hD hS (lv_sub hl [1, 2, 0] rfl)
  refine lv_aload_n hx hb dX0_digitsAt_0 rfl (lv_at hl 0 rfl) ?_
  refine lv_iload_n hx hb dX0_digitsAt_1 rfl (lv_at hl 1 rfl) ?_
  refine kc_Vi0 (As := [.int p1]) (rest := []) S hE (ctX0_byteAt l G cy a tm tx p1 _ h) q_24_17 q_24_18 q_24_19 q_2_2 q_24_20 rfl 0 rfl rfl ydX0_byteAt ⟨⟨rfl, rfl⟩, ⟨Nat.le_of_ble_eq_true rfl, Nat.le_of_ble_eq_true rfl⟩⟩ ⟨Nat.zero_le _, Nat.zero_le _⟩ hP hD hS rfl hl.1 rfl (Nat.le_of_ble_eq_true rfl) dX0_digitsAt_2 (fun r_2 u_2 H locs h hP hD hS => ?_)
  refine lv_bipush (v := (48 : Int32)) hx hb dX0_digitsAt_5 (by decide) ?_
  refine lv_icmp_ne (tgt := 12) hx hb dX0_digitsAt_7 (by decide) (fun c_7 => ?_) (fun c_7 => ?_)
  · have h := h.1 c_7
    refine lv_iconst (v := (0 : Int32)) hx hb dX0_digitsAt_12 (by decide) ?_
    refine lv_istore_n (lv' := [(2, .int (0 : Int32)), (0, .ref (a 0)), (1, .int p1)]) hx hb dX0_digitsAt_13 rfl hl (by decide) rfl (fun ls hl => ?_)
    obtain ⟨k0, h⟩ := h
    exact L_14 _ _ _ k0 _ h _ _ _ hP hD hS (lv_sub hl [1, 2, 0] rfl)
  · have h := h.2 c_7
    refine lv_iconst (v := (1 : Int32)) hx hb dX0_digitsAt_10 (by decide) ?_
    exact W.iret (v := (1 : Int32)) hx hb hr (fun t ht hW => ⟨⟨(1 : Int32), (), rfl, h, ⟨hp_at ht hP, hD⟩⟩, hS.F ht⟩) hS.2.2 dX0_digitsAt_11
def vX0_numberAt_11b (tm : Nat → Int32) (tx : Nat → Int32) (x1 : Int32) (x2 : Int32) (K : Int32 → Unit → Prop)  (B11 : Int32 → Int32 → Prop) (x3 : Int32) (x4 : Int32) : Prop :=
  (x2 ≤ x4 → K x3 ()) ∧ (¬ x2 ≤ x4 → vX0_byteAt tm tx (x1 + x4) (fun r_26 u_26 => B11 (((x3 * (10 : Int32)) + r_26) - (48 : Int32)) (x4 + (1 : Int32))))
def vX0_numberAt_11F (tm : Nat → Int32) (tx : Nat → Int32) (x1 : Int32) (x2 : Int32) (K : Int32 → Unit → Prop)  : ((Int32 × Int32) → Prop) → (Int32 × Int32) → Prop := fun B z => vX0_numberAt_11b tm tx x1 x2 K  (fun z0 z1 => B (z0, z1)) z.1 z.2
def vX0_numberAt (tm : Nat → Int32) (tx : Nat → Int32) (p1 : Int32) (K : Int32 → Unit → Prop) : Prop :=
  vX0_digitsAt tm tx p1 (fun r_2 u_2 => ∃ k, lp (vX0_numberAt_11F tm tx p1 r_2 K ) k ((0 : Int32), (0 : Int32)))
set_option maxRecDepth 100000 in
set_option maxHeartbeats 4000000 in
theorem ctX0_numberAt (l : Launch) (G : va_G) (cy : Nat → ClassId) (a : Nat → Nat) (tm : Nat → Int32) (tx : Nat → Int32) (p1 : Int32) (K : Int32 → Unit → Prop) (h : vX0_numberAt tm tx p1 K) : Met l yX0_numberAt (ws_ yX0_numberAt cX0_numberAt 5 (some .int)) ({ frames := 2, cells := 0, slots := 0, locals := 43 } : Room) (CP G cy [.ref (a 0), .int p1] (tx_W cy a tm tx)) (RI G K (fun u => tx_W cy a tm tx) (A1 (tx_W cy a tm tx))) 0 0 (A1 (tx_W cy a tm tx)) := by
  refine hd_go (Qf := fun A => (RI G K (fun u => tx_W cy a tm tx) A)) (by decide +kernel) (Nat.le_of_ble_eq_true rfl) ?_
  intro p e s m below meth c ls A hx hb hr hlocks S hE hP hD hS hl
  have hl : lv_has ls 5 [(0, .ref (a 0)), (1, .int p1)] := hl
  unfold vX0_numberAt at h
  have L_11 : ∀ (tm : Nat → Int32) (tx : Nat → Int32) (x1 : Int32) (x2 : Int32) (k_11 : Nat) (x3 : Int32) (x4 : Int32), lp (vX0_numberAt_11F tm tx x1 x2 K ) k_11 (x3, x4) → ∀ (H : Heap) (locs : List Loc) (ls : Array Slot), va_P G vwCl (tx_W cy a tm tx) H → va_D A (tx_W cy a tm tx) → va_S A s.heap H locs → lv_has ls 5 [(0, .ref (a 0)), (1, .int x1), (2, .int x2), (3, .int x3), (4, .int x4)] → W p l e (headSpec (ws_ yX0_numberAt cX0_numberAt 5 (some .int)) ({ frames := 2, cells := 0, slots := 0, locals := 43 } : Room)).room s m ([.ref (a 0), .int p1] : List Value).toArray below meth c H locs 0 0 (MQ below (RI G K (fun u => tx_W cy a tm tx) A) ([.ref (a 0), .int p1] : List Value).toArray s 0 0 A) (F0 m 11 ls []) := by
    intro tm tx x1 x2 k_11
    induction k_11 with
    | zero => intro x3 x4 h; exact h.elim
    | succ k_11 ih_11 =>
      intro x3 x4 h H locs ls hP hD hS hl
      have h : vX0_numberAt_11b tm tx x1 x2 K  (fun z0 z1 => lp (vX0_numberAt_11F tm tx x1 x2 K ) k_11 (z0, z1)) x3 x4 := h
      unfold vX0_numberAt_11b at h
      refine lv_iload hx hb dX0_numberAt_11 (lv_at hl 4 rfl) ?_
      refine lv_iload_n hx hb dX0_numberAt_13 rfl (lv_at hl 2 rfl) ?_
      refine lv_icmp_ge (tgt := 40) hx hb dX0_numberAt_14 (by decide) (fun c_14 => ?_) (fun c_14 => ?_)
      · have h := h.1 c_14
        refine lv_iload_n hx hb dX0_numberAt_40 rfl (lv_at hl 3 rfl) ?_
        exact W.iret (v := x3) hx hb hr (fun t ht hW => ⟨⟨x3, (), rfl, h, ⟨hp_at ht hP, hD⟩⟩, hS.F ht⟩) hS.2.2 dX0_numberAt_41
      · have h := h.2 c_14
        refine lv_iload_n hx hb dX0_numberAt_17 rfl (lv_at hl 3 rfl) ?_
        refine lv_bipush (v := (10 : Int32)) hx hb dX0_numberAt_18 (by decide) ?_
        refine lv_imul hx hb dX0_numberAt_20 ?_
        refine lv_aload_n hx hb dX0_numberAt_21 rfl (lv_at hl 0 rfl) ?_
        refine lv_iload_n hx hb dX0_numberAt_22 rfl (lv_at hl 1 rfl) ?_
        refine lv_iload hx hb dX0_numberAt_23 (lv_at hl 4 rfl) ?_
        refine lv_iadd hx hb dX0_numberAt_25 ?_
        refine kc_Vi0 (As := [.int (x1 + x4)]) (rest := [.int (x3 * (10 : Int32))]) S hE (ctX0_byteAt l G cy a tm tx (x1 + x4) _ h) q_24_17 q_24_18 q_24_19 q_2_2 q_24_20 rfl 0 rfl rfl ydX0_byteAt ⟨⟨rfl, rfl⟩, ⟨Nat.le_of_ble_eq_true rfl, Nat.le_of_ble_eq_true rfl⟩⟩ ⟨Nat.zero_le _, Nat.zero_le _⟩ hP hD hS rfl hl.1 rfl (Nat.le_of_ble_eq_true rfl) dX0_numberAt_26 (fun r_26 u_26 H locs h hP hD hS => ?_)
        refine lv_iadd hx hb dX0_numberAt_29 ?_
        refine lv_bipush (v := (48 : Int32)) hx hb dX0_numberAt_30 (by decide) ?_
        refine lv_isub hx hb dX0_numberAt_32 ?_
        refine lv_istore_n (lv' := [(3, .int (((x3 * (10 : Int32)) + r_26) - (48 : Int32))), (0, .ref (a 0)), (1, .int x1), (2, .int x2), (4, .int x4)]) hx hb dX0_numberAt_33 rfl hl (by decide) rfl (fun ls hl => ?_)
        refine lv_iinc (v := (x4 + (1 : Int32))) (lv' := [(4, .int (x4 + (1 : Int32))), (3, .int (((x3 * (10 : Int32)) + r_26) - (48 : Int32))), (0, .ref (a 0)), (1, .int x1), (2, .int x2)]) hx hb dX0_numberAt_34 hl (k := 4) rfl (by rfl) (by decide) rfl (fun ls hl => ?_)
        refine lv_goto (tgt := 11) hx hb dX0_numberAt_37 (by decide) ?_
        exact ih_11 _ _ h _ _ _ hP hD hS (lv_sub hl [2, 3, 4, 1, 0] rfl)
  refine lv_aload_n hx hb dX0_numberAt_0 rfl (lv_at hl 0 rfl) ?_
  refine lv_iload_n hx hb dX0_numberAt_1 rfl (lv_at hl 1 rfl) ?_
  refine kc_Vi0 (As := [.int p1]) (rest := []) S hE (ctX0_digitsAt l G cy a tm tx p1 _ h) q_25_0 q_25_1 q_25_2 q_2_2 q_25_3 rfl 0 rfl rfl ydX0_digitsAt ⟨⟨rfl, rfl⟩, ⟨Nat.le_of_ble_eq_true rfl, Nat.le_of_ble_eq_true rfl⟩⟩ ⟨Nat.zero_le _, Nat.zero_le _⟩ hP hD hS rfl hl.1 rfl (Nat.le_of_ble_eq_true rfl) dX0_numberAt_2 (fun r_2 u_2 H locs h hP hD hS => ?_)
  refine lv_istore_n (lv' := [(2, .int r_2), (0, .ref (a 0)), (1, .int p1)]) hx hb dX0_numberAt_5 rfl hl (by decide) rfl (fun ls hl => ?_)
  refine lv_iconst (v := (0 : Int32)) hx hb dX0_numberAt_6 (by decide) ?_
  refine lv_istore_n (lv' := [(3, .int (0 : Int32)), (2, .int r_2), (0, .ref (a 0)), (1, .int p1)]) hx hb dX0_numberAt_7 rfl hl (by decide) rfl (fun ls hl => ?_)
  refine lv_iconst (v := (0 : Int32)) hx hb dX0_numberAt_8 (by decide) ?_
  refine lv_istore (lv' := [(4, .int (0 : Int32)), (3, .int (0 : Int32)), (2, .int r_2), (0, .ref (a 0)), (1, .int p1)]) hx hb dX0_numberAt_9 hl (by decide) rfl (fun ls hl => ?_)
  obtain ⟨k0, h⟩ := h
  exact L_11 _ _ _ _ k0 _ _ h _ _ _ hP hD hS (lv_sub hl [3, 4, 2, 1, 0] rfl)
def vX0_isInRange (p0 : Int32) (p1 : Int32) (K : Int32 → Unit → Prop) : Prop :=
  (¬ p0 = (111 : Int32) → (p1 < (1 : Int32) → K (0 : Int32) ()) ∧ (¬ p1 < (1 : Int32) → ((200 : Int32) < p1 → K (0 : Int32) ()) ∧ (¬ (200 : Int32) < p1 → K (1 : Int32) ()))) ∧ (p0 = (111 : Int32) → ((4 : Int32) ≤ p1 → K (0 : Int32) ()) ∧ (¬ (4 : Int32) ≤ p1 → K (1 : Int32) ()))
set_option maxRecDepth 100000 in
set_option maxHeartbeats 4000000 in
theorem ctX0_isInRange (l : Launch) (G : va_G) (cy : Nat → ClassId)   (p0 : Int32) (p1 : Int32) (K : Int32 → Unit → Prop) (h : vX0_isInRange p0 p1 K) : Met l yX0_isInRange (ws_ yX0_isInRange cX0_isInRange 2 (some .boolean)) ({ frames := 0, cells := 0, slots := 0, locals := 0 } : Room) (CP G cy [.int p0, .int p1] ([])) (RI G K (fun u => []) (A1 ([]))) 0 0 (A1 ([])) := by
  refine hd_go (Qf := fun A => (RI G K (fun u => []) A)) (by decide +kernel) (Nat.le_of_ble_eq_true rfl) ?_
  intro p e s m below meth c ls A hx hb hr hlocks S hE hP hD hS hl
  have hl : lv_has ls 2 [(0, .int p0), (1, .int p1)] := hl
  unfold vX0_isInRange at h
  refine lv_iload_n hx hb dX0_isInRange_0 rfl (lv_at hl 0 rfl) ?_
  refine lv_bipush (v := (111 : Int32)) hx hb dX0_isInRange_1 (by decide) ?_
  refine lv_icmp_ne (tgt := 19) hx hb dX0_isInRange_3 (by decide) (fun c_3 => ?_) (fun c_3 => ?_)
  · have h := h.1 c_3
    refine lv_iload_n hx hb dX0_isInRange_19 rfl (lv_at hl 1 rfl) ?_
    refine lv_iconst (v := (1 : Int32)) hx hb dX0_isInRange_20 (by decide) ?_
    refine lv_icmp_lt (tgt := 35) hx hb dX0_isInRange_21 (by decide) (fun c_21 => ?_) (fun c_21 => ?_)
    · have h := h.1 c_21
      refine lv_iconst (v := (0 : Int32)) hx hb dX0_isInRange_35 (by decide) ?_
      exact W.zret (v := (0 : Int32)) hx hb hr (by decide +kernel) (fun t ht hW => ⟨⟨(0 : Int32), (), rfl, h, ⟨hp_at ht hP, hD⟩⟩, hS.F ht⟩) hS.2.2 dX0_isInRange_36
    · have h := h.2 c_21
      refine lv_iload_n hx hb dX0_isInRange_24 rfl (lv_at hl 1 rfl) ?_
      refine lv_sipush (v := (200 : Int32)) hx hb dX0_isInRange_25 (by decide) ?_
      refine lv_icmp_gt (tgt := 35) hx hb dX0_isInRange_28 (by decide) (fun c_28 => ?_) (fun c_28 => ?_)
      · have h := h.1 c_28
        refine lv_iconst (v := (0 : Int32)) hx hb dX0_isInRange_35 (by decide) ?_
        exact W.zret (v := (0 : Int32)) hx hb hr (by decide +kernel) (fun t ht hW => ⟨⟨(0 : Int32), (), rfl, h, ⟨hp_at ht hP, hD⟩⟩, hS.F ht⟩) hS.2.2 dX0_isInRange_36
      · have h := h.2 c_28
        refine lv_iconst (v := (1 : Int32)) hx hb dX0_isInRange_31 (by decide) ?_
        refine lv_goto (tgt := 36) hx hb dX0_isInRange_32 (by decide) ?_
        exact W.zret (v := (1 : Int32)) hx hb hr (by decide +kernel) (fun t ht hW => ⟨⟨(1 : Int32), (), rfl, h, ⟨hp_at ht hP, hD⟩⟩, hS.F ht⟩) hS.2.2 dX0_isInRange_36
  · have h := h.2 c_3
    refine lv_iload_n hx hb dX0_isInRange_6 rfl (lv_at hl 1 rfl) ?_
    refine lv_iconst (v := (4 : Int32)) hx hb dX0_isInRange_7 (by decide) ?_
    refine lv_icmp_ge (tgt := 15) hx hb dX0_isInRange_8 (by decide) (fun c_8 => ?_) (fun c_8 => ?_)
    · have h := h.1 c_8
      refine lv_iconst (v := (0 : Int32)) hx hb dX0_isInRange_15 (by decide) ?_
      refine lv_goto (tgt := 36) hx hb dX0_isInRange_16 (by decide) ?_
      exact W.zret (v := (0 : Int32)) hx hb hr (by decide +kernel) (fun t ht hW => ⟨⟨(0 : Int32), (), rfl, h, ⟨hp_at ht hP, hD⟩⟩, hS.F ht⟩) hS.2.2 dX0_isInRange_36
    · have h := h.2 c_8
      refine lv_iconst (v := (1 : Int32)) hx hb dX0_isInRange_11 (by decide) ?_
      refine lv_goto (tgt := 36) hx hb dX0_isInRange_12 (by decide) ?_
      exact W.zret (v := (1 : Int32)) hx hb hr (by decide +kernel) (fun t ht hW => ⟨⟨(1 : Int32), (), rfl, h, ⟨hp_at ht hP, hD⟩⟩, hS.F ht⟩) hS.2.2 dX0_isInRange_36
def vX0_fault_65 (tm : Nat → Int32) (tx : Nat → Int32) (x1 : Int32) (K : Int32 → Unit → Prop)  : Prop :=
  K (x1 + (1 : Int32)) ()
def vX0_fault_69 (tm : Nat → Int32) (tx : Nat → Int32) (x1 : Int32) (x3 : Int32) (K : Int32 → Unit → Prop) (B2 : Int32 → Prop) : Prop :=
  vX0_byteAt tm tx ((x1 + (1 : Int32)) + x3) (fun r_79 u_79 => (r_79 = (59 : Int32) → B2 (((x1 + (1 : Int32)) + x3) + (1 : Int32))) ∧ (¬ r_79 = (59 : Int32) → K ((x1 + (1 : Int32)) + x3) ()))
def vX0_fault_39 (tm : Nat → Int32) (tx : Nat → Int32) (x1 : Int32) (x2 : Int32) (K : Int32 → Unit → Prop) (B2 : Int32 → Prop) : Prop :=
  vX0_digitsAt tm tx (x1 + (1 : Int32)) (fun r_43 u_43 => (r_43 = (0 : Int32) → vX0_fault_65 tm tx x1 K ) ∧ (¬ r_43 = (0 : Int32) → vX0_numberAt tm tx (x1 + (1 : Int32)) (fun r_56 u_56 => vX0_isInRange x2 r_56 (fun r_59 u_59 => (¬ r_59 = (0 : Int32) → vX0_fault_69 tm tx x1 r_43 K B2) ∧ (r_59 = (0 : Int32) → vX0_fault_65 tm tx x1 K )))))
def vX0_fault_2b (tm : Nat → Int32) (tx : Nat → Int32) (K : Int32 → Unit → Prop)  (B2 : Int32 → Prop) (x1 : Int32) : Prop :=
  ((tm 0) ≤ x1 → K (-5 : Int32) ()) ∧ (¬ (tm 0) ≤ x1 → vX0_byteAt tm tx x1 (fun r_12 u_12 => vX0_isAct r_12 (fun r_17 u_17 => (¬ r_17 = (0 : Int32) → (r_12 = (111 : Int32) → vX0_fault_39 tm tx x1 r_12 K B2) ∧ (¬ r_12 = (111 : Int32) → (¬ r_12 = (116 : Int32) → vX0_fault_69 tm tx x1 (0 : Int32) K B2) ∧ (r_12 = (116 : Int32) → vX0_fault_39 tm tx x1 r_12 K B2))) ∧ (r_17 = (0 : Int32) → K x1 ()))))
def vX0_fault_2F (tm : Nat → Int32) (tx : Nat → Int32) (K : Int32 → Unit → Prop)  : ((Int32) → Prop) → (Int32) → Prop := fun B z => vX0_fault_2b tm tx K  (fun z0 => B z0) z
def vX0_fault (tm : Nat → Int32) (tx : Nat → Int32) (K : Int32 → Unit → Prop) : Prop :=
  ∃ k, lp (vX0_fault_2F tm tx K ) k (0 : Int32)
set_option maxRecDepth 100000 in
set_option maxHeartbeats 4000000 in
theorem ctX0_fault (l : Launch) (G : va_G) (cy : Nat → ClassId) (a : Nat → Nat) (tm : Nat → Int32) (tx : Nat → Int32)  (K : Int32 → Unit → Prop) (h : vX0_fault tm tx K) : Met l yX0_fault (ws_ yX0_fault cX0_fault 5 (some .int)) ({ frames := 3, cells := 0, slots := 0, locals := 67 } : Room) (CP G cy [.ref (a 0)] (tx_W cy a tm tx)) (RI G K (fun u => tx_W cy a tm tx) (A1 (tx_W cy a tm tx))) 0 0 (A1 (tx_W cy a tm tx)) := by
  refine hd_go (Qf := fun A => (RI G K (fun u => tx_W cy a tm tx) A)) (by decide +kernel) (Nat.le_of_ble_eq_true rfl) ?_
  intro p e s m below meth c ls A hx hb hr hlocks S hE hP hD hS hl
  have hl : lv_has ls 5 [(0, .ref (a 0))] := hl
  unfold vX0_fault at h
  have J_65 : ∀ (tm : Nat → Int32) (tx : Nat → Int32) (x1 : Int32), vX0_fault_65 tm tx x1 K  → ∀ (H : Heap) (locs : List Loc) (ls : Array Slot), va_P G vwCl (tx_W cy a tm tx) H → va_D A (tx_W cy a tm tx) → va_S A s.heap H locs → lv_has ls 5 [(1, .int x1)] → W p l e (headSpec (ws_ yX0_fault cX0_fault 5 (some .int)) ({ frames := 3, cells := 0, slots := 0, locals := 67 } : Room)).room s m ([.ref (a 0)] : List Value).toArray below meth c H locs 0 0 (MQ below (RI G K (fun u => tx_W cy a tm tx) A) ([.ref (a 0)] : List Value).toArray s 0 0 A) (F0 m 65 ls []) := by
    intro tm tx x1 h H locs ls hP hD hS hl
    unfold vX0_fault_65 at h
    refine lv_iload_n hx hb dX0_fault_65 rfl (lv_at hl 0 rfl) ?_
    refine lv_iconst (v := (1 : Int32)) hx hb dX0_fault_66 (by decide) ?_
    refine lv_iadd hx hb dX0_fault_67 ?_
    exact W.iret (v := (x1 + (1 : Int32))) hx hb hr (fun t ht hW => ⟨⟨(x1 + (1 : Int32)), (), rfl, h, ⟨hp_at ht hP, hD⟩⟩, hS.F ht⟩) hS.2.2 dX0_fault_68
  have L_2 : ∀ (tm : Nat → Int32) (tx : Nat → Int32) (k_2 : Nat) (x1 : Int32), lp (vX0_fault_2F tm tx K ) k_2 x1 → ∀ (H : Heap) (locs : List Loc) (ls : Array Slot), va_P G vwCl (tx_W cy a tm tx) H → va_D A (tx_W cy a tm tx) → va_S A s.heap H locs → lv_has ls 5 [(0, .ref (a 0)), (1, .int x1)] → W p l e (headSpec (ws_ yX0_fault cX0_fault 5 (some .int)) ({ frames := 3, cells := 0, slots := 0, locals := 67 } : Room)).room s m ([.ref (a 0)] : List Value).toArray below meth c H locs 0 0 (MQ below (RI G K (fun u => tx_W cy a tm tx) A) ([.ref (a 0)] : List Value).toArray s 0 0 A) (F0 m 2 ls []) := by
    intro tm tx k_2
    induction k_2 with
    | zero => intro x1 h; exact h.elim
    | succ k_2 ih_2 =>
      have J_69 : ∀ (x1 : Int32) (x3 : Int32), vX0_fault_69 tm tx x1 x3 K (fun z0 => lp (vX0_fault_2F tm tx K ) k_2 z0) → ∀ (H : Heap) (locs : List Loc) (ls : Array Slot), va_P G vwCl (tx_W cy a tm tx) H → va_D A (tx_W cy a tm tx) → va_S A s.heap H locs → lv_has ls 5 [(0, .ref (a 0)), (1, .int x1), (3, .int x3)] → W p l e (headSpec (ws_ yX0_fault cX0_fault 5 (some .int)) ({ frames := 3, cells := 0, slots := 0, locals := 67 } : Room)).room s m ([.ref (a 0)] : List Value).toArray below meth c H locs 0 0 (MQ below (RI G K (fun u => tx_W cy a tm tx) A) ([.ref (a 0)] : List Value).toArray s 0 0 A) (F0 m 69 ls []) := by
        intro x1 x3 h H locs ls hP hD hS hl
        unfold vX0_fault_69 at h
        refine lv_iload_n hx hb dX0_fault_69 rfl (lv_at hl 1 rfl) ?_
        refine lv_iconst (v := (1 : Int32)) hx hb dX0_fault_70 (by decide) ?_
        refine lv_iadd hx hb dX0_fault_71 ?_
        refine lv_iload_n hx hb dX0_fault_72 rfl (lv_at hl 2 rfl) ?_
        refine lv_iadd hx hb dX0_fault_73 ?_
        refine lv_istore (lv' := [(4, .int ((x1 + (1 : Int32)) + x3)), (0, .ref (a 0)), (1, .int x1), (3, .int x3)]) hx hb dX0_fault_74 hl (by decide) rfl (fun ls hl => ?_)
        refine lv_aload_n hx hb dX0_fault_76 rfl (lv_at hl 1 rfl) ?_
        refine lv_iload hx hb dX0_fault_77 (lv_at hl 0 rfl) ?_
        refine kc_Vi0 (As := [.int ((x1 + (1 : Int32)) + x3)]) (rest := []) S hE (ctX0_byteAt l G cy a tm tx ((x1 + (1 : Int32)) + x3) _ h) q_24_17 q_24_18 q_24_19 q_2_2 q_24_20 rfl 0 rfl rfl ydX0_byteAt ⟨⟨rfl, rfl⟩, ⟨Nat.le_of_ble_eq_true rfl, Nat.le_of_ble_eq_true rfl⟩⟩ ⟨Nat.zero_le _, Nat.zero_le _⟩ hP hD hS rfl hl.1 rfl (Nat.le_of_ble_eq_true rfl) dX0_fault_79 (fun r_79 u_79 H locs h hP hD hS => ?_)
        refine lv_bipush (v := (59 : Int32)) hx hb dX0_fault_82 (by decide) ?_
        refine lv_icmp_eq (tgt := 90) hx hb dX0_fault_84 (by decide) (fun c_84 => ?_) (fun c_84 => ?_)
        · have h := h.1 c_84
          refine lv_iload hx hb dX0_fault_90 (lv_at hl 0 rfl) ?_
          refine lv_iconst (v := (1 : Int32)) hx hb dX0_fault_92 (by decide) ?_
          refine lv_iadd hx hb dX0_fault_93 ?_
          refine lv_istore_n (lv' := [(1, .int (((x1 + (1 : Int32)) + x3) + (1 : Int32))), (4, .int ((x1 + (1 : Int32)) + x3)), (0, .ref (a 0)), (3, .int x3)]) hx hb dX0_fault_94 rfl hl (by decide) rfl (fun ls hl => ?_)
          refine lv_goto (tgt := 2) hx hb dX0_fault_95 (by decide) ?_
          exact ih_2 _ h _ _ _ hP hD hS (lv_sub hl [2, 0] rfl)
        · have h := h.2 c_84
          refine lv_iload hx hb dX0_fault_87 (lv_at hl 0 rfl) ?_
          exact W.iret (v := ((x1 + (1 : Int32)) + x3)) hx hb hr (fun t ht hW => ⟨⟨((x1 + (1 : Int32)) + x3), (), rfl, h, ⟨hp_at ht hP, hD⟩⟩, hS.F ht⟩) hS.2.2 dX0_fault_89
      have J_39 : ∀ (x1 : Int32) (x2 : Int32), vX0_fault_39 tm tx x1 x2 K (fun z0 => lp (vX0_fault_2F tm tx K ) k_2 z0) → ∀ (H : Heap) (locs : List Loc) (ls : Array Slot), va_P G vwCl (tx_W cy a tm tx) H → va_D A (tx_W cy a tm tx) → va_S A s.heap H locs → lv_has ls 5 [(0, .ref (a 0)), (1, .int x1), (2, .int x2)] → W p l e (headSpec (ws_ yX0_fault cX0_fault 5 (some .int)) ({ frames := 3, cells := 0, slots := 0, locals := 67 } : Room)).room s m ([.ref (a 0)] : List Value).toArray below meth c H locs 0 0 (MQ below (RI G K (fun u => tx_W cy a tm tx) A) ([.ref (a 0)] : List Value).toArray s 0 0 A) (F0 m 39 ls []) := by
        intro x1 x2 h H locs ls hP hD hS hl
        unfold vX0_fault_39 at h
        refine lv_aload_n hx hb dX0_fault_39 rfl (lv_at hl 0 rfl) ?_
        refine lv_iload_n hx hb dX0_fault_40 rfl (lv_at hl 1 rfl) ?_
        refine lv_iconst (v := (1 : Int32)) hx hb dX0_fault_41 (by decide) ?_
        refine lv_iadd hx hb dX0_fault_42 ?_
        refine kc_Vi0 (As := [.int (x1 + (1 : Int32))]) (rest := []) S hE (ctX0_digitsAt l G cy a tm tx (x1 + (1 : Int32)) _ h) q_25_0 q_25_1 q_25_2 q_2_2 q_25_3 rfl 0 rfl rfl ydX0_digitsAt ⟨⟨rfl, rfl⟩, ⟨Nat.le_of_ble_eq_true rfl, Nat.le_of_ble_eq_true rfl⟩⟩ ⟨Nat.zero_le _, Nat.zero_le _⟩ hP hD hS rfl hl.1 rfl (Nat.le_of_ble_eq_true rfl) dX0_fault_43 (fun r_43 u_43 H locs h hP hD hS => ?_)
        refine lv_istore_n (lv' := [(3, .int r_43), (0, .ref (a 0)), (1, .int x1), (2, .int x2)]) hx hb dX0_fault_46 rfl hl (by decide) rfl (fun ls hl => ?_)
        refine lv_iload_n hx hb dX0_fault_47 rfl (lv_at hl 0 rfl) ?_
        refine lv_if_eq (tgt := 65) hx hb dX0_fault_48 (by decide) (fun c_48 => ?_) (fun c_48 => ?_)
        · have h := h.1 c_48
          exact J_65 _ _ _ h _ _ _ hP hD hS (lv_sub hl [2] rfl)
        · have h := h.2 c_48
          refine lv_iload_n hx hb dX0_fault_51 rfl (lv_at hl 3 rfl) ?_
          refine lv_aload_n hx hb dX0_fault_52 rfl (lv_at hl 1 rfl) ?_
          refine lv_iload_n hx hb dX0_fault_53 rfl (lv_at hl 2 rfl) ?_
          refine lv_iconst (v := (1 : Int32)) hx hb dX0_fault_54 (by decide) ?_
          refine lv_iadd hx hb dX0_fault_55 ?_
          refine kc_Vi0 (As := [.int (x1 + (1 : Int32))]) (rest := [.int x2]) S hE (ctX0_numberAt l G cy a tm tx (x1 + (1 : Int32)) _ h) q_25_7 q_25_8 q_25_9 q_2_2 q_25_10 rfl 0 rfl rfl ydX0_numberAt ⟨⟨rfl, rfl⟩, ⟨Nat.le_of_ble_eq_true rfl, Nat.le_of_ble_eq_true rfl⟩⟩ ⟨Nat.zero_le _, Nat.zero_le _⟩ hP hD hS rfl hl.1 rfl (Nat.le_of_ble_eq_true rfl) dX0_fault_56 (fun r_56 u_56 H locs h hP hD hS => ?_)
          refine kc_SiE (As := [.int x2, .int r_56]) (rest := []) S hE (ctX0_isInRange l G cy   x2 r_56 _ h) q_25_11 q_25_12 q_2_2 q_25_13 ydX0_isInRange ⟨⟨rfl, rfl⟩, ⟨Nat.le_of_ble_eq_true rfl, Nat.le_of_ble_eq_true rfl⟩⟩ ⟨Nat.zero_le _, Nat.zero_le _⟩ hP hD hS (fun _ => rfl) rfl hl.1 rfl (Nat.le_of_ble_eq_true rfl) dX0_fault_59 (fun r_59 u_59 H locs h hP hD hS => ?_)
          refine lv_if_ne (tgt := 69) hx hb dX0_fault_62 (by decide) (fun c_62 => ?_) (fun c_62 => ?_)
          · have h := h.1 c_62
            exact J_69 _ _ h _ _ _ hP hD hS (lv_sub hl [1, 2, 0] rfl)
          · have h := h.2 c_62
            exact J_65 _ _ _ h _ _ _ hP hD hS (lv_sub hl [2] rfl)
      intro x1 h H locs ls hP hD hS hl
      have h : vX0_fault_2b tm tx K  (fun z0 => lp (vX0_fault_2F tm tx K ) k_2 z0) x1 := h
      unfold vX0_fault_2b at h
      refine lv_iload_n hx hb dX0_fault_2 rfl (lv_at hl 1 rfl) ?_
      refine lv_aload_n hx hb dX0_fault_3 rfl (lv_at hl 0 rfl) ?_
      refine kg (v := .int (tm 0)) S hE hP 0 rfl rfl 0 (by decide) q_24_16 rfl rfl inlX0 dX0_fault_4 ?_
      refine lv_icmp_ge (tgt := 98) hx hb dX0_fault_7 (by decide) (fun c_7 => ?_) (fun c_7 => ?_)
      · have h := h.1 c_7
        refine lv_bipush (v := (-5 : Int32)) hx hb dX0_fault_98 (by decide) ?_
        exact W.iret (v := (-5 : Int32)) hx hb hr (fun t ht hW => ⟨⟨(-5 : Int32), (), rfl, h, ⟨hp_at ht hP, hD⟩⟩, hS.F ht⟩) hS.2.2 dX0_fault_100
      · have h := h.2 c_7
        refine lv_aload_n hx hb dX0_fault_10 rfl (lv_at hl 0 rfl) ?_
        refine lv_iload_n hx hb dX0_fault_11 rfl (lv_at hl 1 rfl) ?_
        refine kc_Vi0 (As := [.int x1]) (rest := []) S hE (ctX0_byteAt l G cy a tm tx x1 _ h) q_24_17 q_24_18 q_24_19 q_2_2 q_24_20 rfl 0 rfl rfl ydX0_byteAt ⟨⟨rfl, rfl⟩, ⟨Nat.le_of_ble_eq_true rfl, Nat.le_of_ble_eq_true rfl⟩⟩ ⟨Nat.zero_le _, Nat.zero_le _⟩ hP hD hS rfl hl.1 rfl (Nat.le_of_ble_eq_true rfl) dX0_fault_12 (fun r_12 u_12 H locs h hP hD hS => ?_)
        refine lv_istore_n (lv' := [(2, .int r_12), (0, .ref (a 0)), (1, .int x1)]) hx hb dX0_fault_15 rfl hl (by decide) rfl (fun ls hl => ?_)
        refine lv_iload_n hx hb dX0_fault_16 rfl (lv_at hl 0 rfl) ?_
        refine kc_SiE (As := [.int r_12]) (rest := []) S hE (ctX0_isAct l G cy   r_12 _ h) q_24_21 q_24_22 q_2_2 q_24_23 ydX0_isAct ⟨⟨rfl, rfl⟩, ⟨Nat.le_of_ble_eq_true rfl, Nat.le_of_ble_eq_true rfl⟩⟩ ⟨Nat.zero_le _, Nat.zero_le _⟩ hP hD hS (fun _ => rfl) rfl hl.1 rfl (Nat.le_of_ble_eq_true rfl) dX0_fault_17 (fun r_17 u_17 H locs h hP hD hS => ?_)
        refine lv_if_ne (tgt := 25) hx hb dX0_fault_20 (by decide) (fun c_20 => ?_) (fun c_20 => ?_)
        · have h := h.1 c_20
          refine lv_iconst (v := (0 : Int32)) hx hb dX0_fault_25 (by decide) ?_
          refine lv_istore_n (lv' := [(3, .int (0 : Int32)), (2, .int r_12), (0, .ref (a 0)), (1, .int x1)]) hx hb dX0_fault_26 rfl hl (by decide) rfl (fun ls hl => ?_)
          refine lv_iload_n hx hb dX0_fault_27 rfl (lv_at hl 1 rfl) ?_
          refine lv_bipush (v := (111 : Int32)) hx hb dX0_fault_28 (by decide) ?_
          refine lv_icmp_eq (tgt := 39) hx hb dX0_fault_30 (by decide) (fun c_30 => ?_) (fun c_30 => ?_)
          · have h := h.1 c_30
            exact J_39 _ _ h _ _ _ hP hD hS (lv_sub hl [2, 3, 1] rfl)
          · have h := h.2 c_30
            refine lv_iload_n hx hb dX0_fault_33 rfl (lv_at hl 1 rfl) ?_
            refine lv_bipush (v := (116 : Int32)) hx hb dX0_fault_34 (by decide) ?_
            refine lv_icmp_ne (tgt := 69) hx hb dX0_fault_36 (by decide) (fun c_36 => ?_) (fun c_36 => ?_)
            · have h := h.1 c_36
              exact J_69 _ _ h _ _ _ hP hD hS (lv_sub hl [2, 3, 0] rfl)
            · have h := h.2 c_36
              exact J_39 _ _ h _ _ _ hP hD hS (lv_sub hl [2, 3, 1] rfl)
        · have h := h.2 c_20
          refine lv_iload_n hx hb dX0_fault_23 rfl (lv_at hl 2 rfl) ?_
          exact W.iret (v := x1) hx hb hr (fun t ht hW => ⟨⟨x1, (), rfl, h, ⟨hp_at ht hP, hD⟩⟩, hS.F ht⟩) hS.2.2 dX0_fault_24
  refine lv_iconst (v := (0 : Int32)) hx hb dX0_fault_0 (by decide) ?_
  refine lv_istore_n (lv' := [(1, .int (0 : Int32)), (0, .ref (a 0))]) hx hb dX0_fault_1 rfl hl (by decide) rfl (fun ls hl => ?_)
  obtain ⟨k0, h⟩ := h
  exact L_2 _ _ k0 _ h _ _ _ hP hD hS (lv_sub hl [1, 0] rfl)
def vX0_behindAct (tm : Nat → Int32) (tx : Nat → Int32) (p1 : Int32) (K : Int32 → Unit → Prop) : Prop :=
  vX0_digitsAt tm tx (p1 + (1 : Int32)) (fun r_7 u_7 => K (((p1 + (1 : Int32)) + r_7) + (1 : Int32)) ())
set_option maxRecDepth 100000 in
set_option maxHeartbeats 4000000 in
theorem ctX0_behindAct (l : Launch) (G : va_G) (cy : Nat → ClassId) (a : Nat → Nat) (tm : Nat → Int32) (tx : Nat → Int32) (p1 : Int32) (K : Int32 → Unit → Prop) (h : vX0_behindAct tm tx p1 K) : Met l yX0_behindAct (ws_ yX0_behindAct cX0_behindAct 2 (some .int)) ({ frames := 2, cells := 0, slots := 0, locals := 43 } : Room) (CP G cy [.ref (a 0), .int p1] (tx_W cy a tm tx)) (RI G K (fun u => tx_W cy a tm tx) (A1 (tx_W cy a tm tx))) 0 0 (A1 (tx_W cy a tm tx)) := by
  refine hd_go (Qf := fun A => (RI G K (fun u => tx_W cy a tm tx) A)) (by decide +kernel) (Nat.le_of_ble_eq_true rfl) ?_
  intro p e s m below meth c ls A hx hb hr hlocks S hE hP hD hS hl
  have hl : lv_has ls 2 [(0, .ref (a 0)), (1, .int p1)] := hl
  unfold vX0_behindAct at h
  refine lv_iload_n hx hb dX0_behindAct_0 rfl (lv_at hl 1 rfl) ?_
  refine lv_iconst (v := (1 : Int32)) hx hb dX0_behindAct_1 (by decide) ?_
  refine lv_iadd hx hb dX0_behindAct_2 ?_
  refine lv_aload_n hx hb dX0_behindAct_3 rfl (lv_at hl 0 rfl) ?_
  refine lv_iload_n hx hb dX0_behindAct_4 rfl (lv_at hl 1 rfl) ?_
  refine lv_iconst (v := (1 : Int32)) hx hb dX0_behindAct_5 (by decide) ?_
  refine lv_iadd hx hb dX0_behindAct_6 ?_
  refine kc_Vi0 (As := [.int (p1 + (1 : Int32))]) (rest := [.int (p1 + (1 : Int32))]) S hE (ctX0_digitsAt l G cy a tm tx (p1 + (1 : Int32)) _ h) q_25_0 q_25_1 q_25_2 q_2_2 q_25_3 rfl 0 rfl rfl ydX0_digitsAt ⟨⟨rfl, rfl⟩, ⟨Nat.le_of_ble_eq_true rfl, Nat.le_of_ble_eq_true rfl⟩⟩ ⟨Nat.zero_le _, Nat.zero_le _⟩ hP hD hS rfl hl.1 rfl (Nat.le_of_ble_eq_true rfl) dX0_behindAct_7 (fun r_7 u_7 H locs h hP hD hS => ?_)
  refine lv_iadd hx hb dX0_behindAct_10 ?_
  refine lv_iconst (v := (1 : Int32)) hx hb dX0_behindAct_11 (by decide) ?_
  refine lv_iadd hx hb dX0_behindAct_12 ?_
  exact W.iret (v := (((p1 + (1 : Int32)) + r_7) + (1 : Int32))) hx hb hr (fun t ht hW => ⟨⟨(((p1 + (1 : Int32)) + r_7) + (1 : Int32)), (), rfl, h, ⟨hp_at ht hP, hD⟩⟩, hS.F ht⟩) hS.2.2 dX0_behindAct_13
