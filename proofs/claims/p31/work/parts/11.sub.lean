def vX6_size (p0 : UInt32) (K : UInt32 → Unit → Prop) : Prop :=
  ((0 : Int32) ≤ (fcg p0 FP.fconst0) → K p0 ()) ∧ (¬ (0 : Int32) ≤ (fcg p0 FP.fconst0) → K (FP.fneg p0) ())
set_option maxRecDepth 100000 in
set_option maxHeartbeats 4000000 in
theorem ctX6_size (l : Launch) (G : va_G) (cy : Nat → ClassId)   (p0 : UInt32) (K : UInt32 → Unit → Prop) (h : vX6_size p0 K) : Met l yX6_size (ws_ yX6_size cX6_size 1 (some .float)) ({ frames := 0, cells := 0, slots := 0, locals := 0 } : Room) (CP G cy [.float p0] ([])) (RF G K (fun u => []) (A1 ([]))) 0 0 (A1 ([])) := by
  refine hd_go (Qf := fun A => (RF G K (fun u => []) A)) (by decide +kernel) (Nat.le_of_ble_eq_true rfl) ?_
  intro p e s m below meth c ls A hx hb hr hlocks S hE hP hD hS hl
  have hl : lv_has ls 1 [(0, .float p0)] := hl
  unfold vX6_size at h
  refine lv_fload_n hx hb dX6_size_0 rfl (lv_at hl 0 rfl) ?_
  refine lv_fconst0 hx hb dX6_size_1 ?_
  refine lv_fcmp hx hb dX6_size_2 ?_
  refine lv_if_ge (tgt := 11) hx hb dX6_size_3 (by decide) (fun c_3 => ?_) (fun c_3 => ?_)
  · have h := h.1 c_3
    refine lv_fload_n hx hb dX6_size_11 rfl (lv_at hl 0 rfl) ?_
    exact W.fret (v := p0) hx hb hr (fun t ht hW => ⟨⟨p0, (), rfl, h, ⟨hp_at ht hP, hD⟩⟩, hS.F ht⟩) hS.2.2 dX6_size_12
  · have h := h.2 c_3
    refine lv_fload_n hx hb dX6_size_6 rfl (lv_at hl 0 rfl) ?_
    refine lv_fneg hx hb dX6_size_7 ?_
    refine lv_goto (tgt := 12) hx hb dX6_size_8 (by decide) ?_
    exact W.fret (v := (FP.fneg p0)) hx hb hr (fun t ht hW => ⟨⟨(FP.fneg p0), (), rfl, h, ⟨hp_at ht hP, hD⟩⟩, hS.F ht⟩) hS.2.2 dX6_size_12
def vX6_isBeyond_11  (K : Int32 → Unit → Prop)  : Prop :=
  K (1 : Int32) ()
def vX6_isBeyond (p0 : Int32) (p1 : Int32) (K : Int32 → Unit → Prop) : Prop :=
  (p0 < (-p1) → vX6_isBeyond_11  K ) ∧ (¬ p0 < (-p1) → (p0 ≤ p1 → K (0 : Int32) ()) ∧ (¬ p0 ≤ p1 → vX6_isBeyond_11  K ))
set_option maxRecDepth 100000 in
set_option maxHeartbeats 4000000 in
theorem ctX6_isBeyond (l : Launch) (G : va_G) (cy : Nat → ClassId)   (p0 : Int32) (p1 : Int32) (K : Int32 → Unit → Prop) (h : vX6_isBeyond p0 p1 K) : Met l yX6_isBeyond (ws_ yX6_isBeyond cX6_isBeyond 2 (some .boolean)) ({ frames := 0, cells := 0, slots := 0, locals := 0 } : Room) (CP G cy [.int p0, .int p1] ([])) (RI G K (fun u => []) (A1 ([]))) 0 0 (A1 ([])) := by
  refine hd_go (Qf := fun A => (RI G K (fun u => []) A)) (by decide +kernel) (Nat.le_of_ble_eq_true rfl) ?_
  intro p e s m below meth c ls A hx hb hr hlocks S hE hP hD hS hl
  have hl : lv_has ls 2 [(0, .int p0), (1, .int p1)] := hl
  unfold vX6_isBeyond at h
  have J_11 : vX6_isBeyond_11  K  → ∀ (H : Heap) (locs : List Loc) (ls : Array Slot), va_P G vwCl ([]) H → va_D A ([]) → va_S A s.heap H locs → lv_has ls 2 [] → W p l e (headSpec (ws_ yX6_isBeyond cX6_isBeyond 2 (some .boolean)) ({ frames := 0, cells := 0, slots := 0, locals := 0 } : Room)).room s m ([.int p0, .int p1] : List Value).toArray below meth c H locs 0 0 (MQ below (RI G K (fun u => []) A) ([.int p0, .int p1] : List Value).toArray s 0 0 A) (F0 m 11 ls []) := by
    intro  h H locs ls hP hD hS hl
    unfold vX6_isBeyond_11 at h
    refine lv_iconst (v := (1 : Int32)) hx hb dX6_isBeyond_11 (by decide) ?_
    refine lv_goto (tgt := 16) hx hb dX6_isBeyond_12 (by decide) ?_
    exact W.zret (v := (1 : Int32)) hx hb hr (by decide +kernel) (fun t ht hW => ⟨⟨(1 : Int32), (), rfl, h, ⟨hp_at ht hP, hD⟩⟩, hS.F ht⟩) hS.2.2 dX6_isBeyond_16
  refine lv_iload_n hx hb dX6_isBeyond_0 rfl (lv_at hl 0 rfl) ?_
  refine lv_iload_n hx hb dX6_isBeyond_1 rfl (lv_at hl 1 rfl) ?_
  refine lv_ineg hx hb dX6_isBeyond_2 ?_
  refine lv_icmp_lt (tgt := 11) hx hb dX6_isBeyond_3 (by decide) (fun c_3 => ?_) (fun c_3 => ?_)
  · have h := h.1 c_3
    exact J_11  h _ _ _ hP hD hS (lv_sub hl [] rfl)
  · have h := h.2 c_3
    refine lv_iload_n hx hb dX6_isBeyond_6 rfl (lv_at hl 0 rfl) ?_
    refine lv_iload_n hx hb dX6_isBeyond_7 rfl (lv_at hl 1 rfl) ?_
    refine lv_icmp_le (tgt := 15) hx hb dX6_isBeyond_8 (by decide) (fun c_8 => ?_) (fun c_8 => ?_)
    · have h := h.1 c_8
      refine lv_iconst (v := (0 : Int32)) hx hb dX6_isBeyond_15 (by decide) ?_
      exact W.zret (v := (0 : Int32)) hx hb hr (by decide +kernel) (fun t ht hW => ⟨⟨(0 : Int32), (), rfl, h, ⟨hp_at ht hP, hD⟩⟩, hS.F ht⟩) hS.2.2 dX6_isBeyond_16
    · have h := h.2 c_8
      exact J_11  h _ _ _ hP hD hS (lv_sub hl [] rfl)
def vX6_bitsOf_52 (x0 : UInt32) (x1 : UInt32) (x2 : Int32) (K : Int32 → Unit → Prop)  : Prop :=
  vf_n32 (FP.fmul x1 (1258291200 : UInt32)) ∧ ((0 : Int32) ≤ (fcg x0 FP.fconst0) → K (((x2 - (1 : Int32)) <<< ((23 : Int32) &&& 31)) + (FP.f2i (FP.fmul x1 (1258291200 : UInt32)))) ()) ∧ (¬ (0 : Int32) ≤ (fcg x0 FP.fconst0) → K ((((x2 - (1 : Int32)) <<< ((23 : Int32) &&& 31)) + (FP.f2i (FP.fmul x1 (1258291200 : UInt32)))) ||| (-2147483648 : Int32)) ())
def vX6_bitsOf_31b (x0 : UInt32) (K : Int32 → Unit → Prop)  (B31 : UInt32 → Int32 → Prop) (x1 : UInt32) (x2 : Int32) : Prop :=
  ((0 : Int32) ≤ (fcg x1 FP.fconst1) → vX6_bitsOf_52 x0 x1 x2 K ) ∧ (¬ (0 : Int32) ≤ (fcg x1 FP.fconst1) → (x2 ≤ (1 : Int32) → vX6_bitsOf_52 x0 x1 x2 K ) ∧ (¬ x2 ≤ (1 : Int32) → vf_n32 (FP.fmul x1 FP.fconst2) ∧ B31 (FP.fmul x1 FP.fconst2) (x2 + (-1 : Int32))))
def vX6_bitsOf_31F (x0 : UInt32) (K : Int32 → Unit → Prop)  : ((UInt32 × Int32) → Prop) → (UInt32 × Int32) → Prop := fun B z => vX6_bitsOf_31b x0 K  (fun z0 z1 => B (z0, z1)) z.1 z.2
def vX6_bitsOf_8b (x0 : UInt32) (K : Int32 → Unit → Prop)  (B8 : UInt32 → Int32 → Prop) (x1 : UInt32) (x2 : Int32) : Prop :=
  ((fcl x1 FP.fconst2) < (0 : Int32) → ∃ k, lp (vX6_bitsOf_31F x0 K ) k (x1, x2)) ∧ (¬ (fcl x1 FP.fconst2) < (0 : Int32) → ((254 : Int32) ≤ x2 → ∃ k, lp (vX6_bitsOf_31F x0 K ) k (x1, x2)) ∧ (¬ (254 : Int32) ≤ x2 → vf_n32 (FP.fdiv x1 FP.fconst2) ∧ B8 (FP.fdiv x1 FP.fconst2) (x2 + (1 : Int32))))
def vX6_bitsOf_8F (x0 : UInt32) (K : Int32 → Unit → Prop)  : ((UInt32 × Int32) → Prop) → (UInt32 × Int32) → Prop := fun B z => vX6_bitsOf_8b x0 K  (fun z0 z1 => B (z0, z1)) z.1 z.2
def vX6_bitsOf (p0 : UInt32) (K : Int32 → Unit → Prop) : Prop :=
  vX6_size p0 (fun r_1 u_1 => ∃ k, lp (vX6_bitsOf_8F p0 K ) k (r_1, (127 : Int32)))
set_option maxRecDepth 100000 in
set_option maxHeartbeats 4000000 in
theorem ctX6_bitsOf (l : Launch) (G : va_G) (cy : Nat → ClassId)   (p0 : UInt32) (K : Int32 → Unit → Prop) (h : vX6_bitsOf p0 K) : Met l yX6_bitsOf (ws_ yX6_bitsOf cX6_bitsOf 4 (some .int)) ({ frames := 1, cells := 0, slots := 0, locals := 20 } : Room) (CP G cy [.float p0] ([])) (RI G K (fun u => []) (A1 ([]))) 0 0 (A1 ([])) := by
  refine hd_go (Qf := fun A => (RI G K (fun u => []) A)) (by decide +kernel) (Nat.le_of_ble_eq_true rfl) ?_
  intro p e s m below meth c ls A hx hb hr hlocks S hE hP hD hS hl
  have hl : lv_has ls 4 [(0, .float p0)] := hl
  unfold vX6_bitsOf at h
  have J_52 : ∀ (x0 : UInt32) (x1 : UInt32) (x2 : Int32), vX6_bitsOf_52 x0 x1 x2 K  → ∀ (H : Heap) (locs : List Loc) (ls : Array Slot), va_P G vwCl ([]) H → va_D A ([]) → va_S A s.heap H locs → lv_has ls 4 [(0, .float x0), (1, .float x1), (2, .int x2)] → W p l e (headSpec (ws_ yX6_bitsOf cX6_bitsOf 4 (some .int)) ({ frames := 1, cells := 0, slots := 0, locals := 20 } : Room)).room s m ([.float p0] : List Value).toArray below meth c H locs 0 0 (MQ below (RI G K (fun u => []) A) ([.float p0] : List Value).toArray s 0 0 A) (F0 m 52 ls []) := by
    intro x0 x1 x2 h H locs ls hP hD hS hl
    unfold vX6_bitsOf_52 at h
    refine lv_iload_n hx hb dX6_bitsOf_52 rfl (lv_at hl 2 rfl) ?_
    refine lv_iconst (v := (1 : Int32)) hx hb dX6_bitsOf_53 (by decide) ?_
    refine lv_isub hx hb dX6_bitsOf_54 ?_
    refine lv_bipush (v := (23 : Int32)) hx hb dX6_bitsOf_55 (by decide) ?_
    refine lv_ishl hx hb dX6_bitsOf_57 ?_
    refine lv_fload_n hx hb dX6_bitsOf_58 rfl (lv_at hl 1 rfl) ?_
    refine lv_ldcf hx hb S.2.2.2.1 (S.2.2.2.2 _ q_7_22) dX6_bitsOf_59 ?_
    refine lv_fmul hx hb dX6_bitsOf_61 h.1 ?_
    have h := h.2
    refine lv_f2i hx hb dX6_bitsOf_62 ?_
    refine lv_iadd hx hb dX6_bitsOf_63 ?_
    refine lv_istore_n (lv' := [(3, .int (((x2 - (1 : Int32)) <<< ((23 : Int32) &&& 31)) + (FP.f2i (FP.fmul x1 (1258291200 : UInt32))))), (0, .float x0), (1, .float x1), (2, .int x2)]) hx hb dX6_bitsOf_64 rfl hl (by decide) rfl (fun ls hl => ?_)
    refine lv_fload_n hx hb dX6_bitsOf_65 rfl (lv_at hl 1 rfl) ?_
    refine lv_fconst0 hx hb dX6_bitsOf_66 ?_
    refine lv_fcmp hx hb dX6_bitsOf_67 ?_
    refine lv_if_ge (tgt := 78) hx hb dX6_bitsOf_68 (by decide) (fun c_68 => ?_) (fun c_68 => ?_)
    · have h := h.1 c_68
      refine lv_iload_n hx hb dX6_bitsOf_78 rfl (lv_at hl 0 rfl) ?_
      exact W.iret (v := (((x2 - (1 : Int32)) <<< ((23 : Int32) &&& 31)) + (FP.f2i (FP.fmul x1 (1258291200 : UInt32))))) hx hb hr (fun t ht hW => ⟨⟨(((x2 - (1 : Int32)) <<< ((23 : Int32) &&& 31)) + (FP.f2i (FP.fmul x1 (1258291200 : UInt32)))), (), rfl, h, ⟨hp_at ht hP, hD⟩⟩, hS.F ht⟩) hS.2.2 dX6_bitsOf_79
    · have h := h.2 c_68
      refine lv_iload_n hx hb dX6_bitsOf_71 rfl (lv_at hl 0 rfl) ?_
      refine lv_ldc hx hb S.2.2.2.1 (S.2.2.2.2 _ q_7_23) dX6_bitsOf_72 ?_
      refine lv_ior hx hb dX6_bitsOf_74 ?_
      refine lv_goto (tgt := 79) hx hb dX6_bitsOf_75 (by decide) ?_
      exact W.iret (v := ((((x2 - (1 : Int32)) <<< ((23 : Int32) &&& 31)) + (FP.f2i (FP.fmul x1 (1258291200 : UInt32)))) ||| (-2147483648 : Int32))) hx hb hr (fun t ht hW => ⟨⟨((((x2 - (1 : Int32)) <<< ((23 : Int32) &&& 31)) + (FP.f2i (FP.fmul x1 (1258291200 : UInt32)))) ||| (-2147483648 : Int32)), (), rfl, h, ⟨hp_at ht hP, hD⟩⟩, hS.F ht⟩) hS.2.2 dX6_bitsOf_79
  have L_31 : ∀ (x0 : UInt32) (k_31 : Nat) (x1 : UInt32) (x2 : Int32), lp (vX6_bitsOf_31F x0 K ) k_31 (x1, x2) → ∀ (H : Heap) (locs : List Loc) (ls : Array Slot), va_P G vwCl ([]) H → va_D A ([]) → va_S A s.heap H locs → lv_has ls 4 [(0, .float x0), (1, .float x1), (2, .int x2)] → W p l e (headSpec (ws_ yX6_bitsOf cX6_bitsOf 4 (some .int)) ({ frames := 1, cells := 0, slots := 0, locals := 20 } : Room)).room s m ([.float p0] : List Value).toArray below meth c H locs 0 0 (MQ below (RI G K (fun u => []) A) ([.float p0] : List Value).toArray s 0 0 A) (F0 m 31 ls []) := by
    intro x0 k_31
    induction k_31 with
    | zero => intro x1 x2 h; exact h.elim
    | succ k_31 ih_31 =>
      intro x1 x2 h H locs ls hP hD hS hl
      have h : vX6_bitsOf_31b x0 K  (fun z0 z1 => lp (vX6_bitsOf_31F x0 K ) k_31 (z0, z1)) x1 x2 := h
      unfold vX6_bitsOf_31b at h
      refine lv_fload_n hx hb dX6_bitsOf_31 rfl (lv_at hl 1 rfl) ?_
      refine lv_fconst1 hx hb dX6_bitsOf_32 ?_
      refine lv_fcmp hx hb dX6_bitsOf_33 ?_
      refine lv_if_ge (tgt := 52) hx hb dX6_bitsOf_34 (by decide) (fun c_34 => ?_) (fun c_34 => ?_)
      · have h := h.1 c_34
        exact J_52 _ _ _ h _ _ _ hP hD hS (lv_sub hl [0, 1, 2] rfl)
      · have h := h.2 c_34
        refine lv_iload_n hx hb dX6_bitsOf_37 rfl (lv_at hl 2 rfl) ?_
        refine lv_iconst (v := (1 : Int32)) hx hb dX6_bitsOf_38 (by decide) ?_
        refine lv_icmp_le (tgt := 52) hx hb dX6_bitsOf_39 (by decide) (fun c_39 => ?_) (fun c_39 => ?_)
        · have h := h.1 c_39
          exact J_52 _ _ _ h _ _ _ hP hD hS (lv_sub hl [0, 1, 2] rfl)
        · have h := h.2 c_39
          refine lv_fload_n hx hb dX6_bitsOf_42 rfl (lv_at hl 1 rfl) ?_
          refine lv_fconst2 hx hb dX6_bitsOf_43 ?_
          refine lv_fmul hx hb dX6_bitsOf_44 h.1 ?_
          have h := h.2
          refine lv_fstore_n (lv' := [(1, .float (FP.fmul x1 FP.fconst2)), (0, .float x0), (2, .int x2)]) hx hb dX6_bitsOf_45 rfl hl (by decide) rfl (fun ls hl => ?_)
          refine lv_iinc (v := (x2 + (-1 : Int32))) (lv' := [(2, .int (x2 + (-1 : Int32))), (1, .float (FP.fmul x1 FP.fconst2)), (0, .float x0)]) hx hb dX6_bitsOf_46 hl (k := 2) rfl (by rfl) (by decide) rfl (fun ls hl => ?_)
          refine lv_goto (tgt := 31) hx hb dX6_bitsOf_49 (by decide) ?_
          exact ih_31 _ _ h _ _ _ hP hD hS (lv_sub hl [2, 1, 0] rfl)
  have L_8 : ∀ (x0 : UInt32) (k_8 : Nat) (x1 : UInt32) (x2 : Int32), lp (vX6_bitsOf_8F x0 K ) k_8 (x1, x2) → ∀ (H : Heap) (locs : List Loc) (ls : Array Slot), va_P G vwCl ([]) H → va_D A ([]) → va_S A s.heap H locs → lv_has ls 4 [(0, .float x0), (1, .float x1), (2, .int x2)] → W p l e (headSpec (ws_ yX6_bitsOf cX6_bitsOf 4 (some .int)) ({ frames := 1, cells := 0, slots := 0, locals := 20 } : Room)).room s m ([.float p0] : List Value).toArray below meth c H locs 0 0 (MQ below (RI G K (fun u => []) A) ([.float p0] : List Value).toArray s 0 0 A) (F0 m 8 ls []) := by
    intro x0 k_8
    induction k_8 with
    | zero => intro x1 x2 h; exact h.elim
    | succ k_8 ih_8 =>
      intro x1 x2 h H locs ls hP hD hS hl
      have h : vX6_bitsOf_8b x0 K  (fun z0 z1 => lp (vX6_bitsOf_8F x0 K ) k_8 (z0, z1)) x1 x2 := h
      unfold vX6_bitsOf_8b at h
      refine lv_fload_n hx hb dX6_bitsOf_8 rfl (lv_at hl 1 rfl) ?_
      refine lv_fconst2 hx hb dX6_bitsOf_9 ?_
      refine lv_fcmp hx hb dX6_bitsOf_10 ?_
      refine lv_if_lt (tgt := 31) hx hb dX6_bitsOf_11 (by decide) (fun c_11 => ?_) (fun c_11 => ?_)
      · have h := h.1 c_11
        obtain ⟨k0, h⟩ := h
        exact L_31 _ k0 _ _ h _ _ _ hP hD hS (lv_sub hl [0, 1, 2] rfl)
      · have h := h.2 c_11
        refine lv_iload_n hx hb dX6_bitsOf_14 rfl (lv_at hl 2 rfl) ?_
        refine lv_sipush (v := (254 : Int32)) hx hb dX6_bitsOf_15 (by decide) ?_
        refine lv_icmp_ge (tgt := 31) hx hb dX6_bitsOf_18 (by decide) (fun c_18 => ?_) (fun c_18 => ?_)
        · have h := h.1 c_18
          obtain ⟨k0, h⟩ := h
          exact L_31 _ k0 _ _ h _ _ _ hP hD hS (lv_sub hl [0, 1, 2] rfl)
        · have h := h.2 c_18
          refine lv_fload_n hx hb dX6_bitsOf_21 rfl (lv_at hl 1 rfl) ?_
          refine lv_fconst2 hx hb dX6_bitsOf_22 ?_
          refine lv_fdiv hx hb dX6_bitsOf_23 h.1 ?_
          have h := h.2
          refine lv_fstore_n (lv' := [(1, .float (FP.fdiv x1 FP.fconst2)), (0, .float x0), (2, .int x2)]) hx hb dX6_bitsOf_24 rfl hl (by decide) rfl (fun ls hl => ?_)
          refine lv_iinc (v := (x2 + (1 : Int32))) (lv' := [(2, .int (x2 + (1 : Int32))), (1, .float (FP.fdiv x1 FP.fconst2)), (0, .float x0)]) hx hb dX6_bitsOf_25 hl (k := 2) rfl (by rfl) (by decide) rfl (fun ls hl => ?_)
          refine lv_goto (tgt := 8) hx hb dX6_bitsOf_28 (by decide) ?_
          exact ih_8 _ _ h _ _ _ hP hD hS (lv_sub hl [2, 1, 0] rfl)
  refine lv_fload_n hx hb dX6_bitsOf_0 rfl (lv_at hl 0 rfl) ?_
  refine kc_SfE (As := [.float p0]) (rest := []) S hE (ctX6_size l G cy   p0 _ h) q_8_0 q_8_1 q_1_2 q_8_2 ydX6_size ⟨⟨rfl, rfl⟩, ⟨Nat.le_of_ble_eq_true rfl, Nat.le_of_ble_eq_true rfl⟩⟩ ⟨Nat.zero_le _, Nat.zero_le _⟩ hP hD hS (fun _ => rfl) rfl hl.1 rfl (Nat.le_of_ble_eq_true rfl) dX6_bitsOf_1 (fun r_1 u_1 H locs h hP hD hS => ?_)
  refine lv_fstore_n (lv' := [(1, .float r_1), (0, .float p0)]) hx hb dX6_bitsOf_4 rfl hl (by decide) rfl (fun ls hl => ?_)
  refine lv_bipush (v := (127 : Int32)) hx hb dX6_bitsOf_5 (by decide) ?_
  refine lv_istore_n (lv' := [(2, .int (127 : Int32)), (1, .float r_1), (0, .float p0)]) hx hb dX6_bitsOf_7 rfl hl (by decide) rfl (fun ls hl => ?_)
  obtain ⟨k0, h⟩ := h
  exact L_8 _ k0 _ _ h _ _ _ hP hD hS (lv_sub hl [2, 1, 0] rfl)
def vX2_copyFrom (vn : Nat → Int32) (vp : Nat → Int32) (vq : Nat → Int32) (vn2 : Nat → Int32) (vp2 : Nat → Int32) (vq2 : Nat → Int32) (K : ((Nat → Int32) × (Nat → Int32) × (Nat → Int32)) → Prop) : Prop :=
  K ((upd vn 10 (vn2 10)), (va_cpy vp2 vp 0 0 6), (va_cpy vq2 vq 0 0 6))
set_option maxRecDepth 100000 in
set_option maxHeartbeats 4000000 in
theorem ctX2_copyFrom (l : Launch) (G : va_G) (cy : Nat → ClassId) (a : Nat → Nat) (b : Nat → Nat) (vn : Nat → Int32) (vf : Nat → UInt32) (vs : Nat → Int32) (vp : Nat → Int32) (vq : Nat → Int32) (vd : Nat → Int32) (vo : Nat → Int32) (vn2 : Nat → Int32) (vf2 : Nat → UInt32) (vs2 : Nat → Int32) (vp2 : Nat → Int32) (vq2 : Nat → Int32) (vd2 : Nat → Int32) (vo2 : Nat → Int32)  (K : ((Nat → Int32) × (Nat → Int32) × (Nat → Int32)) → Prop) (h : vX2_copyFrom vn vp vq vn2 vp2 vq2 K) : Met l yX2_copyFrom (ws_ yX2_copyFrom cX2_copyFrom 2 none) ({ frames := 1, cells := 0, slots := 0, locals := 40 } : Room) (CP G cy [.ref (a 2), .ref (b 2)] (st_W cy a vn vf vs vp vq vd vo ++ st_W cy b vn2 vf2 vs2 vp2 vq2 vd2 vo2)) (RV G K (fun u => st_W cy a u.1 vf vs u.2.1 u.2.2 vd vo ++ st_W cy b vn2 vf2 vs2 vp2 vq2 vd2 vo2) (A1 (st_W cy a vn vf vs vp vq vd vo ++ st_W cy b vn2 vf2 vs2 vp2 vq2 vd2 vo2))) 0 0 (A1 (st_W cy a vn vf vs vp vq vd vo ++ st_W cy b vn2 vf2 vs2 vp2 vq2 vd2 vo2)) := by
  refine hd_go (Qf := fun A => (RV G K (fun u => st_W cy a u.1 vf vs u.2.1 u.2.2 vd vo ++ st_W cy b vn2 vf2 vs2 vp2 vq2 vd2 vo2) A)) (by decide +kernel) (Nat.le_of_ble_eq_true rfl) ?_
  intro p e s m below meth c ls A hx hb hr hlocks S hE hP hD hS hl
  have hl : lv_has ls 2 [(0, .ref (a 2)), (1, .ref (b 2))] := hl
  unfold vX2_copyFrom at h
  refine lv_aload_n hx hb dX2_copyFrom_0 rfl (lv_at hl 0 rfl) ?_
  refine lv_aload_n hx hb dX2_copyFrom_1 rfl (lv_at hl 1 rfl) ?_
  refine kg (v := .int (vn2 10)) S hE hP 11 rfl rfl 0 (by decide) q_7_13 rfl rfl inlX2 dX2_copyFrom_2 ?_
  refine kp S hE hP hD hS 2 rfl rfl 0 (by decide) q_7_13 rfl rfl tyX2_ok nmX2 inlX2 rfl rfl (Nat.le_of_ble_eq_true rfl) dX2_copyFrom_5 (fun H locs hP hD hS => ?_)
  have hP : va_P G vwCl (st_W cy a (upd vn 10 (vn2 10)) vf vs vp vq vd vo ++ st_W cy b vn2 vf2 vs2 vp2 vq2 vd2 vo2) H := hP
  have hD : va_D A (st_W cy a (upd vn 10 (vn2 10)) vf vs vp vq vd vo ++ st_W cy b vn2 vf2 vs2 vp2 vq2 vd2 vo2) := hD
  refine lv_aload_n hx hb dX2_copyFrom_8 rfl (lv_at hl 1 rfl) ?_
  refine kg (v := .ref (b 3)) S hE hP 11 rfl rfl 1 (by decide) q_3_6 rfl rfl inlX2 dX2_copyFrom_9 ?_
  refine lv_iconst (v := (0 : Int32)) hx hb dX2_copyFrom_12 (by decide) ?_
  refine lv_aload_n hx hb dX2_copyFrom_13 rfl (lv_at hl 0 rfl) ?_
  refine kg (v := .ref (a 3)) S hE hP 2 rfl rfl 1 (by decide) q_3_6 rfl rfl inlX2 dX2_copyFrom_14 ?_
  refine lv_iconst (v := (0 : Int32)) hx hb dX2_copyFrom_17 (by decide) ?_
  refine lv_bipush (v := (6 : Int32)) hx hb dX2_copyFrom_18 (by decide) ?_
  refine kacp S hE hP hD hS hl.1 q_11_9 12 3 rfl rfl (by decide +kernel) tc_6 (by decide) (by decide) (Nat.le_of_ble_eq_true rfl) (Nat.le_of_ble_eq_true rfl) dX2_copyFrom_20 (fun H locs hP hD hS => ?_)
  have hP : va_P G vwCl (st_W cy a (upd vn 10 (vn2 10)) vf vs (va_cpy vp2 vp 0 0 6) vq vd vo ++ st_W cy b vn2 vf2 vs2 vp2 vq2 vd2 vo2) H := hP
  have hD : va_D A (st_W cy a (upd vn 10 (vn2 10)) vf vs (va_cpy vp2 vp 0 0 6) vq vd vo ++ st_W cy b vn2 vf2 vs2 vp2 vq2 vd2 vo2) := hD
  refine lv_aload_n hx hb dX2_copyFrom_23 rfl (lv_at hl 1 rfl) ?_
  refine kg (v := .ref (b 4)) S hE hP 11 rfl rfl 2 (by decide) q_3_7 rfl rfl inlX2 dX2_copyFrom_24 ?_
  refine lv_iconst (v := (0 : Int32)) hx hb dX2_copyFrom_27 (by decide) ?_
  refine lv_aload_n hx hb dX2_copyFrom_28 rfl (lv_at hl 0 rfl) ?_
  refine kg (v := .ref (a 4)) S hE hP 2 rfl rfl 2 (by decide) q_3_7 rfl rfl inlX2 dX2_copyFrom_29 ?_
  refine lv_iconst (v := (0 : Int32)) hx hb dX2_copyFrom_32 (by decide) ?_
  refine lv_bipush (v := (6 : Int32)) hx hb dX2_copyFrom_33 (by decide) ?_
  refine kacp S hE hP hD hS hl.1 q_11_9 13 4 rfl rfl (by decide +kernel) tc_6 (by decide) (by decide) (Nat.le_of_ble_eq_true rfl) (Nat.le_of_ble_eq_true rfl) dX2_copyFrom_35 (fun H locs hP hD hS => ?_)
  have hP : va_P G vwCl (st_W cy a (upd vn 10 (vn2 10)) vf vs (va_cpy vp2 vp 0 0 6) (va_cpy vq2 vq 0 0 6) vd vo ++ st_W cy b vn2 vf2 vs2 vp2 vq2 vd2 vo2) H := hP
  have hD : va_D A (st_W cy a (upd vn 10 (vn2 10)) vf vs (va_cpy vp2 vp 0 0 6) (va_cpy vq2 vq 0 0 6) vd vo ++ st_W cy b vn2 vf2 vs2 vp2 vq2 vd2 vo2) := hD
  exact W.vret hx hb hr (fun t ht hW => ⟨⟨((upd vn 10 (vn2 10)), (va_cpy vp2 vp 0 0 6), (va_cpy vq2 vq 0 0 6)), rfl, h, ⟨hp_at ht hP, hD⟩⟩, hS.F ht⟩) hS.2.2 dX2_copyFrom_38
def vX2_indexFor_2b (vn : Nat → Int32) (vp : Nat → Int32) (x1 : Int32) (K : Int32 → Unit → Prop)  (B2 : Int32 → Prop) (x2 : Int32) : Prop :=
  ((vn 10) ≤ x2 → K x2 ()) ∧ (¬ (vn 10) ≤ x2 → vp_in x2 6 ∧ (x1 ≤ (vp (Int32.toNatClampNeg x2)) → K x2 ()) ∧ (¬ x1 ≤ (vp (Int32.toNatClampNeg x2)) → B2 (x2 + (1 : Int32))))
def vX2_indexFor_2F (vn : Nat → Int32) (vp : Nat → Int32) (x1 : Int32) (K : Int32 → Unit → Prop)  : ((Int32) → Prop) → (Int32) → Prop := fun B z => vX2_indexFor_2b vn vp x1 K  (fun z0 => B z0) z
def vX2_indexFor (vn : Nat → Int32) (vp : Nat → Int32) (p1 : Int32) (K : Int32 → Unit → Prop) : Prop :=
  ∃ k, lp (vX2_indexFor_2F vn vp p1 K ) k (0 : Int32)
set_option maxRecDepth 100000 in
set_option maxHeartbeats 4000000 in
theorem ctX2_indexFor (l : Launch) (G : va_G) (cy : Nat → ClassId) (a : Nat → Nat) (vn : Nat → Int32) (vf : Nat → UInt32) (vs : Nat → Int32) (vp : Nat → Int32) (vq : Nat → Int32) (vd : Nat → Int32) (vo : Nat → Int32) (p1 : Int32) (K : Int32 → Unit → Prop) (h : vX2_indexFor vn vp p1 K) : Met l yX2_indexFor (ws_ yX2_indexFor cX2_indexFor 3 (some .int)) ({ frames := 0, cells := 0, slots := 0, locals := 0 } : Room) (CP G cy [.ref (a 2), .int p1] (st_W cy a vn vf vs vp vq vd vo)) (RI G K (fun u => st_W cy a vn vf vs vp vq vd vo) (A1 (st_W cy a vn vf vs vp vq vd vo))) 0 0 (A1 (st_W cy a vn vf vs vp vq vd vo)) := by
  refine hd_go (Qf := fun A => (RI G K (fun u => st_W cy a vn vf vs vp vq vd vo) A)) (by decide +kernel) (Nat.le_of_ble_eq_true rfl) ?_
  intro p e s m below meth c ls A hx hb hr hlocks S hE hP hD hS hl
  have hl : lv_has ls 3 [(0, .ref (a 2)), (1, .int p1)] := hl
  unfold vX2_indexFor at h
  have L_2 : ∀ (vn : Nat → Int32) (vp : Nat → Int32) (x1 : Int32) (k_2 : Nat) (x2 : Int32), lp (vX2_indexFor_2F vn vp x1 K ) k_2 x2 → ∀ (H : Heap) (locs : List Loc) (ls : Array Slot), va_P G vwCl (st_W cy a vn vf vs vp vq vd vo) H → va_D A (st_W cy a vn vf vs vp vq vd vo) → va_S A s.heap H locs → lv_has ls 3 [(0, .ref (a 2)), (1, .int x1), (2, .int x2)] → W p l e (headSpec (ws_ yX2_indexFor cX2_indexFor 3 (some .int)) ({ frames := 0, cells := 0, slots := 0, locals := 0 } : Room)).room s m ([.ref (a 2), .int p1] : List Value).toArray below meth c H locs 0 0 (MQ below (RI G K (fun u => st_W cy a vn vf vs vp vq vd vo) A) ([.ref (a 2), .int p1] : List Value).toArray s 0 0 A) (F0 m 2 ls []) := by
    intro vn vp x1 k_2
    induction k_2 with
    | zero => intro x2 h; exact h.elim
    | succ k_2 ih_2 =>
      intro x2 h H locs ls hP hD hS hl
      have h : vX2_indexFor_2b vn vp x1 K  (fun z0 => lp (vX2_indexFor_2F vn vp x1 K ) k_2 z0) x2 := h
      unfold vX2_indexFor_2b at h
      refine lv_iload_n hx hb dX2_indexFor_2 rfl (lv_at hl 2 rfl) ?_
      refine lv_aload_n hx hb dX2_indexFor_3 rfl (lv_at hl 0 rfl) ?_
      refine kg (v := .int (vn 10)) S hE hP 2 rfl rfl 0 (by decide) q_7_13 rfl rfl inlX2 dX2_indexFor_4 ?_
      refine lv_icmp_ge (tgt := 26) hx hb dX2_indexFor_7 (by decide) (fun c_7 => ?_) (fun c_7 => ?_)
      · have h := h.1 c_7
        refine lv_iload_n hx hb dX2_indexFor_26 rfl (lv_at hl 2 rfl) ?_
        exact W.iret (v := x2) hx hb hr (fun t ht hW => ⟨⟨x2, (), rfl, h, ⟨hp_at ht hP, hD⟩⟩, hS.F ht⟩) hS.2.2 dX2_indexFor_27
      · have h := h.2 c_7
        refine lv_aload_n hx hb dX2_indexFor_10 rfl (lv_at hl 0 rfl) ?_
        refine kg (v := .ref (a 3)) S hE hP 2 rfl rfl 1 (by decide) q_3_6 rfl rfl inlX2 dX2_indexFor_11 ?_
        refine lv_iload_n hx hb dX2_indexFor_14 rfl (lv_at hl 2 rfl) ?_
        refine kail (v := (vp (Int32.toNatClampNeg x2))) S hE hP 3 rfl h.1 rfl rfl dX2_indexFor_15 ?_
        have h := h.2
        refine lv_iload_n hx hb dX2_indexFor_16 rfl (lv_at hl 1 rfl) ?_
        refine lv_icmp_ge (tgt := 26) hx hb dX2_indexFor_17 (by decide) (fun c_17 => ?_) (fun c_17 => ?_)
        · have h := h.1 c_17
          refine lv_iload_n hx hb dX2_indexFor_26 rfl (lv_at hl 2 rfl) ?_
          exact W.iret (v := x2) hx hb hr (fun t ht hW => ⟨⟨x2, (), rfl, h, ⟨hp_at ht hP, hD⟩⟩, hS.F ht⟩) hS.2.2 dX2_indexFor_27
        · have h := h.2 c_17
          refine lv_iinc (v := (x2 + (1 : Int32))) (lv' := [(2, .int (x2 + (1 : Int32))), (0, .ref (a 2)), (1, .int x1)]) hx hb dX2_indexFor_20 hl (k := 2) rfl (by rfl) (by decide) rfl (fun ls hl => ?_)
          refine lv_goto (tgt := 2) hx hb dX2_indexFor_23 (by decide) ?_
          exact ih_2 _ h _ _ _ hP hD hS (lv_sub hl [1, 2, 0] rfl)
  refine lv_iconst (v := (0 : Int32)) hx hb dX2_indexFor_0 (by decide) ?_
  refine lv_istore_n (lv' := [(2, .int (0 : Int32)), (0, .ref (a 2)), (1, .int p1)]) hx hb dX2_indexFor_1 rfl hl (by decide) rfl (fun ls hl => ?_)
  obtain ⟨k0, h⟩ := h
  exact L_2 _ _ _ k0 _ h _ _ _ hP hD hS (lv_sub hl [1, 2, 0] rfl)
def vX2_hasRoomFor_33 (vn : Nat → Int32) (vp : Nat → Int32) (K : Int32 → Unit → Prop)  : Prop :=
  K (1 : Int32) ()
def vX2_hasRoomFor (vn : Nat → Int32) (vp : Nat → Int32) (p1 : Int32) (K : Int32 → Unit → Prop) : Prop :=
  vX2_indexFor vn vp p1 (fun r_2 u_2 => ((vn 10) < (6 : Int32) → vX2_hasRoomFor_33 vn vp K ) ∧ (¬ (vn 10) < (6 : Int32) → ((vn 10) ≤ r_2 → K (0 : Int32) ()) ∧ (¬ (vn 10) ≤ r_2 → vp_in r_2 6 ∧ (¬ (vp (Int32.toNatClampNeg r_2)) = p1 → K (0 : Int32) ()) ∧ ((vp (Int32.toNatClampNeg r_2)) = p1 → vX2_hasRoomFor_33 vn vp K ))))
set_option maxRecDepth 100000 in
set_option maxHeartbeats 4000000 in
theorem ctX2_hasRoomFor (l : Launch) (G : va_G) (cy : Nat → ClassId) (a : Nat → Nat) (vn : Nat → Int32) (vf : Nat → UInt32) (vs : Nat → Int32) (vp : Nat → Int32) (vq : Nat → Int32) (vd : Nat → Int32) (vo : Nat → Int32) (p1 : Int32) (K : Int32 → Unit → Prop) (h : vX2_hasRoomFor vn vp p1 K) : Met l yX2_hasRoomFor (ws_ yX2_hasRoomFor cX2_hasRoomFor 3 (some .boolean)) ({ frames := 1, cells := 0, slots := 0, locals := 22 } : Room) (CP G cy [.ref (a 2), .int p1] (st_W cy a vn vf vs vp vq vd vo)) (RI G K (fun u => st_W cy a vn vf vs vp vq vd vo) (A1 (st_W cy a vn vf vs vp vq vd vo))) 0 0 (A1 (st_W cy a vn vf vs vp vq vd vo)) := by
  refine hd_go (Qf := fun A => (RI G K (fun u => st_W cy a vn vf vs vp vq vd vo) A)) (by decide +kernel) (Nat.le_of_ble_eq_true rfl) ?_
  intro p e s m below meth c ls A hx hb hr hlocks S hE hP hD hS hl
  have hl : lv_has ls 3 [(0, .ref (a 2)), (1, .int p1)] := hl
  unfold vX2_hasRoomFor at h
  have J_33 : ∀ (vn : Nat → Int32) (vp : Nat → Int32), vX2_hasRoomFor_33 vn vp K  → ∀ (H : Heap) (locs : List Loc) (ls : Array Slot), va_P G vwCl (st_W cy a vn vf vs vp vq vd vo) H → va_D A (st_W cy a vn vf vs vp vq vd vo) → va_S A s.heap H locs → lv_has ls 3 [] → W p l e (headSpec (ws_ yX2_hasRoomFor cX2_hasRoomFor 3 (some .boolean)) ({ frames := 1, cells := 0, slots := 0, locals := 22 } : Room)).room s m ([.ref (a 2), .int p1] : List Value).toArray below meth c H locs 0 0 (MQ below (RI G K (fun u => st_W cy a vn vf vs vp vq vd vo) A) ([.ref (a 2), .int p1] : List Value).toArray s 0 0 A) (F0 m 33 ls []) := by
    intro vn vp h H locs ls hP hD hS hl
    unfold vX2_hasRoomFor_33 at h
    refine lv_iconst (v := (1 : Int32)) hx hb dX2_hasRoomFor_33 (by decide) ?_
    refine lv_goto (tgt := 38) hx hb dX2_hasRoomFor_34 (by decide) ?_
    exact W.zret (v := (1 : Int32)) hx hb hr (by decide +kernel) (fun t ht hW => ⟨⟨(1 : Int32), (), rfl, h, ⟨hp_at ht hP, hD⟩⟩, hS.F ht⟩) hS.2.2 dX2_hasRoomFor_38
  refine lv_aload_n hx hb dX2_hasRoomFor_0 rfl (lv_at hl 0 rfl) ?_
  refine lv_iload_n hx hb dX2_hasRoomFor_1 rfl (lv_at hl 1 rfl) ?_
  refine kc_Vi0 (As := [.int p1]) (rest := []) S hE (ctX2_indexFor l G cy a vn vf vs vp vq vd vo p1 _ h) q_12_22 q_12_23 q_13_0 q_2_16 q_13_1 rfl 2 rfl rfl ydX2_indexFor ⟨⟨rfl, rfl⟩, ⟨Nat.le_of_ble_eq_true rfl, Nat.le_of_ble_eq_true rfl⟩⟩ ⟨Nat.zero_le _, Nat.zero_le _⟩ hP hD hS rfl hl.1 rfl (Nat.le_of_ble_eq_true rfl) dX2_hasRoomFor_2 (fun r_2 u_2 H locs h hP hD hS => ?_)
  refine lv_istore_n (lv' := [(2, .int r_2), (0, .ref (a 2)), (1, .int p1)]) hx hb dX2_hasRoomFor_5 rfl hl (by decide) rfl (fun ls hl => ?_)
  refine lv_aload_n hx hb dX2_hasRoomFor_6 rfl (lv_at hl 1 rfl) ?_
  refine kg (v := .int (vn 10)) S hE hP 2 rfl rfl 0 (by decide) q_7_13 rfl rfl inlX2 dX2_hasRoomFor_7 ?_
  refine lv_bipush (v := (6 : Int32)) hx hb dX2_hasRoomFor_10 (by decide) ?_
  refine lv_icmp_lt (tgt := 33) hx hb dX2_hasRoomFor_12 (by decide) (fun c_12 => ?_) (fun c_12 => ?_)
  · have h := h.1 c_12
    exact J_33 _ _ h _ _ _ hP hD hS (lv_sub hl [] rfl)
  · have h := h.2 c_12
    refine lv_iload_n hx hb dX2_hasRoomFor_15 rfl (lv_at hl 0 rfl) ?_
    refine lv_aload_n hx hb dX2_hasRoomFor_16 rfl (lv_at hl 1 rfl) ?_
    refine kg (v := .int (vn 10)) S hE hP 2 rfl rfl 0 (by decide) q_7_13 rfl rfl inlX2 dX2_hasRoomFor_17 ?_
    refine lv_icmp_ge (tgt := 37) hx hb dX2_hasRoomFor_20 (by decide) (fun c_20 => ?_) (fun c_20 => ?_)
    · have h := h.1 c_20
      refine lv_iconst (v := (0 : Int32)) hx hb dX2_hasRoomFor_37 (by decide) ?_
      exact W.zret (v := (0 : Int32)) hx hb hr (by decide +kernel) (fun t ht hW => ⟨⟨(0 : Int32), (), rfl, h, ⟨hp_at ht hP, hD⟩⟩, hS.F ht⟩) hS.2.2 dX2_hasRoomFor_38
    · have h := h.2 c_20
      refine lv_aload_n hx hb dX2_hasRoomFor_23 rfl (lv_at hl 1 rfl) ?_
      refine kg (v := .ref (a 3)) S hE hP 2 rfl rfl 1 (by decide) q_3_6 rfl rfl inlX2 dX2_hasRoomFor_24 ?_
      refine lv_iload_n hx hb dX2_hasRoomFor_27 rfl (lv_at hl 0 rfl) ?_
      refine kail (v := (vp (Int32.toNatClampNeg r_2))) S hE hP 3 rfl h.1 rfl rfl dX2_hasRoomFor_28 ?_
      have h := h.2
      refine lv_iload_n hx hb dX2_hasRoomFor_29 rfl (lv_at hl 2 rfl) ?_
      refine lv_icmp_ne (tgt := 37) hx hb dX2_hasRoomFor_30 (by decide) (fun c_30 => ?_) (fun c_30 => ?_)
      · have h := h.1 c_30
        refine lv_iconst (v := (0 : Int32)) hx hb dX2_hasRoomFor_37 (by decide) ?_
        exact W.zret (v := (0 : Int32)) hx hb hr (by decide +kernel) (fun t ht hW => ⟨⟨(0 : Int32), (), rfl, h, ⟨hp_at ht hP, hD⟩⟩, hS.F ht⟩) hS.2.2 dX2_hasRoomFor_38
      · have h := h.2 c_30
        exact J_33 _ _ h _ _ _ hP hD hS (lv_sub hl [] rfl)
def vX2_put_84 (vn : Nat → Int32) (vp : Nat → Int32) (vq : Nat → Int32) (x1 : Int32) (x2 : Int32) (x3 : Int32) (K : ((Nat → Int32) × (Nat → Int32) × (Nat → Int32)) → Prop)  : Prop :=
  vp_in x3 6 ∧ vp_in x3 6 ∧ K (vn, (upd vp (Int32.toNatClampNeg x3) x1), (upd vq (Int32.toNatClampNeg x3) x2))
def vX2_put_30b (vn : Nat → Int32) (x1 : Int32) (x2 : Int32) (x3 : Int32) (K : ((Nat → Int32) × (Nat → Int32) × (Nat → Int32)) → Prop)  (B30 : (Nat → Int32) → (Nat → Int32) → Int32 → Prop) (vp : Nat → Int32) (vq : Nat → Int32) (x4 : Int32) : Prop :=
  (x4 ≤ x3 → vX2_put_84 (upd vn 10 ((vn 10) + (1 : Int32))) vp vq x1 x2 x3 K ) ∧ (¬ x4 ≤ x3 → vp_in (x4 - (1 : Int32)) 6 ∧ vp_in x4 6 ∧ vp_in (x4 - (1 : Int32)) 6 ∧ vp_in x4 6 ∧ B30 (upd vp (Int32.toNatClampNeg x4) (vp (Int32.toNatClampNeg (x4 - (1 : Int32))))) (upd vq (Int32.toNatClampNeg x4) (vq (Int32.toNatClampNeg (x4 - (1 : Int32))))) (x4 + (-1 : Int32)))
def vX2_put_30F (vn : Nat → Int32) (x1 : Int32) (x2 : Int32) (x3 : Int32) (K : ((Nat → Int32) × (Nat → Int32) × (Nat → Int32)) → Prop)  : (((Nat → Int32) × (Nat → Int32) × Int32) → Prop) → ((Nat → Int32) × (Nat → Int32) × Int32) → Prop := fun B z => vX2_put_30b vn x1 x2 x3 K  (fun z0 z1 z2 => B (z0, z1, z2)) z.1 z.2.1 z.2.2
def vX2_put_24 (vn : Nat → Int32) (vp : Nat → Int32) (vq : Nat → Int32) (x1 : Int32) (x2 : Int32) (x3 : Int32) (K : ((Nat → Int32) × (Nat → Int32) × (Nat → Int32)) → Prop)  : Prop :=
  ∃ k, lp (vX2_put_30F vn x1 x2 x3 K ) k (vp, vq, (vn 10))
def vX2_put (vn : Nat → Int32) (vp : Nat → Int32) (vq : Nat → Int32) (p1 : Int32) (p2 : Int32) (K : ((Nat → Int32) × (Nat → Int32) × (Nat → Int32)) → Prop) : Prop :=
  vX2_indexFor vn vp p1 (fun r_2 u_2 => ((vn 10) ≤ r_2 → vX2_put_24 vn vp vq p1 p2 r_2 K ) ∧ (¬ (vn 10) ≤ r_2 → vp_in r_2 6 ∧ ((vp (Int32.toNatClampNeg r_2)) = p1 → vX2_put_84 vn vp vq p1 p2 r_2 K ) ∧ (¬ (vp (Int32.toNatClampNeg r_2)) = p1 → vX2_put_24 vn vp vq p1 p2 r_2 K )))
set_option maxRecDepth 100000 in
set_option maxHeartbeats 4000000 in
theorem ctX2_put (l : Launch) (G : va_G) (cy : Nat → ClassId) (a : Nat → Nat) (vn : Nat → Int32) (vf : Nat → UInt32) (vs : Nat → Int32) (vp : Nat → Int32) (vq : Nat → Int32) (vd : Nat → Int32) (vo : Nat → Int32) (p1 : Int32) (p2 : Int32) (K : ((Nat → Int32) × (Nat → Int32) × (Nat → Int32)) → Prop) (h : vX2_put vn vp vq p1 p2 K) : Met l yX2_put (ws_ yX2_put cX2_put 5 none) ({ frames := 1, cells := 0, slots := 0, locals := 22 } : Room) (CP G cy [.ref (a 2), .int p1, .int p2] (st_W cy a vn vf vs vp vq vd vo)) (RV G K (fun u => st_W cy a u.1 vf vs u.2.1 u.2.2 vd vo) (A1 (st_W cy a vn vf vs vp vq vd vo))) 0 0 (A1 (st_W cy a vn vf vs vp vq vd vo)) := by
  refine hd_go (Qf := fun A => (RV G K (fun u => st_W cy a u.1 vf vs u.2.1 u.2.2 vd vo) A)) (by decide +kernel) (Nat.le_of_ble_eq_true rfl) ?_
  intro p e s m below meth c ls A hx hb hr hlocks S hE hP hD hS hl
  have hl : lv_has ls 5 [(0, .ref (a 2)), (1, .int p1), (2, .int p2)] := hl
  unfold vX2_put at h
  have J_84 : ∀ (vn : Nat → Int32) (vp : Nat → Int32) (vq : Nat → Int32) (x1 : Int32) (x2 : Int32) (x3 : Int32), vX2_put_84 vn vp vq x1 x2 x3 K  → ∀ (H : Heap) (locs : List Loc) (ls : Array Slot), va_P G vwCl (st_W cy a vn vf vs vp vq vd vo) H → va_D A (st_W cy a vn vf vs vp vq vd vo) → va_S A s.heap H locs → lv_has ls 5 [(0, .ref (a 2)), (1, .int x1), (2, .int x2), (3, .int x3)] → W p l e (headSpec (ws_ yX2_put cX2_put 5 none) ({ frames := 1, cells := 0, slots := 0, locals := 22 } : Room)).room s m ([.ref (a 2), .int p1, .int p2] : List Value).toArray below meth c H locs 0 0 (MQ below (RV G K (fun u => st_W cy a u.1 vf vs u.2.1 u.2.2 vd vo) A) ([.ref (a 2), .int p1, .int p2] : List Value).toArray s 0 0 A) (F0 m 84 ls []) := by
    intro vn vp vq x1 x2 x3 h H locs ls hP hD hS hl
    unfold vX2_put_84 at h
    refine lv_aload_n hx hb dX2_put_84 rfl (lv_at hl 0 rfl) ?_
    refine kg (v := .ref (a 3)) S hE hP 2 rfl rfl 1 (by decide) q_3_6 rfl rfl inlX2 dX2_put_85 ?_
    refine lv_iload_n hx hb dX2_put_88 rfl (lv_at hl 3 rfl) ?_
    refine lv_iload_n hx hb dX2_put_89 rfl (lv_at hl 1 rfl) ?_
    refine kais S hE hP hD hS 3 rfl h.1 rfl dX2_put_90 (fun H locs hP hD hS => ?_)
    have h := h.2
    have hP : va_P G vwCl (st_W cy a vn vf vs (upd vp (Int32.toNatClampNeg x3) x1) vq vd vo) H := hP
    have hD : va_D A (st_W cy a vn vf vs (upd vp (Int32.toNatClampNeg x3) x1) vq vd vo) := hD
    refine lv_aload_n hx hb dX2_put_91 rfl (lv_at hl 0 rfl) ?_
    refine kg (v := .ref (a 4)) S hE hP 2 rfl rfl 2 (by decide) q_3_7 rfl rfl inlX2 dX2_put_92 ?_
    refine lv_iload_n hx hb dX2_put_95 rfl (lv_at hl 3 rfl) ?_
    refine lv_iload_n hx hb dX2_put_96 rfl (lv_at hl 2 rfl) ?_
    refine kais S hE hP hD hS 4 rfl h.1 rfl dX2_put_97 (fun H locs hP hD hS => ?_)
    have h := h.2
    have hP : va_P G vwCl (st_W cy a vn vf vs (upd vp (Int32.toNatClampNeg x3) x1) (upd vq (Int32.toNatClampNeg x3) x2) vd vo) H := hP
    have hD : va_D A (st_W cy a vn vf vs (upd vp (Int32.toNatClampNeg x3) x1) (upd vq (Int32.toNatClampNeg x3) x2) vd vo) := hD
    exact W.vret hx hb hr (fun t ht hW => ⟨⟨(vn, (upd vp (Int32.toNatClampNeg x3) x1), (upd vq (Int32.toNatClampNeg x3) x2)), rfl, h, ⟨hp_at ht hP, hD⟩⟩, hS.F ht⟩) hS.2.2 dX2_put_98
  have L_30 : ∀ (vn : Nat → Int32) (x1 : Int32) (x2 : Int32) (x3 : Int32) (k_30 : Nat) (vp : Nat → Int32) (vq : Nat → Int32) (x4 : Int32), lp (vX2_put_30F vn x1 x2 x3 K ) k_30 (vp, vq, x4) → ∀ (H : Heap) (locs : List Loc) (ls : Array Slot), va_P G vwCl (st_W cy a vn vf vs vp vq vd vo) H → va_D A (st_W cy a vn vf vs vp vq vd vo) → va_S A s.heap H locs → lv_has ls 5 [(0, .ref (a 2)), (1, .int x1), (2, .int x2), (3, .int x3), (4, .int x4)] → W p l e (headSpec (ws_ yX2_put cX2_put 5 none) ({ frames := 1, cells := 0, slots := 0, locals := 22 } : Room)).room s m ([.ref (a 2), .int p1, .int p2] : List Value).toArray below meth c H locs 0 0 (MQ below (RV G K (fun u => st_W cy a u.1 vf vs u.2.1 u.2.2 vd vo) A) ([.ref (a 2), .int p1, .int p2] : List Value).toArray s 0 0 A) (F0 m 30 ls []) := by
    intro vn x1 x2 x3 k_30
    induction k_30 with
    | zero => intro vp vq x4 h; exact h.elim
    | succ k_30 ih_30 =>
      intro vp vq x4 h H locs ls hP hD hS hl
      have h : vX2_put_30b vn x1 x2 x3 K  (fun z0 z1 z2 => lp (vX2_put_30F vn x1 x2 x3 K ) k_30 (z0, z1, z2)) vp vq x4 := h
      unfold vX2_put_30b at h
      refine lv_iload hx hb dX2_put_30 (lv_at hl 4 rfl) ?_
      refine lv_iload_n hx hb dX2_put_32 rfl (lv_at hl 3 rfl) ?_
      refine lv_icmp_le (tgt := 74) hx hb dX2_put_33 (by decide) (fun c_33 => ?_) (fun c_33 => ?_)
      · have h := h.1 c_33
        refine lv_aload_n hx hb dX2_put_74 rfl (lv_at hl 0 rfl) ?_
        refine lv_dup hx hb dX2_put_75 rfl ?_
        refine kg (v := .int (vn 10)) S hE hP 2 rfl rfl 0 (by decide) q_7_13 rfl rfl inlX2 dX2_put_76 ?_
        refine lv_iconst (v := (1 : Int32)) hx hb dX2_put_79 (by decide) ?_
        refine lv_iadd hx hb dX2_put_80 ?_
        refine kp S hE hP hD hS 2 rfl rfl 0 (by decide) q_7_13 rfl rfl tyX2_ok nmX2 inlX2 rfl rfl (Nat.le_of_ble_eq_true rfl) dX2_put_81 (fun H locs hP hD hS => ?_)
        have hP : va_P G vwCl (st_W cy a (upd vn 10 ((vn 10) + (1 : Int32))) vf vs vp vq vd vo) H := hP
        have hD : va_D A (st_W cy a (upd vn 10 ((vn 10) + (1 : Int32))) vf vs vp vq vd vo) := hD
        exact J_84 _ _ _ _ _ _ h _ _ _ hP hD hS (lv_sub hl [0, 1, 2, 3] rfl)
      · have h := h.2 c_33
        refine lv_aload_n hx hb dX2_put_36 rfl (lv_at hl 0 rfl) ?_
        refine kg (v := .ref (a 3)) S hE hP 2 rfl rfl 1 (by decide) q_3_6 rfl rfl inlX2 dX2_put_37 ?_
        refine lv_iload hx hb dX2_put_40 (lv_at hl 4 rfl) ?_
        refine lv_aload_n hx hb dX2_put_42 rfl (lv_at hl 0 rfl) ?_
        refine kg (v := .ref (a 3)) S hE hP 2 rfl rfl 1 (by decide) q_3_6 rfl rfl inlX2 dX2_put_43 ?_
        refine lv_iload hx hb dX2_put_46 (lv_at hl 4 rfl) ?_
        refine lv_iconst (v := (1 : Int32)) hx hb dX2_put_48 (by decide) ?_
        refine lv_isub hx hb dX2_put_49 ?_
        refine kail (v := (vp (Int32.toNatClampNeg (x4 - (1 : Int32))))) S hE hP 3 rfl h.1 rfl rfl dX2_put_50 ?_
        have h := h.2
        refine kais S hE hP hD hS 3 rfl h.1 rfl dX2_put_51 (fun H locs hP hD hS => ?_)
        have h := h.2
        have hP : va_P G vwCl (st_W cy a vn vf vs (upd vp (Int32.toNatClampNeg x4) (vp (Int32.toNatClampNeg (x4 - (1 : Int32))))) vq vd vo) H := hP
        have hD : va_D A (st_W cy a vn vf vs (upd vp (Int32.toNatClampNeg x4) (vp (Int32.toNatClampNeg (x4 - (1 : Int32))))) vq vd vo) := hD
        refine lv_aload_n hx hb dX2_put_52 rfl (lv_at hl 0 rfl) ?_
        refine kg (v := .ref (a 4)) S hE hP 2 rfl rfl 2 (by decide) q_3_7 rfl rfl inlX2 dX2_put_53 ?_
        refine lv_iload hx hb dX2_put_56 (lv_at hl 4 rfl) ?_
        refine lv_aload_n hx hb dX2_put_58 rfl (lv_at hl 0 rfl) ?_
        refine kg (v := .ref (a 4)) S hE hP 2 rfl rfl 2 (by decide) q_3_7 rfl rfl inlX2 dX2_put_59 ?_
        refine lv_iload hx hb dX2_put_62 (lv_at hl 4 rfl) ?_
        refine lv_iconst (v := (1 : Int32)) hx hb dX2_put_64 (by decide) ?_
        refine lv_isub hx hb dX2_put_65 ?_
        refine kail (v := (vq (Int32.toNatClampNeg (x4 - (1 : Int32))))) S hE hP 4 rfl h.1 rfl rfl dX2_put_66 ?_
        have h := h.2
        refine kais S hE hP hD hS 4 rfl h.1 rfl dX2_put_67 (fun H locs hP hD hS => ?_)
        have h := h.2
        have hP : va_P G vwCl (st_W cy a vn vf vs (upd vp (Int32.toNatClampNeg x4) (vp (Int32.toNatClampNeg (x4 - (1 : Int32))))) (upd vq (Int32.toNatClampNeg x4) (vq (Int32.toNatClampNeg (x4 - (1 : Int32))))) vd vo) H := hP
        have hD : va_D A (st_W cy a vn vf vs (upd vp (Int32.toNatClampNeg x4) (vp (Int32.toNatClampNeg (x4 - (1 : Int32))))) (upd vq (Int32.toNatClampNeg x4) (vq (Int32.toNatClampNeg (x4 - (1 : Int32))))) vd vo) := hD
        refine lv_iinc (v := (x4 + (-1 : Int32))) (lv' := [(4, .int (x4 + (-1 : Int32))), (0, .ref (a 2)), (1, .int x1), (2, .int x2), (3, .int x3)]) hx hb dX2_put_68 hl (k := 4) rfl (by rfl) (by decide) rfl (fun ls hl => ?_)
        refine lv_goto (tgt := 30) hx hb dX2_put_71 (by decide) ?_
        exact ih_30 _ _ _ h _ _ _ hP hD hS (lv_sub hl [1, 2, 3, 4, 0] rfl)
  have J_24 : ∀ (vn : Nat → Int32) (vp : Nat → Int32) (vq : Nat → Int32) (x1 : Int32) (x2 : Int32) (x3 : Int32), vX2_put_24 vn vp vq x1 x2 x3 K  → ∀ (H : Heap) (locs : List Loc) (ls : Array Slot), va_P G vwCl (st_W cy a vn vf vs vp vq vd vo) H → va_D A (st_W cy a vn vf vs vp vq vd vo) → va_S A s.heap H locs → lv_has ls 5 [(0, .ref (a 2)), (1, .int x1), (2, .int x2), (3, .int x3)] → W p l e (headSpec (ws_ yX2_put cX2_put 5 none) ({ frames := 1, cells := 0, slots := 0, locals := 22 } : Room)).room s m ([.ref (a 2), .int p1, .int p2] : List Value).toArray below meth c H locs 0 0 (MQ below (RV G K (fun u => st_W cy a u.1 vf vs u.2.1 u.2.2 vd vo) A) ([.ref (a 2), .int p1, .int p2] : List Value).toArray s 0 0 A) (F0 m 24 ls []) := by
    intro vn vp vq x1 x2 x3 h H locs ls hP hD hS hl
    unfold vX2_put_24 at h
    refine lv_aload_n hx hb dX2_put_24 rfl (lv_at hl 0 rfl) ?_
    refine kg (v := .int (vn 10)) S hE hP 2 rfl rfl 0 (by decide) q_7_13 rfl rfl inlX2 dX2_put_25 ?_
    refine lv_istore (lv' := [(4, .int (vn 10)), (0, .ref (a 2)), (1, .int x1), (2, .int x2), (3, .int x3)]) hx hb dX2_put_28 hl (by decide) rfl (fun ls hl => ?_)
    obtain ⟨k0, h⟩ := h
    exact L_30 _ _ _ _ k0 _ _ _ h _ _ _ hP hD hS (lv_sub hl [1, 2, 3, 4, 0] rfl)
  refine lv_aload_n hx hb dX2_put_0 rfl (lv_at hl 0 rfl) ?_
  refine lv_iload_n hx hb dX2_put_1 rfl (lv_at hl 1 rfl) ?_
  refine kc_Vi0 (As := [.int p1]) (rest := []) S hE (ctX2_indexFor l G cy a vn vf vs vp vq vd vo p1 _ h) q_12_22 q_12_23 q_13_0 q_2_16 q_13_1 rfl 2 rfl rfl ydX2_indexFor ⟨⟨rfl, rfl⟩, ⟨Nat.le_of_ble_eq_true rfl, Nat.le_of_ble_eq_true rfl⟩⟩ ⟨Nat.zero_le _, Nat.zero_le _⟩ hP hD hS rfl hl.1 rfl (Nat.le_of_ble_eq_true rfl) dX2_put_2 (fun r_2 u_2 H locs h hP hD hS => ?_)
  refine lv_istore_n (lv' := [(3, .int r_2), (0, .ref (a 2)), (1, .int p1), (2, .int p2)]) hx hb dX2_put_5 rfl hl (by decide) rfl (fun ls hl => ?_)
  refine lv_iload_n hx hb dX2_put_6 rfl (lv_at hl 0 rfl) ?_
  refine lv_aload_n hx hb dX2_put_7 rfl (lv_at hl 1 rfl) ?_
  refine kg (v := .int (vn 10)) S hE hP 2 rfl rfl 0 (by decide) q_7_13 rfl rfl inlX2 dX2_put_8 ?_
  refine lv_icmp_ge (tgt := 24) hx hb dX2_put_11 (by decide) (fun c_11 => ?_) (fun c_11 => ?_)
  · have h := h.1 c_11
    exact J_24 _ _ _ _ _ _ h _ _ _ hP hD hS (lv_sub hl [1, 2, 3, 0] rfl)
  · have h := h.2 c_11
    refine lv_aload_n hx hb dX2_put_14 rfl (lv_at hl 1 rfl) ?_
    refine kg (v := .ref (a 3)) S hE hP 2 rfl rfl 1 (by decide) q_3_6 rfl rfl inlX2 dX2_put_15 ?_
    refine lv_iload_n hx hb dX2_put_18 rfl (lv_at hl 0 rfl) ?_
    refine kail (v := (vp (Int32.toNatClampNeg r_2))) S hE hP 3 rfl h.1 rfl rfl dX2_put_19 ?_
    have h := h.2
    refine lv_iload_n hx hb dX2_put_20 rfl (lv_at hl 2 rfl) ?_
    refine lv_icmp_eq (tgt := 84) hx hb dX2_put_21 (by decide) (fun c_21 => ?_) (fun c_21 => ?_)
    · have h := h.1 c_21
      exact J_84 _ _ _ _ _ _ h _ _ _ hP hD hS (lv_sub hl [1, 2, 3, 0] rfl)
    · have h := h.2 c_21
      exact J_24 _ _ _ _ _ _ h _ _ _ hP hD hS (lv_sub hl [1, 2, 3, 0] rfl)
def vX2_limitAt_129 (vn : Nat → Int32) (vp : Nat → Int32) (vq : Nat → Int32) (x1 : UInt32) (x2 : Int32) (K : UInt32 → Unit → Prop) (B38 : Int32 → Prop) : Prop :=
  B38 (x2 + (1 : Int32))
def vX2_limitAt_38b (vn : Nat → Int32) (vp : Nat → Int32) (vq : Nat → Int32) (x1 : UInt32) (K : UInt32 → Unit → Prop)  (B38 : Int32 → Prop) (x2 : Int32) : Prop :=
  ((vn 10) ≤ x2 → vp_in ((vn 10) - (1 : Int32)) 6 ∧ vf_n32 (FP.fdiv (FP.i2f (vq (Int32.toNatClampNeg ((vn 10) - (1 : Int32))))) (1148846080 : UInt32)) ∧ K (FP.fdiv (FP.i2f (vq (Int32.toNatClampNeg ((vn 10) - (1 : Int32))))) (1148846080 : UInt32)) ()) ∧ (¬ (vn 10) ≤ x2 → vp_in (x2 - (1 : Int32)) 6 ∧ vf_n32 (FP.fdiv (FP.i2f (vp (Int32.toNatClampNeg (x2 - (1 : Int32))))) (1120403456 : UInt32)) ∧ vp_in x2 6 ∧ vf_n32 (FP.fdiv (FP.i2f (vp (Int32.toNatClampNeg x2))) (1120403456 : UInt32)) ∧ ((0 : Int32) ≤ (fcg x1 (FP.fdiv (FP.i2f (vp (Int32.toNatClampNeg x2))) (1120403456 : UInt32))) → vX2_limitAt_129 vn vp vq x1 x2 K B38) ∧ (¬ (0 : Int32) ≤ (fcg x1 (FP.fdiv (FP.i2f (vp (Int32.toNatClampNeg x2))) (1120403456 : UInt32))) → ((0 : Int32) ≤ (fcg (FP.fdiv (FP.i2f (vp (Int32.toNatClampNeg (x2 - (1 : Int32))))) (1120403456 : UInt32)) (FP.fdiv (FP.i2f (vp (Int32.toNatClampNeg x2))) (1120403456 : UInt32))) → vX2_limitAt_129 vn vp vq x1 x2 K B38) ∧ (¬ (0 : Int32) ≤ (fcg (FP.fdiv (FP.i2f (vp (Int32.toNatClampNeg (x2 - (1 : Int32))))) (1120403456 : UInt32)) (FP.fdiv (FP.i2f (vp (Int32.toNatClampNeg x2))) (1120403456 : UInt32))) → vp_in (x2 - (1 : Int32)) 6 ∧ vf_n32 (FP.fdiv (FP.i2f (vq (Int32.toNatClampNeg (x2 - (1 : Int32))))) (1148846080 : UInt32)) ∧ vp_in x2 6 ∧ vf_n32 (FP.fdiv (FP.i2f (vq (Int32.toNatClampNeg x2))) (1148846080 : UInt32)) ∧ vf_n32 (FP.fsub (FP.fdiv (FP.i2f (vq (Int32.toNatClampNeg x2))) (1148846080 : UInt32)) (FP.fdiv (FP.i2f (vq (Int32.toNatClampNeg (x2 - (1 : Int32))))) (1148846080 : UInt32))) ∧ vf_n32 (FP.fsub x1 (FP.fdiv (FP.i2f (vp (Int32.toNatClampNeg (x2 - (1 : Int32))))) (1120403456 : UInt32))) ∧ vf_n32 (FP.fsub (FP.fdiv (FP.i2f (vp (Int32.toNatClampNeg x2))) (1120403456 : UInt32)) (FP.fdiv (FP.i2f (vp (Int32.toNatClampNeg (x2 - (1 : Int32))))) (1120403456 : UInt32))) ∧ vf_n32 (FP.fdiv (FP.fsub x1 (FP.fdiv (FP.i2f (vp (Int32.toNatClampNeg (x2 - (1 : Int32))))) (1120403456 : UInt32))) (FP.fsub (FP.fdiv (FP.i2f (vp (Int32.toNatClampNeg x2))) (1120403456 : UInt32)) (FP.fdiv (FP.i2f (vp (Int32.toNatClampNeg (x2 - (1 : Int32))))) (1120403456 : UInt32)))) ∧ vf_n32 (FP.fmul (FP.fsub (FP.fdiv (FP.i2f (vq (Int32.toNatClampNeg x2))) (1148846080 : UInt32)) (FP.fdiv (FP.i2f (vq (Int32.toNatClampNeg (x2 - (1 : Int32))))) (1148846080 : UInt32))) (FP.fdiv (FP.fsub x1 (FP.fdiv (FP.i2f (vp (Int32.toNatClampNeg (x2 - (1 : Int32))))) (1120403456 : UInt32))) (FP.fsub (FP.fdiv (FP.i2f (vp (Int32.toNatClampNeg x2))) (1120403456 : UInt32)) (FP.fdiv (FP.i2f (vp (Int32.toNatClampNeg (x2 - (1 : Int32))))) (1120403456 : UInt32))))) ∧ vf_n32 (FP.fadd (FP.fdiv (FP.i2f (vq (Int32.toNatClampNeg (x2 - (1 : Int32))))) (1148846080 : UInt32)) (FP.fmul (FP.fsub (FP.fdiv (FP.i2f (vq (Int32.toNatClampNeg x2))) (1148846080 : UInt32)) (FP.fdiv (FP.i2f (vq (Int32.toNatClampNeg (x2 - (1 : Int32))))) (1148846080 : UInt32))) (FP.fdiv (FP.fsub x1 (FP.fdiv (FP.i2f (vp (Int32.toNatClampNeg (x2 - (1 : Int32))))) (1120403456 : UInt32))) (FP.fsub (FP.fdiv (FP.i2f (vp (Int32.toNatClampNeg x2))) (1120403456 : UInt32)) (FP.fdiv (FP.i2f (vp (Int32.toNatClampNeg (x2 - (1 : Int32))))) (1120403456 : UInt32)))))) ∧ K (FP.fadd (FP.fdiv (FP.i2f (vq (Int32.toNatClampNeg (x2 - (1 : Int32))))) (1148846080 : UInt32)) (FP.fmul (FP.fsub (FP.fdiv (FP.i2f (vq (Int32.toNatClampNeg x2))) (1148846080 : UInt32)) (FP.fdiv (FP.i2f (vq (Int32.toNatClampNeg (x2 - (1 : Int32))))) (1148846080 : UInt32))) (FP.fdiv (FP.fsub x1 (FP.fdiv (FP.i2f (vp (Int32.toNatClampNeg (x2 - (1 : Int32))))) (1120403456 : UInt32))) (FP.fsub (FP.fdiv (FP.i2f (vp (Int32.toNatClampNeg x2))) (1120403456 : UInt32)) (FP.fdiv (FP.i2f (vp (Int32.toNatClampNeg (x2 - (1 : Int32))))) (1120403456 : UInt32)))))) ())))
def vX2_limitAt_38F (vn : Nat → Int32) (vp : Nat → Int32) (vq : Nat → Int32) (x1 : UInt32) (K : UInt32 → Unit → Prop)  : ((Int32) → Prop) → (Int32) → Prop := fun B z => vX2_limitAt_38b vn vp vq x1 K  (fun z0 => B z0) z
def vX2_limitAt (vn : Nat → Int32) (vp : Nat → Int32) (vq : Nat → Int32) (p1 : UInt32) (K : UInt32 → Unit → Prop) : Prop :=
  (¬ (vn 10) = (0 : Int32) → vf_n32 (FP.fdiv (FP.i2f (vp 0)) (1120403456 : UInt32)) ∧ ((0 : Int32) < (fcg p1 (FP.fdiv (FP.i2f (vp 0)) (1120403456 : UInt32))) → ∃ k, lp (vX2_limitAt_38F vn vp vq p1 K ) k (1 : Int32)) ∧ (¬ (0 : Int32) < (fcg p1 (FP.fdiv (FP.i2f (vp 0)) (1120403456 : UInt32))) → vf_n32 (FP.fdiv (FP.i2f (vq 0)) (1148846080 : UInt32)) ∧ K (FP.fdiv (FP.i2f (vq 0)) (1148846080 : UInt32)) ())) ∧ ((vn 10) = (0 : Int32) → K (1056964608 : UInt32) ())
set_option maxRecDepth 100000 in
set_option maxHeartbeats 4000000 in
theorem ctX2_limitAt (l : Launch) (G : va_G) (cy : Nat → ClassId) (a : Nat → Nat) (vn : Nat → Int32) (vf : Nat → UInt32) (vs : Nat → Int32) (vp : Nat → Int32) (vq : Nat → Int32) (vd : Nat → Int32) (vo : Nat → Int32) (p1 : UInt32) (K : UInt32 → Unit → Prop) (h : vX2_limitAt vn vp vq p1 K) : Met l yX2_limitAt (ws_ yX2_limitAt cX2_limitAt 7 (some .float)) ({ frames := 0, cells := 0, slots := 0, locals := 0 } : Room) (CP G cy [.ref (a 2), .float p1] (st_W cy a vn vf vs vp vq vd vo)) (RF G K (fun u => st_W cy a vn vf vs vp vq vd vo) (A1 (st_W cy a vn vf vs vp vq vd vo))) 0 0 (A1 (st_W cy a vn vf vs vp vq vd vo)) := by
  refine hd_go (Qf := fun A => (RF G K (fun u => st_W cy a vn vf vs vp vq vd vo) A)) (by decide +kernel) (Nat.le_of_ble_eq_true rfl) ?_
  intro p e s m below meth c ls A hx hb hr hlocks S hE hP hD hS hl
  have hl : lv_has ls 7 [(0, .ref (a 2)), (1, .float p1)] := hl
  unfold vX2_limitAt at h
  have L_38 : ∀ (vn : Nat → Int32) (vp : Nat → Int32) (vq : Nat → Int32) (x1 : UInt32) (k_38 : Nat) (x2 : Int32), lp (vX2_limitAt_38F vn vp vq x1 K ) k_38 x2 → ∀ (H : Heap) (locs : List Loc) (ls : Array Slot), va_P G vwCl (st_W cy a vn vf vs vp vq vd vo) H → va_D A (st_W cy a vn vf vs vp vq vd vo) → va_S A s.heap H locs → lv_has ls 7 [(0, .ref (a 2)), (1, .float x1), (2, .int x2)] → W p l e (headSpec (ws_ yX2_limitAt cX2_limitAt 7 (some .float)) ({ frames := 0, cells := 0, slots := 0, locals := 0 } : Room)).room s m ([.ref (a 2), .float p1] : List Value).toArray below meth c H locs 0 0 (MQ below (RF G K (fun u => st_W cy a vn vf vs vp vq vd vo) A) ([.ref (a 2), .float p1] : List Value).toArray s 0 0 A) (F0 m 38 ls []) := by
    intro vn vp vq x1 k_38
    induction k_38 with
    | zero => intro x2 h; exact h.elim
    | succ k_38 ih_38 =>
      have J_129 : ∀ (x2 : Int32), vX2_limitAt_129 vn vp vq x1 x2 K (fun z0 => lp (vX2_limitAt_38F vn vp vq x1 K ) k_38 z0) → ∀ (H : Heap) (locs : List Loc) (ls : Array Slot), va_P G vwCl (st_W cy a vn vf vs vp vq vd vo) H → va_D A (st_W cy a vn vf vs vp vq vd vo) → va_S A s.heap H locs → lv_has ls 7 [(0, .ref (a 2)), (1, .float x1), (2, .int x2)] → W p l e (headSpec (ws_ yX2_limitAt cX2_limitAt 7 (some .float)) ({ frames := 0, cells := 0, slots := 0, locals := 0 } : Room)).room s m ([.ref (a 2), .float p1] : List Value).toArray below meth c H locs 0 0 (MQ below (RF G K (fun u => st_W cy a vn vf vs vp vq vd vo) A) ([.ref (a 2), .float p1] : List Value).toArray s 0 0 A) (F0 m 129 ls []) := by
        intro x2 h H locs ls hP hD hS hl
        unfold vX2_limitAt_129 at h
        refine lv_iinc (v := (x2 + (1 : Int32))) (lv' := [(2, .int (x2 + (1 : Int32))), (0, .ref (a 2)), (1, .float x1)]) hx hb dX2_limitAt_129 hl (k := 2) rfl (by rfl) (by decide) rfl (fun ls hl => ?_)
        refine lv_goto (tgt := 38) hx hb dX2_limitAt_132 (by decide) ?_
        exact ih_38 (x2 + (1 : Int32)) h _ _ _ hP hD hS (lv_sub hl [1, 2, 0] rfl)
      intro x2 h H locs ls hP hD hS hl
      have h : vX2_limitAt_38b vn vp vq x1 K  (fun z0 => lp (vX2_limitAt_38F vn vp vq x1 K ) k_38 z0) x2 := h
      unfold vX2_limitAt_38b at h
      refine lv_iload_n hx hb dX2_limitAt_38 rfl (lv_at hl 2 rfl) ?_
      refine lv_aload_n hx hb dX2_limitAt_39 rfl (lv_at hl 0 rfl) ?_
      refine kg (v := .int (vn 10)) S hE hP 2 rfl rfl 0 (by decide) q_7_13 rfl rfl inlX2 dX2_limitAt_40 ?_
      refine lv_icmp_ge (tgt := 135) hx hb dX2_limitAt_43 (by decide) (fun c_43 => ?_) (fun c_43 => ?_)
      · have h := h.1 c_43
        refine lv_aload_n hx hb dX2_limitAt_135 rfl (lv_at hl 0 rfl) ?_
        refine kg (v := .ref (a 4)) S hE hP 2 rfl rfl 2 (by decide) q_3_7 rfl rfl inlX2 dX2_limitAt_136 ?_
        refine lv_aload_n hx hb dX2_limitAt_139 rfl (lv_at hl 0 rfl) ?_
        refine kg (v := .int (vn 10)) S hE hP 2 rfl rfl 0 (by decide) q_7_13 rfl rfl inlX2 dX2_limitAt_140 ?_
        refine lv_iconst (v := (1 : Int32)) hx hb dX2_limitAt_143 (by decide) ?_
        refine lv_isub hx hb dX2_limitAt_144 ?_
        refine kail (v := (vq (Int32.toNatClampNeg ((vn 10) - (1 : Int32))))) S hE hP 4 rfl h.1 rfl rfl dX2_limitAt_145 ?_
        have h := h.2
        refine lv_i2f hx hb dX2_limitAt_146 ?_
        refine lv_ldcf hx hb S.2.2.2.1 (S.2.2.2.2 _ q_7_16) dX2_limitAt_147 ?_
        refine lv_fdiv hx hb dX2_limitAt_149 h.1 ?_
        have h := h.2
        exact W.fret (v := (FP.fdiv (FP.i2f (vq (Int32.toNatClampNeg ((vn 10) - (1 : Int32))))) (1148846080 : UInt32))) hx hb hr (fun t ht hW => ⟨⟨(FP.fdiv (FP.i2f (vq (Int32.toNatClampNeg ((vn 10) - (1 : Int32))))) (1148846080 : UInt32)), (), rfl, h, ⟨hp_at ht hP, hD⟩⟩, hS.F ht⟩) hS.2.2 dX2_limitAt_150
      · have h := h.2 c_43
        refine lv_aload_n hx hb dX2_limitAt_46 rfl (lv_at hl 0 rfl) ?_
        refine kg (v := .ref (a 3)) S hE hP 2 rfl rfl 1 (by decide) q_3_6 rfl rfl inlX2 dX2_limitAt_47 ?_
        refine lv_iload_n hx hb dX2_limitAt_50 rfl (lv_at hl 2 rfl) ?_
        refine lv_iconst (v := (1 : Int32)) hx hb dX2_limitAt_51 (by decide) ?_
        refine lv_isub hx hb dX2_limitAt_52 ?_
        refine kail (v := (vp (Int32.toNatClampNeg (x2 - (1 : Int32))))) S hE hP 3 rfl h.1 rfl rfl dX2_limitAt_53 ?_
        have h := h.2
        refine lv_i2f hx hb dX2_limitAt_54 ?_
        refine lv_ldcf hx hb S.2.2.2.1 (S.2.2.2.2 _ q_7_15) dX2_limitAt_55 ?_
        refine lv_fdiv hx hb dX2_limitAt_57 h.1 ?_
        have h := h.2
        refine lv_fstore_n (lv' := [(3, .float (FP.fdiv (FP.i2f (vp (Int32.toNatClampNeg (x2 - (1 : Int32))))) (1120403456 : UInt32))), (0, .ref (a 2)), (1, .float x1), (2, .int x2)]) hx hb dX2_limitAt_58 rfl hl (by decide) rfl (fun ls hl => ?_)
        refine lv_aload_n hx hb dX2_limitAt_59 rfl (lv_at hl 1 rfl) ?_
        refine kg (v := .ref (a 3)) S hE hP 2 rfl rfl 1 (by decide) q_3_6 rfl rfl inlX2 dX2_limitAt_60 ?_
        refine lv_iload_n hx hb dX2_limitAt_63 rfl (lv_at hl 3 rfl) ?_
        refine kail (v := (vp (Int32.toNatClampNeg x2))) S hE hP 3 rfl h.1 rfl rfl dX2_limitAt_64 ?_
        have h := h.2
        refine lv_i2f hx hb dX2_limitAt_65 ?_
        refine lv_ldcf hx hb S.2.2.2.1 (S.2.2.2.2 _ q_7_15) dX2_limitAt_66 ?_
        refine lv_fdiv hx hb dX2_limitAt_68 h.1 ?_
        have h := h.2
        refine lv_fstore (lv' := [(4, .float (FP.fdiv (FP.i2f (vp (Int32.toNatClampNeg x2))) (1120403456 : UInt32))), (3, .float (FP.fdiv (FP.i2f (vp (Int32.toNatClampNeg (x2 - (1 : Int32))))) (1120403456 : UInt32))), (0, .ref (a 2)), (1, .float x1), (2, .int x2)]) hx hb dX2_limitAt_69 hl (by decide) rfl (fun ls hl => ?_)
        refine lv_fload_n hx hb dX2_limitAt_71 rfl (lv_at hl 3 rfl) ?_
        refine lv_fload hx hb dX2_limitAt_72 (lv_at hl 0 rfl) ?_
        refine lv_fcmp hx hb dX2_limitAt_74 ?_
        refine lv_if_ge (tgt := 129) hx hb dX2_limitAt_75 (by decide) (fun c_75 => ?_) (fun c_75 => ?_)
        · have h := h.1 c_75
          exact J_129 _ h _ _ _ hP hD hS (lv_sub hl [2, 3, 4] rfl)
        · have h := h.2 c_75
          refine lv_fload_n hx hb dX2_limitAt_78 rfl (lv_at hl 1 rfl) ?_
          refine lv_fload hx hb dX2_limitAt_79 (lv_at hl 0 rfl) ?_
          refine lv_fcmp hx hb dX2_limitAt_81 ?_
          refine lv_if_ge (tgt := 129) hx hb dX2_limitAt_82 (by decide) (fun c_82 => ?_) (fun c_82 => ?_)
          · have h := h.1 c_82
            exact J_129 _ h _ _ _ hP hD hS (lv_sub hl [2, 3, 4] rfl)
          · have h := h.2 c_82
            refine lv_aload_n hx hb dX2_limitAt_85 rfl (lv_at hl 2 rfl) ?_
            refine kg (v := .ref (a 4)) S hE hP 2 rfl rfl 2 (by decide) q_3_7 rfl rfl inlX2 dX2_limitAt_86 ?_
            refine lv_iload_n hx hb dX2_limitAt_89 rfl (lv_at hl 4 rfl) ?_
            refine lv_iconst (v := (1 : Int32)) hx hb dX2_limitAt_90 (by decide) ?_
            refine lv_isub hx hb dX2_limitAt_91 ?_
            refine kail (v := (vq (Int32.toNatClampNeg (x2 - (1 : Int32))))) S hE hP 4 rfl h.1 rfl rfl dX2_limitAt_92 ?_
            have h := h.2
            refine lv_i2f hx hb dX2_limitAt_93 ?_
            refine lv_ldcf hx hb S.2.2.2.1 (S.2.2.2.2 _ q_7_16) dX2_limitAt_94 ?_
            refine lv_fdiv hx hb dX2_limitAt_96 h.1 ?_
            have h := h.2
            refine lv_fstore (lv' := [(5, .float (FP.fdiv (FP.i2f (vq (Int32.toNatClampNeg (x2 - (1 : Int32))))) (1148846080 : UInt32))), (4, .float (FP.fdiv (FP.i2f (vp (Int32.toNatClampNeg x2))) (1120403456 : UInt32))), (3, .float (FP.fdiv (FP.i2f (vp (Int32.toNatClampNeg (x2 - (1 : Int32))))) (1120403456 : UInt32))), (0, .ref (a 2)), (1, .float x1), (2, .int x2)]) hx hb dX2_limitAt_97 hl (by decide) rfl (fun ls hl => ?_)
            refine lv_aload_n hx hb dX2_limitAt_99 rfl (lv_at hl 3 rfl) ?_
            refine kg (v := .ref (a 4)) S hE hP 2 rfl rfl 2 (by decide) q_3_7 rfl rfl inlX2 dX2_limitAt_100 ?_
            refine lv_iload_n hx hb dX2_limitAt_103 rfl (lv_at hl 5 rfl) ?_
            refine kail (v := (vq (Int32.toNatClampNeg x2))) S hE hP 4 rfl h.1 rfl rfl dX2_limitAt_104 ?_
            have h := h.2
            refine lv_i2f hx hb dX2_limitAt_105 ?_
            refine lv_ldcf hx hb S.2.2.2.1 (S.2.2.2.2 _ q_7_16) dX2_limitAt_106 ?_
            refine lv_fdiv hx hb dX2_limitAt_108 h.1 ?_
            have h := h.2
            refine lv_fstore (lv' := [(6, .float (FP.fdiv (FP.i2f (vq (Int32.toNatClampNeg x2))) (1148846080 : UInt32))), (5, .float (FP.fdiv (FP.i2f (vq (Int32.toNatClampNeg (x2 - (1 : Int32))))) (1148846080 : UInt32))), (4, .float (FP.fdiv (FP.i2f (vp (Int32.toNatClampNeg x2))) (1120403456 : UInt32))), (3, .float (FP.fdiv (FP.i2f (vp (Int32.toNatClampNeg (x2 - (1 : Int32))))) (1120403456 : UInt32))), (0, .ref (a 2)), (1, .float x1), (2, .int x2)]) hx hb dX2_limitAt_109 hl (by decide) rfl (fun ls hl => ?_)
            refine lv_fload hx hb dX2_limitAt_111 (lv_at hl 1 rfl) ?_
            refine lv_fload hx hb dX2_limitAt_113 (lv_at hl 0 rfl) ?_
            refine lv_fload hx hb dX2_limitAt_115 (lv_at hl 1 rfl) ?_
            refine lv_fsub hx hb dX2_limitAt_117 h.1 ?_
            have h := h.2
            refine lv_fload_n hx hb dX2_limitAt_118 rfl (lv_at hl 5 rfl) ?_
            refine lv_fload_n hx hb dX2_limitAt_119 rfl (lv_at hl 3 rfl) ?_
            refine lv_fsub hx hb dX2_limitAt_120 h.1 ?_
            have h := h.2
            refine lv_fload hx hb dX2_limitAt_121 (lv_at hl 2 rfl) ?_
            refine lv_fload_n hx hb dX2_limitAt_123 rfl (lv_at hl 3 rfl) ?_
            refine lv_fsub hx hb dX2_limitAt_124 h.1 ?_
            have h := h.2
            refine lv_fdiv hx hb dX2_limitAt_125 h.1 ?_
            have h := h.2
            refine lv_fmul hx hb dX2_limitAt_126 h.1 ?_
            have h := h.2
            refine lv_fadd hx hb dX2_limitAt_127 h.1 ?_
            have h := h.2
            exact W.fret (v := (FP.fadd (FP.fdiv (FP.i2f (vq (Int32.toNatClampNeg (x2 - (1 : Int32))))) (1148846080 : UInt32)) (FP.fmul (FP.fsub (FP.fdiv (FP.i2f (vq (Int32.toNatClampNeg x2))) (1148846080 : UInt32)) (FP.fdiv (FP.i2f (vq (Int32.toNatClampNeg (x2 - (1 : Int32))))) (1148846080 : UInt32))) (FP.fdiv (FP.fsub x1 (FP.fdiv (FP.i2f (vp (Int32.toNatClampNeg (x2 - (1 : Int32))))) (1120403456 : UInt32))) (FP.fsub (FP.fdiv (FP.i2f (vp (Int32.toNatClampNeg x2))) (1120403456 : UInt32)) (FP.fdiv (FP.i2f (vp (Int32.toNatClampNeg (x2 - (1 : Int32))))) (1120403456 : UInt32))))))) hx hb hr (fun t ht hW => ⟨⟨(FP.fadd (FP.fdiv (FP.i2f (vq (Int32.toNatClampNeg (x2 - (1 : Int32))))) (1148846080 : UInt32)) (FP.fmul (FP.fsub (FP.fdiv (FP.i2f (vq (Int32.toNatClampNeg x2))) (1148846080 : UInt32)) (FP.fdiv (FP.i2f (vq (Int32.toNatClampNeg (x2 - (1 : Int32))))) (1148846080 : UInt32))) (FP.fdiv (FP.fsub x1 (FP.fdiv (FP.i2f (vp (Int32.toNatClampNeg (x2 - (1 : Int32))))) (1120403456 : UInt32))) (FP.fsub (FP.fdiv (FP.i2f (vp (Int32.toNatClampNeg x2))) (1120403456 : UInt32)) (FP.fdiv (FP.i2f (vp (Int32.toNatClampNeg (x2 - (1 : Int32))))) (1120403456 : UInt32)))))), (), rfl, h, ⟨hp_at ht hP, hD⟩⟩, hS.F ht⟩) hS.2.2 dX2_limitAt_128
  refine lv_aload_n hx hb dX2_limitAt_0 rfl (lv_at hl 0 rfl) ?_
  refine kg (v := .int (vn 10)) S hE hP 2 rfl rfl 0 (by decide) q_7_13 rfl rfl inlX2 dX2_limitAt_1 ?_
  refine lv_if_ne (tgt := 10) hx hb dX2_limitAt_4 (by decide) (fun c_4 => ?_) (fun c_4 => ?_)
  · have h := h.1 c_4
    refine lv_fload_n hx hb dX2_limitAt_10 rfl (lv_at hl 1 rfl) ?_
    refine lv_aload_n hx hb dX2_limitAt_11 rfl (lv_at hl 0 rfl) ?_
    refine kg (v := .ref (a 3)) S hE hP 2 rfl rfl 1 (by decide) q_3_6 rfl rfl inlX2 dX2_limitAt_12 ?_
    refine lv_iconst (v := (0 : Int32)) hx hb dX2_limitAt_15 (by decide) ?_
    refine kail (v := (vp 0)) S hE hP 3 rfl (vi_0 (by decide)) tc_0 rfl dX2_limitAt_16 ?_
    refine lv_i2f hx hb dX2_limitAt_17 ?_
    refine lv_ldcf hx hb S.2.2.2.1 (S.2.2.2.2 _ q_7_15) dX2_limitAt_18 ?_
    refine lv_fdiv hx hb dX2_limitAt_20 h.1 ?_
    have h := h.2
    refine lv_fcmp hx hb dX2_limitAt_21 ?_
    refine lv_if_gt (tgt := 36) hx hb dX2_limitAt_22 (by decide) (fun c_22 => ?_) (fun c_22 => ?_)
    · have h := h.1 c_22
      refine lv_iconst (v := (1 : Int32)) hx hb dX2_limitAt_36 (by decide) ?_
      refine lv_istore_n (lv' := [(2, .int (1 : Int32)), (0, .ref (a 2)), (1, .float p1)]) hx hb dX2_limitAt_37 rfl hl (by decide) rfl (fun ls hl => ?_)
      obtain ⟨k0, h⟩ := h
      exact L_38 _ _ _ _ k0 _ h _ _ _ hP hD hS (lv_sub hl [1, 2, 0] rfl)
    · have h := h.2 c_22
      refine lv_aload_n hx hb dX2_limitAt_25 rfl (lv_at hl 0 rfl) ?_
      refine kg (v := .ref (a 4)) S hE hP 2 rfl rfl 2 (by decide) q_3_7 rfl rfl inlX2 dX2_limitAt_26 ?_
      refine lv_iconst (v := (0 : Int32)) hx hb dX2_limitAt_29 (by decide) ?_
      refine kail (v := (vq 0)) S hE hP 4 rfl (vi_0 (by decide)) tc_0 rfl dX2_limitAt_30 ?_
      refine lv_i2f hx hb dX2_limitAt_31 ?_
      refine lv_ldcf hx hb S.2.2.2.1 (S.2.2.2.2 _ q_7_16) dX2_limitAt_32 ?_
      refine lv_fdiv hx hb dX2_limitAt_34 h.1 ?_
      have h := h.2
      exact W.fret (v := (FP.fdiv (FP.i2f (vq 0)) (1148846080 : UInt32))) hx hb hr (fun t ht hW => ⟨⟨(FP.fdiv (FP.i2f (vq 0)) (1148846080 : UInt32)), (), rfl, h, ⟨hp_at ht hP, hD⟩⟩, hS.F ht⟩) hS.2.2 dX2_limitAt_35
  · have h := h.2 c_4
    refine lv_ldcf hx hb S.2.2.2.1 (S.2.2.2.2 _ q_7_14) dX2_limitAt_7 ?_
    exact W.fret (v := (1056964608 : UInt32)) hx hb hr (fun t ht hW => ⟨⟨(1056964608 : UInt32), (), rfl, h, ⟨hp_at ht hP, hD⟩⟩, hS.F ht⟩) hS.2.2 dX2_limitAt_9
def vX3_copyFrom (vn : Nat → Int32) (vn2 : Nat → Int32) (K : (Nat → Int32) → Prop) : Prop :=
  bz (vn2 4) ∧ K (upd (upd (upd (upd (upd vn 6 (vn2 6)) 7 (vn2 7)) 4 (vn2 4)) 3 (vn2 3)) 9 (vn2 9))
set_option maxRecDepth 100000 in
set_option maxHeartbeats 4000000 in
theorem ctX3_copyFrom (l : Launch) (G : va_G) (cy : Nat → ClassId) (a : Nat → Nat) (b : Nat → Nat) (vn : Nat → Int32) (vf : Nat → UInt32) (vs : Nat → Int32) (vp : Nat → Int32) (vq : Nat → Int32) (vd : Nat → Int32) (vo : Nat → Int32) (vn2 : Nat → Int32) (vf2 : Nat → UInt32) (vs2 : Nat → Int32) (vp2 : Nat → Int32) (vq2 : Nat → Int32) (vd2 : Nat → Int32) (vo2 : Nat → Int32)  (K : (Nat → Int32) → Prop) (h : vX3_copyFrom vn vn2 K) : Met l yX3_copyFrom (ws_ yX3_copyFrom cX3_copyFrom 2 none) ({ frames := 0, cells := 0, slots := 0, locals := 0 } : Room) (CP G cy [.ref (a 8), .ref (b 8)] (st_W cy a vn vf vs vp vq vd vo ++ st_W cy b vn2 vf2 vs2 vp2 vq2 vd2 vo2)) (RV G K (fun u => st_W cy a u vf vs vp vq vd vo ++ st_W cy b vn2 vf2 vs2 vp2 vq2 vd2 vo2) (A1 (st_W cy a vn vf vs vp vq vd vo ++ st_W cy b vn2 vf2 vs2 vp2 vq2 vd2 vo2))) 0 0 (A1 (st_W cy a vn vf vs vp vq vd vo ++ st_W cy b vn2 vf2 vs2 vp2 vq2 vd2 vo2)) := by
  refine hd_go (Qf := fun A => (RV G K (fun u => st_W cy a u vf vs vp vq vd vo ++ st_W cy b vn2 vf2 vs2 vp2 vq2 vd2 vo2) A)) (by decide +kernel) (Nat.le_of_ble_eq_true rfl) ?_
  intro p e s m below meth c ls A hx hb hr hlocks S hE hP hD hS hl
  have hl : lv_has ls 2 [(0, .ref (a 8)), (1, .ref (b 8))] := hl
  unfold vX3_copyFrom at h
  refine lv_aload_n hx hb dX3_copyFrom_0 rfl (lv_at hl 0 rfl) ?_
  refine lv_aload_n hx hb dX3_copyFrom_1 rfl (lv_at hl 1 rfl) ?_
  refine kg (v := .int (vn2 6)) S hE hP 17 rfl rfl 0 (by decide) q_7_8 rfl rfl inlX3 dX3_copyFrom_2 ?_
  refine kp S hE hP hD hS 8 rfl rfl 0 (by decide) q_7_8 rfl rfl tyX3_ok nmX3 inlX3 rfl rfl (Nat.le_of_ble_eq_true rfl) dX3_copyFrom_5 (fun H locs hP hD hS => ?_)
  have hP : va_P G vwCl (st_W cy a (upd vn 6 (vn2 6)) vf vs vp vq vd vo ++ st_W cy b vn2 vf2 vs2 vp2 vq2 vd2 vo2) H := hP
  have hD : va_D A (st_W cy a (upd vn 6 (vn2 6)) vf vs vp vq vd vo ++ st_W cy b vn2 vf2 vs2 vp2 vq2 vd2 vo2) := hD
  refine lv_aload_n hx hb dX3_copyFrom_8 rfl (lv_at hl 0 rfl) ?_
  refine lv_aload_n hx hb dX3_copyFrom_9 rfl (lv_at hl 1 rfl) ?_
  refine kg (v := .int (vn2 7)) S hE hP 17 rfl rfl 1 (by decide) q_7_2 rfl rfl inlX3 dX3_copyFrom_10 ?_
  refine kp S hE hP hD hS 8 rfl rfl 1 (by decide) q_7_2 rfl rfl tyX3_ok nmX3 inlX3 rfl rfl (Nat.le_of_ble_eq_true rfl) dX3_copyFrom_13 (fun H locs hP hD hS => ?_)
  have hP : va_P G vwCl (st_W cy a (upd (upd vn 6 (vn2 6)) 7 (vn2 7)) vf vs vp vq vd vo ++ st_W cy b vn2 vf2 vs2 vp2 vq2 vd2 vo2) H := hP
  have hD : va_D A (st_W cy a (upd (upd vn 6 (vn2 6)) 7 (vn2 7)) vf vs vp vq vd vo ++ st_W cy b vn2 vf2 vs2 vp2 vq2 vd2 vo2) := hD
  refine lv_aload_n hx hb dX3_copyFrom_16 rfl (lv_at hl 0 rfl) ?_
  refine lv_aload_n hx hb dX3_copyFrom_17 rfl (lv_at hl 1 rfl) ?_
  refine kg (v := .int (vn2 4)) S hE hP 17 rfl rfl 2 (by decide) q_6_21 rfl rfl inlX3 dX3_copyFrom_18 ?_
  have hob := h.1
  have h := h.2
  refine kp S hE hP hD hS 8 rfl rfl 2 (by decide) q_6_21 rfl rfl tyX3_ok nmX3 inlX3 (bz_nar hob) (bz_fit hob) (Nat.le_of_ble_eq_true rfl) dX3_copyFrom_21 (fun H locs hP hD hS => ?_)
  have hP : va_P G vwCl (st_W cy a (upd (upd (upd vn 6 (vn2 6)) 7 (vn2 7)) 4 (vn2 4)) vf vs vp vq vd vo ++ st_W cy b vn2 vf2 vs2 vp2 vq2 vd2 vo2) H := hP
  have hD : va_D A (st_W cy a (upd (upd (upd vn 6 (vn2 6)) 7 (vn2 7)) 4 (vn2 4)) vf vs vp vq vd vo ++ st_W cy b vn2 vf2 vs2 vp2 vq2 vd2 vo2) := hD
  refine lv_aload_n hx hb dX3_copyFrom_24 rfl (lv_at hl 0 rfl) ?_
  refine lv_aload_n hx hb dX3_copyFrom_25 rfl (lv_at hl 1 rfl) ?_
  refine kg (v := .int (vn2 3)) S hE hP 17 rfl rfl 3 (by decide) q_11_18 rfl rfl inlX3 dX3_copyFrom_26 ?_
  refine kp S hE hP hD hS 8 rfl rfl 3 (by decide) q_11_18 rfl rfl tyX3_ok nmX3 inlX3 rfl rfl (Nat.le_of_ble_eq_true rfl) dX3_copyFrom_29 (fun H locs hP hD hS => ?_)
  have hP : va_P G vwCl (st_W cy a (upd (upd (upd (upd vn 6 (vn2 6)) 7 (vn2 7)) 4 (vn2 4)) 3 (vn2 3)) vf vs vp vq vd vo ++ st_W cy b vn2 vf2 vs2 vp2 vq2 vd2 vo2) H := hP
  have hD : va_D A (st_W cy a (upd (upd (upd (upd vn 6 (vn2 6)) 7 (vn2 7)) 4 (vn2 4)) 3 (vn2 3)) vf vs vp vq vd vo ++ st_W cy b vn2 vf2 vs2 vp2 vq2 vd2 vo2) := hD
  refine lv_aload_n hx hb dX3_copyFrom_32 rfl (lv_at hl 0 rfl) ?_
  refine lv_aload_n hx hb dX3_copyFrom_33 rfl (lv_at hl 1 rfl) ?_
  refine kg (v := .int (vn2 9)) S hE hP 17 rfl rfl 4 (by decide) q_11_19 rfl rfl inlX3 dX3_copyFrom_34 ?_
  refine kp S hE hP hD hS 8 rfl rfl 4 (by decide) q_11_19 rfl rfl tyX3_ok nmX3 inlX3 rfl rfl (Nat.le_of_ble_eq_true rfl) dX3_copyFrom_37 (fun H locs hP hD hS => ?_)
  have hP : va_P G vwCl (st_W cy a (upd (upd (upd (upd (upd vn 6 (vn2 6)) 7 (vn2 7)) 4 (vn2 4)) 3 (vn2 3)) 9 (vn2 9)) vf vs vp vq vd vo ++ st_W cy b vn2 vf2 vs2 vp2 vq2 vd2 vo2) H := hP
  have hD : va_D A (st_W cy a (upd (upd (upd (upd (upd vn 6 (vn2 6)) 7 (vn2 7)) 4 (vn2 4)) 3 (vn2 3)) 9 (vn2 9)) vf vs vp vq vd vo ++ st_W cy b vn2 vf2 vs2 vp2 vq2 vd2 vo2) := hD
  exact W.vret hx hb hr (fun t ht hW => ⟨⟨(upd (upd (upd (upd (upd vn 6 (vn2 6)) 7 (vn2 7)) 4 (vn2 4)) 3 (vn2 3)) 9 (vn2 9)), rfl, h, ⟨hp_at ht hP, hD⟩⟩, hS.F ht⟩) hS.2.2 dX3_copyFrom_40
def vX3_startFar (vn : Nat → Int32) (K : (Nat → Int32) → Prop) : Prop :=
  K (upd (upd vn 4 (0 : Int32)) 3 (0 : Int32))
set_option maxRecDepth 100000 in
set_option maxHeartbeats 4000000 in
theorem ctX3_startFar (l : Launch) (G : va_G) (cy : Nat → ClassId) (a : Nat → Nat) (vn : Nat → Int32) (vf : Nat → UInt32) (vs : Nat → Int32) (vp : Nat → Int32) (vq : Nat → Int32) (vd : Nat → Int32) (vo : Nat → Int32)  (K : (Nat → Int32) → Prop) (h : vX3_startFar vn K) : Met l yX3_startFar (ws_ yX3_startFar cX3_startFar 1 none) ({ frames := 0, cells := 0, slots := 0, locals := 0 } : Room) (CP G cy [.ref (a 8)] (st_W cy a vn vf vs vp vq vd vo)) (RV G K (fun u => st_W cy a u vf vs vp vq vd vo) (A1 (st_W cy a vn vf vs vp vq vd vo))) 0 0 (A1 (st_W cy a vn vf vs vp vq vd vo)) := by
  refine hd_go (Qf := fun A => (RV G K (fun u => st_W cy a u vf vs vp vq vd vo) A)) (by decide +kernel) (Nat.le_of_ble_eq_true rfl) ?_
  intro p e s m below meth c ls A hx hb hr hlocks S hE hP hD hS hl
  have hl : lv_has ls 1 [(0, .ref (a 8))] := hl
  unfold vX3_startFar at h
  refine lv_aload_n hx hb dX3_startFar_0 rfl (lv_at hl 0 rfl) ?_
  refine lv_iconst (v := (0 : Int32)) hx hb dX3_startFar_1 (by decide) ?_
  refine kp S hE hP hD hS 8 rfl rfl 2 (by decide) q_6_21 rfl rfl tyX3_ok nmX3 inlX3 (by decide +kernel) (by decide +kernel) (Nat.le_of_ble_eq_true rfl) dX3_startFar_2 (fun H locs hP hD hS => ?_)
  have hP : va_P G vwCl (st_W cy a (upd vn 4 (0 : Int32)) vf vs vp vq vd vo) H := hP
  have hD : va_D A (st_W cy a (upd vn 4 (0 : Int32)) vf vs vp vq vd vo) := hD
  refine lv_aload_n hx hb dX3_startFar_5 rfl (lv_at hl 0 rfl) ?_
  refine lv_iconst (v := (0 : Int32)) hx hb dX3_startFar_6 (by decide) ?_
  refine kp S hE hP hD hS 8 rfl rfl 3 (by decide) q_11_18 rfl rfl tyX3_ok nmX3 inlX3 rfl rfl (Nat.le_of_ble_eq_true rfl) dX3_startFar_7 (fun H locs hP hD hS => ?_)
  have hP : va_P G vwCl (st_W cy a (upd (upd vn 4 (0 : Int32)) 3 (0 : Int32)) vf vs vp vq vd vo) H := hP
  have hD : va_D A (st_W cy a (upd (upd vn 4 (0 : Int32)) 3 (0 : Int32)) vf vs vp vq vd vo) := hD
  exact W.vret hx hb hr (fun t ht hW => ⟨⟨(upd (upd vn 4 (0 : Int32)) 3 (0 : Int32)), rfl, h, ⟨hp_at ht hP, hD⟩⟩, hS.F ht⟩) hS.2.2 dX3_startFar_10
def vX3_farMeasured (vn : Nat → Int32) (p1 : UInt32) (K : UInt32 → Unit → Prop) : Prop :=
  vf_n32 (FP.fdiv (FP.i2f (vn 6)) (1120403456 : UInt32)) ∧ vf_n32 (FP.fadd p1 (FP.fdiv (FP.i2f (vn 6)) (1120403456 : UInt32))) ∧ K (FP.fadd p1 (FP.fdiv (FP.i2f (vn 6)) (1120403456 : UInt32))) ()
set_option maxRecDepth 100000 in
set_option maxHeartbeats 4000000 in
theorem ctX3_farMeasured (l : Launch) (G : va_G) (cy : Nat → ClassId) (a : Nat → Nat) (vn : Nat → Int32) (vf : Nat → UInt32) (vs : Nat → Int32) (vp : Nat → Int32) (vq : Nat → Int32) (vd : Nat → Int32) (vo : Nat → Int32) (p1 : UInt32) (K : UInt32 → Unit → Prop) (h : vX3_farMeasured vn p1 K) : Met l yX3_farMeasured (ws_ yX3_farMeasured cX3_farMeasured 2 (some .float)) ({ frames := 0, cells := 0, slots := 0, locals := 0 } : Room) (CP G cy [.ref (a 8), .float p1] (st_W cy a vn vf vs vp vq vd vo)) (RF G K (fun u => st_W cy a vn vf vs vp vq vd vo) (A1 (st_W cy a vn vf vs vp vq vd vo))) 0 0 (A1 (st_W cy a vn vf vs vp vq vd vo)) := by
  refine hd_go (Qf := fun A => (RF G K (fun u => st_W cy a vn vf vs vp vq vd vo) A)) (by decide +kernel) (Nat.le_of_ble_eq_true rfl) ?_
  intro p e s m below meth c ls A hx hb hr hlocks S hE hP hD hS hl
  have hl : lv_has ls 2 [(0, .ref (a 8)), (1, .float p1)] := hl
  unfold vX3_farMeasured at h
  refine lv_fload_n hx hb dX3_farMeasured_0 rfl (lv_at hl 1 rfl) ?_
  refine lv_aload_n hx hb dX3_farMeasured_1 rfl (lv_at hl 0 rfl) ?_
  refine kg (v := .int (vn 6)) S hE hP 8 rfl rfl 0 (by decide) q_7_8 rfl rfl inlX3 dX3_farMeasured_2 ?_
  refine lv_i2f hx hb dX3_farMeasured_5 ?_
  refine lv_ldcf hx hb S.2.2.2.1 (S.2.2.2.2 _ q_7_3) dX3_farMeasured_6 ?_
  refine lv_fdiv hx hb dX3_farMeasured_8 h.1 ?_
  have h := h.2
  refine lv_fadd hx hb dX3_farMeasured_9 h.1 ?_
  have h := h.2
  exact W.fret (v := (FP.fadd p1 (FP.fdiv (FP.i2f (vn 6)) (1120403456 : UInt32)))) hx hb hr (fun t ht hW => ⟨⟨(FP.fadd p1 (FP.fdiv (FP.i2f (vn 6)) (1120403456 : UInt32))), (), rfl, h, ⟨hp_at ht hP, hD⟩⟩, hS.F ht⟩) hS.2.2 dX3_farMeasured_10
def vX3_nearMeasured (vn : Nat → Int32) (p1 : UInt32) (K : UInt32 → Unit → Prop) : Prop :=
  vf_n32 (FP.fdiv (FP.i2f (vn 7)) (1120403456 : UInt32)) ∧ vf_n32 (FP.fadd p1 (FP.fdiv (FP.i2f (vn 7)) (1120403456 : UInt32))) ∧ K (FP.fadd p1 (FP.fdiv (FP.i2f (vn 7)) (1120403456 : UInt32))) ()
set_option maxRecDepth 100000 in
set_option maxHeartbeats 4000000 in
theorem ctX3_nearMeasured (l : Launch) (G : va_G) (cy : Nat → ClassId) (a : Nat → Nat) (vn : Nat → Int32) (vf : Nat → UInt32) (vs : Nat → Int32) (vp : Nat → Int32) (vq : Nat → Int32) (vd : Nat → Int32) (vo : Nat → Int32) (p1 : UInt32) (K : UInt32 → Unit → Prop) (h : vX3_nearMeasured vn p1 K) : Met l yX3_nearMeasured (ws_ yX3_nearMeasured cX3_nearMeasured 2 (some .float)) ({ frames := 0, cells := 0, slots := 0, locals := 0 } : Room) (CP G cy [.ref (a 8), .float p1] (st_W cy a vn vf vs vp vq vd vo)) (RF G K (fun u => st_W cy a vn vf vs vp vq vd vo) (A1 (st_W cy a vn vf vs vp vq vd vo))) 0 0 (A1 (st_W cy a vn vf vs vp vq vd vo)) := by
  refine hd_go (Qf := fun A => (RF G K (fun u => st_W cy a vn vf vs vp vq vd vo) A)) (by decide +kernel) (Nat.le_of_ble_eq_true rfl) ?_
  intro p e s m below meth c ls A hx hb hr hlocks S hE hP hD hS hl
  have hl : lv_has ls 2 [(0, .ref (a 8)), (1, .float p1)] := hl
  unfold vX3_nearMeasured at h
  refine lv_fload_n hx hb dX3_nearMeasured_0 rfl (lv_at hl 1 rfl) ?_
  refine lv_aload_n hx hb dX3_nearMeasured_1 rfl (lv_at hl 0 rfl) ?_
  refine kg (v := .int (vn 7)) S hE hP 8 rfl rfl 1 (by decide) q_7_2 rfl rfl inlX3 dX3_nearMeasured_2 ?_
  refine lv_i2f hx hb dX3_nearMeasured_5 ?_
  refine lv_ldcf hx hb S.2.2.2.1 (S.2.2.2.2 _ q_7_3) dX3_nearMeasured_6 ?_
  refine lv_fdiv hx hb dX3_nearMeasured_8 h.1 ?_
  have h := h.2
  refine lv_fadd hx hb dX3_nearMeasured_9 h.1 ?_
  have h := h.2
  exact W.fret (v := (FP.fadd p1 (FP.fdiv (FP.i2f (vn 7)) (1120403456 : UInt32)))) hx hb hr (fun t ht hW => ⟨⟨(FP.fadd p1 (FP.fdiv (FP.i2f (vn 7)) (1120403456 : UInt32))), (), rfl, h, ⟨hp_at ht hP, hD⟩⟩, hS.F ht⟩) hS.2.2 dX3_nearMeasured_10
def vX3_measured (vn : Nat → Int32) (p1 : UInt32) (K : UInt32 → Unit → Prop) : Prop :=
  ((vn 4) = (0 : Int32) → vX3_farMeasured vn p1 (fun r_17 u_17 => K r_17 ())) ∧ (¬ (vn 4) = (0 : Int32) → vX3_nearMeasured vn p1 (fun r_9 u_9 => K r_9 ()))
set_option maxRecDepth 100000 in
set_option maxHeartbeats 4000000 in
theorem ctX3_measured (l : Launch) (G : va_G) (cy : Nat → ClassId) (a : Nat → Nat) (vn : Nat → Int32) (vf : Nat → UInt32) (vs : Nat → Int32) (vp : Nat → Int32) (vq : Nat → Int32) (vd : Nat → Int32) (vo : Nat → Int32) (p1 : UInt32) (K : UInt32 → Unit → Prop) (h : vX3_measured vn p1 K) : Met l yX3_measured (ws_ yX3_measured cX3_measured 2 (some .float)) ({ frames := 1, cells := 0, slots := 0, locals := 21 } : Room) (CP G cy [.ref (a 8), .float p1] (st_W cy a vn vf vs vp vq vd vo)) (RF G K (fun u => st_W cy a vn vf vs vp vq vd vo) (A1 (st_W cy a vn vf vs vp vq vd vo))) 0 0 (A1 (st_W cy a vn vf vs vp vq vd vo)) := by
  refine hd_go (Qf := fun A => (RF G K (fun u => st_W cy a vn vf vs vp vq vd vo) A)) (by decide +kernel) (Nat.le_of_ble_eq_true rfl) ?_
  intro p e s m below meth c ls A hx hb hr hlocks S hE hP hD hS hl
  have hl : lv_has ls 2 [(0, .ref (a 8)), (1, .float p1)] := hl
  unfold vX3_measured at h
  refine lv_aload_n hx hb dX3_measured_0 rfl (lv_at hl 0 rfl) ?_
  refine kg (v := .int (vn 4)) S hE hP 8 rfl rfl 2 (by decide) q_6_21 rfl rfl inlX3 dX3_measured_1 ?_
  refine lv_if_eq (tgt := 15) hx hb dX3_measured_4 (by decide) (fun c_4 => ?_) (fun c_4 => ?_)
  · have h := h.1 c_4
    refine lv_aload_n hx hb dX3_measured_15 rfl (lv_at hl 0 rfl) ?_
    refine lv_fload_n hx hb dX3_measured_16 rfl (lv_at hl 1 rfl) ?_
    refine kc_Vf0 (As := [.float p1]) (rest := []) S hE (ctX3_farMeasured l G cy a vn vf vs vp vq vd vo p1 _ h) q_7_4 q_7_5 q_7_6 q_3_0 q_7_7 rfl 8 rfl rfl ydX3_farMeasured ⟨⟨rfl, rfl⟩, ⟨Nat.le_of_ble_eq_true rfl, Nat.le_of_ble_eq_true rfl⟩⟩ ⟨Nat.zero_le _, Nat.zero_le _⟩ hP hD hS rfl hl.1 rfl (Nat.le_of_ble_eq_true rfl) dX3_measured_17 (fun r_17 u_17 H locs h hP hD hS => ?_)
    exact W.fret (v := r_17) hx hb hr (fun t ht hW => ⟨⟨r_17, (), rfl, h, ⟨hp_at ht hP, hD⟩⟩, hS.F ht⟩) hS.2.2 dX3_measured_20
  · have h := h.2 c_4
    refine lv_aload_n hx hb dX3_measured_7 rfl (lv_at hl 0 rfl) ?_
    refine lv_fload_n hx hb dX3_measured_8 rfl (lv_at hl 1 rfl) ?_
    refine kc_Vf0 (As := [.float p1]) (rest := []) S hE (ctX3_nearMeasured l G cy a vn vf vs vp vq vd vo p1 _ h) q_6_22 q_6_23 q_7_0 q_3_0 q_7_1 rfl 8 rfl rfl ydX3_nearMeasured ⟨⟨rfl, rfl⟩, ⟨Nat.le_of_ble_eq_true rfl, Nat.le_of_ble_eq_true rfl⟩⟩ ⟨Nat.zero_le _, Nat.zero_le _⟩ hP hD hS rfl hl.1 rfl (Nat.le_of_ble_eq_true rfl) dX3_measured_9 (fun r_9 u_9 H locs h hP hD hS => ?_)
    refine lv_goto (tgt := 20) hx hb dX3_measured_12 (by decide) ?_
    exact W.fret (v := r_9) hx hb hr (fun t ht hW => ⟨⟨r_9, (), rfl, h, ⟨hp_at ht hP, hD⟩⟩, hS.F ht⟩) hS.2.2 dX3_measured_20
def vX3_compare_65 (vn : Nat → Int32) (x2 : Int32) (y1 : Int32) (K : (Nat → Int32) → Prop)  : Prop :=
  (¬ y1 = (3 : Int32) → ((vn 4) = (0 : Int32) → K (upd vn 3 y1)) ∧ (¬ (vn 4) = (0 : Int32) → (¬ x2 = (0 : Int32) → K (upd vn 3 y1)) ∧ (x2 = (0 : Int32) → K (upd (upd (upd vn 3 y1) 4 (0 : Int32)) 9 ((vn 9) + (1 : Int32)))))) ∧ (y1 = (3 : Int32) → K (upd (upd (upd (upd vn 3 y1) 4 (1 : Int32)) 3 (0 : Int32)) 9 ((vn 9) + (1 : Int32))))
def vX3_compare_49 (vn : Nat → Int32) (x2 : Int32) (y0 : Int32) (K : (Nat → Int32) → Prop)  : Prop :=
  (y0 = (0 : Int32) → vX3_compare_65 vn x2 (0 : Int32) K ) ∧ (¬ y0 = (0 : Int32) → vX3_compare_65 vn x2 ((vn 3) + (1 : Int32)) K )
def vX3_compare_48 (vn : Nat → Int32) (x2 : Int32) (K : (Nat → Int32) → Prop)  : Prop :=
  vX3_compare_49 vn x2 (0 : Int32) K 
def vX3_compare_12 (vn : Nat → Int32) (x1 : UInt32) (y0 : Int32) (K : (Nat → Int32) → Prop)  : Prop :=
  (¬ (vn 4) = (0 : Int32) → vX3_compare_48 vn y0 K ) ∧ ((vn 4) = (0 : Int32) → (y0 = (0 : Int32) → vX3_compare_48 vn y0 K ) ∧ (¬ y0 = (0 : Int32) → vX3_farMeasured vn x1 (fun r_26 u_26 => vX3_nearMeasured vn x1 (fun r_31 u_31 => vf_n32 (FP.fsub r_26 r_31) ∧ vX6_size (FP.fsub r_26 r_31) (fun r_35 u_35 => ((0 : Int32) ≤ (fcg r_35 (1056964608 : UInt32)) → vX3_compare_48 vn y0 K ) ∧ (¬ (0 : Int32) ≤ (fcg r_35 (1056964608 : UInt32)) → vX3_compare_49 vn y0 (1 : Int32) K ))))))
def vX3_compare (vn : Nat → Int32) (p1 : UInt32) (K : (Nat → Int32) → Prop) : Prop :=
  ((0 : Int32) < (fcg p1 (1106247680 : UInt32)) → vX3_compare_12 vn p1 (0 : Int32) K ) ∧ (¬ (0 : Int32) < (fcg p1 (1106247680 : UInt32)) → vX3_compare_12 vn p1 (1 : Int32) K )
set_option maxRecDepth 100000 in
set_option maxHeartbeats 4000000 in
theorem ctX3_compare (l : Launch) (G : va_G) (cy : Nat → ClassId) (a : Nat → Nat) (vn : Nat → Int32) (vf : Nat → UInt32) (vs : Nat → Int32) (vp : Nat → Int32) (vq : Nat → Int32) (vd : Nat → Int32) (vo : Nat → Int32) (p1 : UInt32) (K : (Nat → Int32) → Prop) (h : vX3_compare vn p1 K) : Met l yX3_compare (ws_ yX3_compare cX3_compare 4 none) ({ frames := 1, cells := 0, slots := 0, locals := 21 } : Room) (CP G cy [.ref (a 8), .float p1] (st_W cy a vn vf vs vp vq vd vo)) (RV G K (fun u => st_W cy a u vf vs vp vq vd vo) (A1 (st_W cy a vn vf vs vp vq vd vo))) 0 0 (A1 (st_W cy a vn vf vs vp vq vd vo)) := by
  refine hd_go (Qf := fun A => (RV G K (fun u => st_W cy a u vf vs vp vq vd vo) A)) (by decide +kernel) (Nat.le_of_ble_eq_true rfl) ?_
  intro p e s m below meth c ls A hx hb hr hlocks S hE hP hD hS hl
  have hl : lv_has ls 4 [(0, .ref (a 8)), (1, .float p1)] := hl
  unfold vX3_compare at h
  have J_65 : ∀ (vn : Nat → Int32) (x2 : Int32) (y1 : Int32), vX3_compare_65 vn x2 y1 K  → ∀ (H : Heap) (locs : List Loc) (ls : Array Slot), va_P G vwCl (st_W cy a vn vf vs vp vq vd vo) H → va_D A (st_W cy a vn vf vs vp vq vd vo) → va_S A s.heap H locs → lv_has ls 4 [(0, .ref (a 8)), (2, .int x2)] → W p l e (headSpec (ws_ yX3_compare cX3_compare 4 none) ({ frames := 1, cells := 0, slots := 0, locals := 21 } : Room)).room s m ([.ref (a 8), .float p1] : List Value).toArray below meth c H locs 0 0 (MQ below (RV G K (fun u => st_W cy a u vf vs vp vq vd vo) A) ([.ref (a 8), .float p1] : List Value).toArray s 0 0 A) (F0 m 65 ls [.int y1, .ref (a 8)]) := by
    intro vn x2 y1 h H locs ls hP hD hS hl
    unfold vX3_compare_65 at h
    refine kp S hE hP hD hS 8 rfl rfl 3 (by decide) q_11_18 rfl rfl tyX3_ok nmX3 inlX3 rfl rfl (Nat.le_of_ble_eq_true rfl) dX3_compare_65 (fun H locs hP hD hS => ?_)
    have hP : va_P G vwCl (st_W cy a (upd vn 3 y1) vf vs vp vq vd vo) H := hP
    have hD : va_D A (st_W cy a (upd vn 3 y1) vf vs vp vq vd vo) := hD
    refine lv_aload_n hx hb dX3_compare_68 rfl (lv_at hl 0 rfl) ?_
    refine kg (v := .int y1) S hE hP 8 rfl rfl 3 (by decide) q_11_18 rfl rfl inlX3 dX3_compare_69 ?_
    refine lv_iconst (v := (3 : Int32)) hx hb dX3_compare_72 (by decide) ?_
    refine lv_icmp_ne (tgt := 99) hx hb dX3_compare_73 (by decide) (fun c_73 => ?_) (fun c_73 => ?_)
    · have h := h.1 c_73
      refine lv_aload_n hx hb dX3_compare_99 rfl (lv_at hl 0 rfl) ?_
      refine kg (v := .int (vn 4)) S hE hP 8 rfl rfl 2 (by decide) q_6_21 rfl rfl inlX3 dX3_compare_100 ?_
      refine lv_if_eq (tgt := 125) hx hb dX3_compare_103 (by decide) (fun c_103 => ?_) (fun c_103 => ?_)
      · have h := h.1 c_103
        exact W.vret hx hb hr (fun t ht hW => ⟨⟨(upd vn 3 y1), rfl, h, ⟨hp_at ht hP, hD⟩⟩, hS.F ht⟩) hS.2.2 dX3_compare_125
      · have h := h.2 c_103
        refine lv_iload_n hx hb dX3_compare_106 rfl (lv_at hl 1 rfl) ?_
        refine lv_if_ne (tgt := 125) hx hb dX3_compare_107 (by decide) (fun c_107 => ?_) (fun c_107 => ?_)
        · have h := h.1 c_107
          exact W.vret hx hb hr (fun t ht hW => ⟨⟨(upd vn 3 y1), rfl, h, ⟨hp_at ht hP, hD⟩⟩, hS.F ht⟩) hS.2.2 dX3_compare_125
        · have h := h.2 c_107
          refine lv_aload_n hx hb dX3_compare_110 rfl (lv_at hl 0 rfl) ?_
          refine lv_iconst (v := (0 : Int32)) hx hb dX3_compare_111 (by decide) ?_
          refine kp S hE hP hD hS 8 rfl rfl 2 (by decide) q_6_21 rfl rfl tyX3_ok nmX3 inlX3 (by decide +kernel) (by decide +kernel) (Nat.le_of_ble_eq_true rfl) dX3_compare_112 (fun H locs hP hD hS => ?_)
          have hP : va_P G vwCl (st_W cy a (upd (upd vn 3 y1) 4 (0 : Int32)) vf vs vp vq vd vo) H := hP
          have hD : va_D A (st_W cy a (upd (upd vn 3 y1) 4 (0 : Int32)) vf vs vp vq vd vo) := hD
          refine lv_aload_n hx hb dX3_compare_115 rfl (lv_at hl 0 rfl) ?_
          refine lv_dup hx hb dX3_compare_116 rfl ?_
          refine kg (v := .int (vn 9)) S hE hP 8 rfl rfl 4 (by decide) q_11_19 rfl rfl inlX3 dX3_compare_117 ?_
          refine lv_iconst (v := (1 : Int32)) hx hb dX3_compare_120 (by decide) ?_
          refine lv_iadd hx hb dX3_compare_121 ?_
          refine kp S hE hP hD hS 8 rfl rfl 4 (by decide) q_11_19 rfl rfl tyX3_ok nmX3 inlX3 rfl rfl (Nat.le_of_ble_eq_true rfl) dX3_compare_122 (fun H locs hP hD hS => ?_)
          have hP : va_P G vwCl (st_W cy a (upd (upd (upd vn 3 y1) 4 (0 : Int32)) 9 ((vn 9) + (1 : Int32))) vf vs vp vq vd vo) H := hP
          have hD : va_D A (st_W cy a (upd (upd (upd vn 3 y1) 4 (0 : Int32)) 9 ((vn 9) + (1 : Int32))) vf vs vp vq vd vo) := hD
          exact W.vret hx hb hr (fun t ht hW => ⟨⟨(upd (upd (upd vn 3 y1) 4 (0 : Int32)) 9 ((vn 9) + (1 : Int32))), rfl, h, ⟨hp_at ht hP, hD⟩⟩, hS.F ht⟩) hS.2.2 dX3_compare_125
    · have h := h.2 c_73
      refine lv_aload_n hx hb dX3_compare_76 rfl (lv_at hl 0 rfl) ?_
      refine lv_iconst (v := (1 : Int32)) hx hb dX3_compare_77 (by decide) ?_
      refine kp S hE hP hD hS 8 rfl rfl 2 (by decide) q_6_21 rfl rfl tyX3_ok nmX3 inlX3 (by decide +kernel) (by decide +kernel) (Nat.le_of_ble_eq_true rfl) dX3_compare_78 (fun H locs hP hD hS => ?_)
      have hP : va_P G vwCl (st_W cy a (upd (upd vn 3 y1) 4 (1 : Int32)) vf vs vp vq vd vo) H := hP
      have hD : va_D A (st_W cy a (upd (upd vn 3 y1) 4 (1 : Int32)) vf vs vp vq vd vo) := hD
      refine lv_aload_n hx hb dX3_compare_81 rfl (lv_at hl 0 rfl) ?_
      refine lv_iconst (v := (0 : Int32)) hx hb dX3_compare_82 (by decide) ?_
      refine kp S hE hP hD hS 8 rfl rfl 3 (by decide) q_11_18 rfl rfl tyX3_ok nmX3 inlX3 rfl rfl (Nat.le_of_ble_eq_true rfl) dX3_compare_83 (fun H locs hP hD hS => ?_)
      have hP : va_P G vwCl (st_W cy a (upd (upd (upd vn 3 y1) 4 (1 : Int32)) 3 (0 : Int32)) vf vs vp vq vd vo) H := hP
      have hD : va_D A (st_W cy a (upd (upd (upd vn 3 y1) 4 (1 : Int32)) 3 (0 : Int32)) vf vs vp vq vd vo) := hD
      refine lv_aload_n hx hb dX3_compare_86 rfl (lv_at hl 0 rfl) ?_
      refine lv_dup hx hb dX3_compare_87 rfl ?_
      refine kg (v := .int (vn 9)) S hE hP 8 rfl rfl 4 (by decide) q_11_19 rfl rfl inlX3 dX3_compare_88 ?_
      refine lv_iconst (v := (1 : Int32)) hx hb dX3_compare_91 (by decide) ?_
      refine lv_iadd hx hb dX3_compare_92 ?_
      refine kp S hE hP hD hS 8 rfl rfl 4 (by decide) q_11_19 rfl rfl tyX3_ok nmX3 inlX3 rfl rfl (Nat.le_of_ble_eq_true rfl) dX3_compare_93 (fun H locs hP hD hS => ?_)
      have hP : va_P G vwCl (st_W cy a (upd (upd (upd (upd vn 3 y1) 4 (1 : Int32)) 3 (0 : Int32)) 9 ((vn 9) + (1 : Int32))) vf vs vp vq vd vo) H := hP
      have hD : va_D A (st_W cy a (upd (upd (upd (upd vn 3 y1) 4 (1 : Int32)) 3 (0 : Int32)) 9 ((vn 9) + (1 : Int32))) vf vs vp vq vd vo) := hD
      refine lv_goto (tgt := 125) hx hb dX3_compare_96 (by decide) ?_
      exact W.vret hx hb hr (fun t ht hW => ⟨⟨(upd (upd (upd (upd vn 3 y1) 4 (1 : Int32)) 3 (0 : Int32)) 9 ((vn 9) + (1 : Int32))), rfl, h, ⟨hp_at ht hP, hD⟩⟩, hS.F ht⟩) hS.2.2 dX3_compare_125
  have J_49 : ∀ (vn : Nat → Int32) (x2 : Int32) (y0 : Int32), vX3_compare_49 vn x2 y0 K  → ∀ (H : Heap) (locs : List Loc) (ls : Array Slot), va_P G vwCl (st_W cy a vn vf vs vp vq vd vo) H → va_D A (st_W cy a vn vf vs vp vq vd vo) → va_S A s.heap H locs → lv_has ls 4 [(0, .ref (a 8)), (2, .int x2)] → W p l e (headSpec (ws_ yX3_compare cX3_compare 4 none) ({ frames := 1, cells := 0, slots := 0, locals := 21 } : Room)).room s m ([.ref (a 8), .float p1] : List Value).toArray below meth c H locs 0 0 (MQ below (RV G K (fun u => st_W cy a u vf vs vp vq vd vo) A) ([.ref (a 8), .float p1] : List Value).toArray s 0 0 A) (F0 m 49 ls [.int y0]) := by
    intro vn x2 y0 h H locs ls hP hD hS hl
    unfold vX3_compare_49 at h
    refine lv_istore_n (lv' := [(3, .int y0), (0, .ref (a 8)), (2, .int x2)]) hx hb dX3_compare_49 rfl hl (by decide) rfl (fun ls hl => ?_)
    refine lv_aload_n hx hb dX3_compare_50 rfl (lv_at hl 1 rfl) ?_
    refine lv_iload_n hx hb dX3_compare_51 rfl (lv_at hl 0 rfl) ?_
    refine lv_if_eq (tgt := 64) hx hb dX3_compare_52 (by decide) (fun c_52 => ?_) (fun c_52 => ?_)
    · have h := h.1 c_52
      refine lv_iconst (v := (0 : Int32)) hx hb dX3_compare_64 (by decide) ?_
      exact J_65 _ _ _ h _ _ _ hP hD hS (lv_sub hl [1, 2] rfl)
    · have h := h.2 c_52
      refine lv_aload_n hx hb dX3_compare_55 rfl (lv_at hl 1 rfl) ?_
      refine kg (v := .int (vn 3)) S hE hP 8 rfl rfl 3 (by decide) q_11_18 rfl rfl inlX3 dX3_compare_56 ?_
      refine lv_iconst (v := (1 : Int32)) hx hb dX3_compare_59 (by decide) ?_
      refine lv_iadd hx hb dX3_compare_60 ?_
      refine lv_goto (tgt := 65) hx hb dX3_compare_61 (by decide) ?_
      exact J_65 _ _ _ h _ _ _ hP hD hS (lv_sub hl [1, 2] rfl)
  have J_48 : ∀ (vn : Nat → Int32) (x2 : Int32), vX3_compare_48 vn x2 K  → ∀ (H : Heap) (locs : List Loc) (ls : Array Slot), va_P G vwCl (st_W cy a vn vf vs vp vq vd vo) H → va_D A (st_W cy a vn vf vs vp vq vd vo) → va_S A s.heap H locs → lv_has ls 4 [(0, .ref (a 8)), (2, .int x2)] → W p l e (headSpec (ws_ yX3_compare cX3_compare 4 none) ({ frames := 1, cells := 0, slots := 0, locals := 21 } : Room)).room s m ([.ref (a 8), .float p1] : List Value).toArray below meth c H locs 0 0 (MQ below (RV G K (fun u => st_W cy a u vf vs vp vq vd vo) A) ([.ref (a 8), .float p1] : List Value).toArray s 0 0 A) (F0 m 48 ls []) := by
    intro vn x2 h H locs ls hP hD hS hl
    unfold vX3_compare_48 at h
    refine lv_iconst (v := (0 : Int32)) hx hb dX3_compare_48 (by decide) ?_
    exact J_49 _ _ _ h _ _ _ hP hD hS (lv_sub hl [0, 1] rfl)
  have J_12 : ∀ (vn : Nat → Int32) (x1 : UInt32) (y0 : Int32), vX3_compare_12 vn x1 y0 K  → ∀ (H : Heap) (locs : List Loc) (ls : Array Slot), va_P G vwCl (st_W cy a vn vf vs vp vq vd vo) H → va_D A (st_W cy a vn vf vs vp vq vd vo) → va_S A s.heap H locs → lv_has ls 4 [(0, .ref (a 8)), (1, .float x1)] → W p l e (headSpec (ws_ yX3_compare cX3_compare 4 none) ({ frames := 1, cells := 0, slots := 0, locals := 21 } : Room)).room s m ([.ref (a 8), .float p1] : List Value).toArray below meth c H locs 0 0 (MQ below (RV G K (fun u => st_W cy a u vf vs vp vq vd vo) A) ([.ref (a 8), .float p1] : List Value).toArray s 0 0 A) (F0 m 12 ls [.int y0]) := by
    intro vn x1 y0 h H locs ls hP hD hS hl
    unfold vX3_compare_12 at h
    refine lv_istore_n (lv' := [(2, .int y0), (0, .ref (a 8)), (1, .float x1)]) hx hb dX3_compare_12 rfl hl (by decide) rfl (fun ls hl => ?_)
    refine lv_aload_n hx hb dX3_compare_13 rfl (lv_at hl 1 rfl) ?_
    refine kg (v := .int (vn 4)) S hE hP 8 rfl rfl 2 (by decide) q_6_21 rfl rfl inlX3 dX3_compare_14 ?_
    refine lv_if_ne (tgt := 48) hx hb dX3_compare_17 (by decide) (fun c_17 => ?_) (fun c_17 => ?_)
    · have h := h.1 c_17
      exact J_48 _ _ h _ _ _ hP hD hS (lv_sub hl [1, 0] rfl)
    · have h := h.2 c_17
      refine lv_iload_n hx hb dX3_compare_20 rfl (lv_at hl 0 rfl) ?_
      refine lv_if_eq (tgt := 48) hx hb dX3_compare_21 (by decide) (fun c_21 => ?_) (fun c_21 => ?_)
      · have h := h.1 c_21
        exact J_48 _ _ h _ _ _ hP hD hS (lv_sub hl [1, 0] rfl)
      · have h := h.2 c_21
        refine lv_aload_n hx hb dX3_compare_24 rfl (lv_at hl 1 rfl) ?_
        refine lv_fload_n hx hb dX3_compare_25 rfl (lv_at hl 2 rfl) ?_
        refine kc_Vf0 (As := [.float x1]) (rest := []) S hE (ctX3_farMeasured l G cy a vn vf vs vp vq vd vo x1 _ h) q_7_4 q_7_5 q_7_6 q_3_0 q_7_7 rfl 8 rfl rfl ydX3_farMeasured ⟨⟨rfl, rfl⟩, ⟨Nat.le_of_ble_eq_true rfl, Nat.le_of_ble_eq_true rfl⟩⟩ ⟨Nat.zero_le _, Nat.zero_le _⟩ hP hD hS rfl hl.1 rfl (Nat.le_of_ble_eq_true rfl) dX3_compare_26 (fun r_26 u_26 H locs h hP hD hS => ?_)
        refine lv_aload_n hx hb dX3_compare_29 rfl (lv_at hl 1 rfl) ?_
        refine lv_fload_n hx hb dX3_compare_30 rfl (lv_at hl 2 rfl) ?_
        refine kc_Vf0 (As := [.float x1]) (rest := [.float r_26]) S hE (ctX3_nearMeasured l G cy a vn vf vs vp vq vd vo x1 _ h) q_6_22 q_6_23 q_7_0 q_3_0 q_7_1 rfl 8 rfl rfl ydX3_nearMeasured ⟨⟨rfl, rfl⟩, ⟨Nat.le_of_ble_eq_true rfl, Nat.le_of_ble_eq_true rfl⟩⟩ ⟨Nat.zero_le _, Nat.zero_le _⟩ hP hD hS rfl hl.1 rfl (Nat.le_of_ble_eq_true rfl) dX3_compare_31 (fun r_31 u_31 H locs h hP hD hS => ?_)
        refine lv_fsub hx hb dX3_compare_34 h.1 ?_
        have h := h.2
        refine kc_NfE (As := [.float (FP.fsub r_26 r_31)]) (rest := []) S hE (ctX6_size l G cy   (FP.fsub r_26 r_31) _ h) hE.2.1 q_8_1 q_1_2 q_8_2 ydX6_size ⟨⟨rfl, rfl⟩, ⟨Nat.le_of_ble_eq_true rfl, Nat.le_of_ble_eq_true rfl⟩⟩ ⟨Nat.zero_le _, Nat.zero_le _⟩ hP hD hS (fun _ => rfl) rfl hl.1 rfl (Nat.le_of_ble_eq_true rfl) dX3_compare_35 (fun r_35 u_35 H locs h hP hD hS => ?_)
        refine lv_ldcf hx hb S.2.2.2.1 (S.2.2.2.2 _ q_16_19) dX3_compare_38 ?_
        refine lv_fcmp hx hb dX3_compare_40 ?_
        refine lv_if_ge (tgt := 48) hx hb dX3_compare_41 (by decide) (fun c_41 => ?_) (fun c_41 => ?_)
        · have h := h.1 c_41
          exact J_48 _ _ h _ _ _ hP hD hS (lv_sub hl [1, 0] rfl)
        · have h := h.2 c_41
          refine lv_iconst (v := (1 : Int32)) hx hb dX3_compare_44 (by decide) ?_
          refine lv_goto (tgt := 49) hx hb dX3_compare_45 (by decide) ?_
          exact J_49 _ _ _ h _ _ _ hP hD hS (lv_sub hl [1, 0] rfl)
  refine lv_fload_n hx hb dX3_compare_0 rfl (lv_at hl 1 rfl) ?_
  refine lv_ldcf hx hb S.2.2.2.1 (S.2.2.2.2 _ q_16_18) dX3_compare_1 ?_
  refine lv_fcmp hx hb dX3_compare_3 ?_
  refine lv_if_gt (tgt := 11) hx hb dX3_compare_4 (by decide) (fun c_4 => ?_) (fun c_4 => ?_)
  · have h := h.1 c_4
    refine lv_iconst (v := (0 : Int32)) hx hb dX3_compare_11 (by decide) ?_
    exact J_12 _ _ _ h _ _ _ hP hD hS (lv_sub hl [0, 1] rfl)
  · have h := h.2 c_4
    refine lv_iconst (v := (1 : Int32)) hx hb dX3_compare_7 (by decide) ?_
    refine lv_goto (tgt := 12) hx hb dX3_compare_8 (by decide) ?_
    exact J_12 _ _ _ h _ _ _ hP hD hS (lv_sub hl [0, 1] rfl)
def vX5_copyFrom_10b (vn : Nat → Int32) (vn2 : Nat → Int32) (vd2 : Nat → Int32) (vo2 : Nat → Int32) (K : ((Nat → Int32) × (Nat → Int32) × (Nat → Int32)) → Prop)  (B10 : (Nat → Int32) → (Nat → Int32) → Int32 → Prop) (vd : Nat → Int32) (vo : Nat → Int32) (x2 : Int32) : Prop :=
  ((4 : Int32) ≤ x2 → K (vn, vd, vo)) ∧ (¬ (4 : Int32) ≤ x2 → vp_in x2 4 ∧ vp_in x2 4 ∧ vp_in x2 4 ∧ vp_in x2 4 ∧ B10 (upd vd (Int32.toNatClampNeg x2) (vd2 (Int32.toNatClampNeg x2))) (upd vo (Int32.toNatClampNeg x2) (vp_nar .boolean (vo2 (Int32.toNatClampNeg x2)))) (x2 + (1 : Int32)))
def vX5_copyFrom_10F (vn : Nat → Int32) (vn2 : Nat → Int32) (vd2 : Nat → Int32) (vo2 : Nat → Int32) (K : ((Nat → Int32) × (Nat → Int32) × (Nat → Int32)) → Prop)  : (((Nat → Int32) × (Nat → Int32) × Int32) → Prop) → ((Nat → Int32) × (Nat → Int32) × Int32) → Prop := fun B z => vX5_copyFrom_10b vn vn2 vd2 vo2 K  (fun z0 z1 z2 => B (z0, z1, z2)) z.1 z.2.1 z.2.2
def vX5_copyFrom (vn : Nat → Int32) (vd : Nat → Int32) (vo : Nat → Int32) (vn2 : Nat → Int32) (vd2 : Nat → Int32) (vo2 : Nat → Int32) (K : ((Nat → Int32) × (Nat → Int32) × (Nat → Int32)) → Prop) : Prop :=
  ∃ k, lp (vX5_copyFrom_10F (upd vn 11 (vn2 11)) vn2 vd2 vo2 K ) k (vd, vo, (0 : Int32))
set_option maxRecDepth 100000 in
set_option maxHeartbeats 4000000 in
theorem ctX5_copyFrom (l : Launch) (G : va_G) (cy : Nat → ClassId) (a : Nat → Nat) (b : Nat → Nat) (vn : Nat → Int32) (vf : Nat → UInt32) (vs : Nat → Int32) (vp : Nat → Int32) (vq : Nat → Int32) (vd : Nat → Int32) (vo : Nat → Int32) (vn2 : Nat → Int32) (vf2 : Nat → UInt32) (vs2 : Nat → Int32) (vp2 : Nat → Int32) (vq2 : Nat → Int32) (vd2 : Nat → Int32) (vo2 : Nat → Int32)  (K : ((Nat → Int32) × (Nat → Int32) × (Nat → Int32)) → Prop) (h : vX5_copyFrom vn vd vo vn2 vd2 vo2 K) : Met l yX5_copyFrom (ws_ yX5_copyFrom cX5_copyFrom 3 none) ({ frames := 0, cells := 0, slots := 0, locals := 0 } : Room) (CP G cy [.ref (a 5), .ref (b 5)] (st_W cy a vn vf vs vp vq vd vo ++ st_W cy b vn2 vf2 vs2 vp2 vq2 vd2 vo2)) (RV G K (fun u => st_W cy a u.1 vf vs vp vq u.2.1 u.2.2 ++ st_W cy b vn2 vf2 vs2 vp2 vq2 vd2 vo2) (A1 (st_W cy a vn vf vs vp vq vd vo ++ st_W cy b vn2 vf2 vs2 vp2 vq2 vd2 vo2))) 0 0 (A1 (st_W cy a vn vf vs vp vq vd vo ++ st_W cy b vn2 vf2 vs2 vp2 vq2 vd2 vo2)) := by
  refine hd_go (Qf := fun A => (RV G K (fun u => st_W cy a u.1 vf vs vp vq u.2.1 u.2.2 ++ st_W cy b vn2 vf2 vs2 vp2 vq2 vd2 vo2) A)) (by decide +kernel) (Nat.le_of_ble_eq_true rfl) ?_
  intro p e s m below meth c ls A hx hb hr hlocks S hE hP hD hS hl
  have hl : lv_has ls 3 [(0, .ref (a 5)), (1, .ref (b 5))] := hl
  unfold vX5_copyFrom at h
  have L_10 : ∀ (vn : Nat → Int32) (vn2 : Nat → Int32) (vd2 : Nat → Int32) (vo2 : Nat → Int32) (k_10 : Nat) (vd : Nat → Int32) (vo : Nat → Int32) (x2 : Int32), lp (vX5_copyFrom_10F vn vn2 vd2 vo2 K ) k_10 (vd, vo, x2) → ∀ (H : Heap) (locs : List Loc) (ls : Array Slot), va_P G vwCl (st_W cy a vn vf vs vp vq vd vo ++ st_W cy b vn2 vf2 vs2 vp2 vq2 vd2 vo2) H → va_D A (st_W cy a vn vf vs vp vq vd vo ++ st_W cy b vn2 vf2 vs2 vp2 vq2 vd2 vo2) → va_S A s.heap H locs → lv_has ls 3 [(0, .ref (a 5)), (1, .ref (b 5)), (2, .int x2)] → W p l e (headSpec (ws_ yX5_copyFrom cX5_copyFrom 3 none) ({ frames := 0, cells := 0, slots := 0, locals := 0 } : Room)).room s m ([.ref (a 5), .ref (b 5)] : List Value).toArray below meth c H locs 0 0 (MQ below (RV G K (fun u => st_W cy a u.1 vf vs vp vq u.2.1 u.2.2 ++ st_W cy b vn2 vf2 vs2 vp2 vq2 vd2 vo2) A) ([.ref (a 5), .ref (b 5)] : List Value).toArray s 0 0 A) (F0 m 10 ls []) := by
    intro vn vn2 vd2 vo2 k_10
    induction k_10 with
    | zero => intro vd vo x2 h; exact h.elim
    | succ k_10 ih_10 =>
      intro vd vo x2 h H locs ls hP hD hS hl
      have h : vX5_copyFrom_10b vn vn2 vd2 vo2 K  (fun z0 z1 z2 => lp (vX5_copyFrom_10F vn vn2 vd2 vo2 K ) k_10 (z0, z1, z2)) vd vo x2 := h
      unfold vX5_copyFrom_10b at h
      refine lv_iload_n hx hb dX5_copyFrom_10 rfl (lv_at hl 2 rfl) ?_
      refine lv_iconst (v := (4 : Int32)) hx hb dX5_copyFrom_11 (by decide) ?_
      refine lv_icmp_ge (tgt := 45) hx hb dX5_copyFrom_12 (by decide) (fun c_12 => ?_) (fun c_12 => ?_)
      · have h := h.1 c_12
        exact W.vret hx hb hr (fun t ht hW => ⟨⟨(vn, vd, vo), rfl, h, ⟨hp_at ht hP, hD⟩⟩, hS.F ht⟩) hS.2.2 dX5_copyFrom_45
      · have h := h.2 c_12
        refine lv_aload_n hx hb dX5_copyFrom_15 rfl (lv_at hl 0 rfl) ?_
        refine kg (v := .ref (a 6)) S hE hP 5 rfl rfl 1 (by decide) q_3_12 rfl rfl inlX5 dX5_copyFrom_16 ?_
        refine lv_iload_n hx hb dX5_copyFrom_19 rfl (lv_at hl 2 rfl) ?_
        refine lv_aload_n hx hb dX5_copyFrom_20 rfl (lv_at hl 1 rfl) ?_
        refine kg (v := .ref (b 6)) S hE hP 14 rfl rfl 1 (by decide) q_3_12 rfl rfl inlX5 dX5_copyFrom_21 ?_
        refine lv_iload_n hx hb dX5_copyFrom_24 rfl (lv_at hl 2 rfl) ?_
        refine kail (v := (vd2 (Int32.toNatClampNeg x2))) S hE hP 15 rfl h.1 rfl rfl dX5_copyFrom_25 ?_
        have h := h.2
        refine kais S hE hP hD hS 6 rfl h.1 rfl dX5_copyFrom_26 (fun H locs hP hD hS => ?_)
        have h := h.2
        have hP : va_P G vwCl (st_W cy a vn vf vs vp vq (upd vd (Int32.toNatClampNeg x2) (vd2 (Int32.toNatClampNeg x2))) vo ++ st_W cy b vn2 vf2 vs2 vp2 vq2 vd2 vo2) H := hP
        have hD : va_D A (st_W cy a vn vf vs vp vq (upd vd (Int32.toNatClampNeg x2) (vd2 (Int32.toNatClampNeg x2))) vo ++ st_W cy b vn2 vf2 vs2 vp2 vq2 vd2 vo2) := hD
        refine lv_aload_n hx hb dX5_copyFrom_27 rfl (lv_at hl 0 rfl) ?_
        refine kg (v := .ref (a 7)) S hE hP 5 rfl rfl 2 (by decide) q_3_13 rfl rfl inlX5 dX5_copyFrom_28 ?_
        refine lv_iload_n hx hb dX5_copyFrom_31 rfl (lv_at hl 2 rfl) ?_
        refine lv_aload_n hx hb dX5_copyFrom_32 rfl (lv_at hl 1 rfl) ?_
        refine kg (v := .ref (b 7)) S hE hP 14 rfl rfl 2 (by decide) q_3_13 rfl rfl inlX5 dX5_copyFrom_33 ?_
        refine lv_iload_n hx hb dX5_copyFrom_36 rfl (lv_at hl 2 rfl) ?_
        refine kazl (v := (vo2 (Int32.toNatClampNeg x2))) S hE hP 16 rfl h.1 rfl rfl dX5_copyFrom_37 ?_
        have h := h.2
        refine kazs S hE hP hD hS 7 rfl h.1 rfl dX5_copyFrom_38 (fun H locs hP hD hS => ?_)
        have h := h.2
        have hP : va_P G vwCl (st_W cy a vn vf vs vp vq (upd vd (Int32.toNatClampNeg x2) (vd2 (Int32.toNatClampNeg x2))) (upd vo (Int32.toNatClampNeg x2) (vp_nar .boolean (vo2 (Int32.toNatClampNeg x2)))) ++ st_W cy b vn2 vf2 vs2 vp2 vq2 vd2 vo2) H := hP
        have hD : va_D A (st_W cy a vn vf vs vp vq (upd vd (Int32.toNatClampNeg x2) (vd2 (Int32.toNatClampNeg x2))) (upd vo (Int32.toNatClampNeg x2) (vp_nar .boolean (vo2 (Int32.toNatClampNeg x2)))) ++ st_W cy b vn2 vf2 vs2 vp2 vq2 vd2 vo2) := hD
        refine lv_iinc (v := (x2 + (1 : Int32))) (lv' := [(2, .int (x2 + (1 : Int32))), (0, .ref (a 5)), (1, .ref (b 5))]) hx hb dX5_copyFrom_39 hl (k := 2) rfl (by rfl) (by decide) rfl (fun ls hl => ?_)
        refine lv_goto (tgt := 10) hx hb dX5_copyFrom_42 (by decide) ?_
        exact ih_10 _ _ _ h _ _ _ hP hD hS (lv_sub hl [1, 2, 0] rfl)
  refine lv_aload_n hx hb dX5_copyFrom_0 rfl (lv_at hl 0 rfl) ?_
  refine lv_aload_n hx hb dX5_copyFrom_1 rfl (lv_at hl 1 rfl) ?_
  refine kg (v := .int (vn2 11)) S hE hP 14 rfl rfl 0 (by decide) q_5_15 rfl rfl inlX5 dX5_copyFrom_2 ?_
  refine kp S hE hP hD hS 5 rfl rfl 0 (by decide) q_5_15 rfl rfl tyX5_ok nmX5 inlX5 rfl rfl (Nat.le_of_ble_eq_true rfl) dX5_copyFrom_5 (fun H locs hP hD hS => ?_)
  have hP : va_P G vwCl (st_W cy a (upd vn 11 (vn2 11)) vf vs vp vq vd vo ++ st_W cy b vn2 vf2 vs2 vp2 vq2 vd2 vo2) H := hP
  have hD : va_D A (st_W cy a (upd vn 11 (vn2 11)) vf vs vp vq vd vo ++ st_W cy b vn2 vf2 vs2 vp2 vq2 vd2 vo2) := hD
  refine lv_iconst (v := (0 : Int32)) hx hb dX5_copyFrom_8 (by decide) ?_
  refine lv_istore_n (lv' := [(2, .int (0 : Int32)), (0, .ref (a 5)), (1, .ref (b 5))]) hx hb dX5_copyFrom_9 rfl hl (by decide) rfl (fun ls hl => ?_)
  obtain ⟨k0, h⟩ := h
  exact L_10 _ _ _ _ k0 _ _ _ h _ _ _ hP hD hS (lv_sub hl [1, 2, 0] rfl)
def vX5_has (vn : Nat → Int32) (p1 : Int32) (K : Int32 → Unit → Prop) : Prop :=
  (p1 < (0 : Int32) → K (0 : Int32) ()) ∧ (¬ p1 < (0 : Int32) → ((vn 11) ≤ p1 → K (0 : Int32) ()) ∧ (¬ (vn 11) ≤ p1 → K (1 : Int32) ()))
set_option maxRecDepth 100000 in
set_option maxHeartbeats 4000000 in
theorem ctX5_has (l : Launch) (G : va_G) (cy : Nat → ClassId) (a : Nat → Nat) (vn : Nat → Int32) (vf : Nat → UInt32) (vs : Nat → Int32) (vp : Nat → Int32) (vq : Nat → Int32) (vd : Nat → Int32) (vo : Nat → Int32) (p1 : Int32) (K : Int32 → Unit → Prop) (h : vX5_has vn p1 K) : Met l yX5_has (ws_ yX5_has cX5_has 2 (some .boolean)) ({ frames := 0, cells := 0, slots := 0, locals := 0 } : Room) (CP G cy [.ref (a 5), .int p1] (st_W cy a vn vf vs vp vq vd vo)) (RI G K (fun u => st_W cy a vn vf vs vp vq vd vo) (A1 (st_W cy a vn vf vs vp vq vd vo))) 0 0 (A1 (st_W cy a vn vf vs vp vq vd vo)) := by
  refine hd_go (Qf := fun A => (RI G K (fun u => st_W cy a vn vf vs vp vq vd vo) A)) (by decide +kernel) (Nat.le_of_ble_eq_true rfl) ?_
  intro p e s m below meth c ls A hx hb hr hlocks S hE hP hD hS hl
  have hl : lv_has ls 2 [(0, .ref (a 5)), (1, .int p1)] := hl
  unfold vX5_has at h
  refine lv_iload_n hx hb dX5_has_0 rfl (lv_at hl 1 rfl) ?_
  refine lv_if_lt (tgt := 16) hx hb dX5_has_1 (by decide) (fun c_1 => ?_) (fun c_1 => ?_)
  · have h := h.1 c_1
    refine lv_iconst (v := (0 : Int32)) hx hb dX5_has_16 (by decide) ?_
    exact W.zret (v := (0 : Int32)) hx hb hr (by decide +kernel) (fun t ht hW => ⟨⟨(0 : Int32), (), rfl, h, ⟨hp_at ht hP, hD⟩⟩, hS.F ht⟩) hS.2.2 dX5_has_17
  · have h := h.2 c_1
    refine lv_iload_n hx hb dX5_has_4 rfl (lv_at hl 1 rfl) ?_
    refine lv_aload_n hx hb dX5_has_5 rfl (lv_at hl 0 rfl) ?_
    refine kg (v := .int (vn 11)) S hE hP 5 rfl rfl 0 (by decide) q_5_15 rfl rfl inlX5 dX5_has_6 ?_
    refine lv_icmp_ge (tgt := 16) hx hb dX5_has_9 (by decide) (fun c_9 => ?_) (fun c_9 => ?_)
    · have h := h.1 c_9
      refine lv_iconst (v := (0 : Int32)) hx hb dX5_has_16 (by decide) ?_
      exact W.zret (v := (0 : Int32)) hx hb hr (by decide +kernel) (fun t ht hW => ⟨⟨(0 : Int32), (), rfl, h, ⟨hp_at ht hP, hD⟩⟩, hS.F ht⟩) hS.2.2 dX5_has_17
    · have h := h.2 c_9
      refine lv_iconst (v := (1 : Int32)) hx hb dX5_has_12 (by decide) ?_
      refine lv_goto (tgt := 17) hx hb dX5_has_13 (by decide) ?_
      exact W.zret (v := (1 : Int32)) hx hb hr (by decide +kernel) (fun t ht hW => ⟨⟨(1 : Int32), (), rfl, h, ⟨hp_at ht hP, hD⟩⟩, hS.F ht⟩) hS.2.2 dX5_has_17
def vX5_metres (vd : Nat → Int32) (p1 : Int32) (K : UInt32 → Unit → Prop) : Prop :=
  vp_in p1 4 ∧ vf_n32 (FP.fdiv (FP.i2f (vd (Int32.toNatClampNeg p1))) (1120403456 : UInt32)) ∧ K (FP.fdiv (FP.i2f (vd (Int32.toNatClampNeg p1))) (1120403456 : UInt32)) ()
set_option maxRecDepth 100000 in
set_option maxHeartbeats 4000000 in
theorem ctX5_metres (l : Launch) (G : va_G) (cy : Nat → ClassId) (a : Nat → Nat) (vn : Nat → Int32) (vf : Nat → UInt32) (vs : Nat → Int32) (vp : Nat → Int32) (vq : Nat → Int32) (vd : Nat → Int32) (vo : Nat → Int32) (p1 : Int32) (K : UInt32 → Unit → Prop) (h : vX5_metres vd p1 K) : Met l yX5_metres (ws_ yX5_metres cX5_metres 2 (some .float)) ({ frames := 0, cells := 0, slots := 0, locals := 0 } : Room) (CP G cy [.ref (a 5), .int p1] (st_W cy a vn vf vs vp vq vd vo)) (RF G K (fun u => st_W cy a vn vf vs vp vq vd vo) (A1 (st_W cy a vn vf vs vp vq vd vo))) 0 0 (A1 (st_W cy a vn vf vs vp vq vd vo)) := by
  refine hd_go (Qf := fun A => (RF G K (fun u => st_W cy a vn vf vs vp vq vd vo) A)) (by decide +kernel) (Nat.le_of_ble_eq_true rfl) ?_
  intro p e s m below meth c ls A hx hb hr hlocks S hE hP hD hS hl
  have hl : lv_has ls 2 [(0, .ref (a 5)), (1, .int p1)] := hl
  unfold vX5_metres at h
  refine lv_aload_n hx hb dX5_metres_0 rfl (lv_at hl 0 rfl) ?_
  refine kg (v := .ref (a 6)) S hE hP 5 rfl rfl 1 (by decide) q_3_12 rfl rfl inlX5 dX5_metres_1 ?_
  refine lv_iload_n hx hb dX5_metres_4 rfl (lv_at hl 1 rfl) ?_
  refine kail (v := (vd (Int32.toNatClampNeg p1))) S hE hP 6 rfl h.1 rfl rfl dX5_metres_5 ?_
  have h := h.2
  refine lv_i2f hx hb dX5_metres_6 ?_
  refine lv_ldcf hx hb S.2.2.2.1 (S.2.2.2.2 _ q_5_20) dX5_metres_7 ?_
  refine lv_fdiv hx hb dX5_metres_9 h.1 ?_
  have h := h.2
  exact W.fret (v := (FP.fdiv (FP.i2f (vd (Int32.toNatClampNeg p1))) (1120403456 : UInt32))) hx hb hr (fun t ht hW => ⟨⟨(FP.fdiv (FP.i2f (vd (Int32.toNatClampNeg p1))) (1120403456 : UInt32)), (), rfl, h, ⟨hp_at ht hP, hD⟩⟩, hS.F ht⟩) hS.2.2 dX5_metres_10
def vX5_addClosed (vn : Nat → Int32) (vd : Nat → Int32) (vo : Nat → Int32) (p1 : Int32) (K : Int32 → ((Nat → Int32) × (Nat → Int32) × (Nat → Int32)) → Prop) : Prop :=
  vp_in (vn 11) 4 ∧ vp_in (vn 11) 4 ∧ K (vn 11) ((upd vn 11 ((vn 11) + (1 : Int32))), (upd vd (Int32.toNatClampNeg (vn 11)) p1), (upd vo (Int32.toNatClampNeg (vn 11)) (vp_nar .boolean (0 : Int32))))
set_option maxRecDepth 100000 in
set_option maxHeartbeats 4000000 in
theorem ctX5_addClosed (l : Launch) (G : va_G) (cy : Nat → ClassId) (a : Nat → Nat) (vn : Nat → Int32) (vf : Nat → UInt32) (vs : Nat → Int32) (vp : Nat → Int32) (vq : Nat → Int32) (vd : Nat → Int32) (vo : Nat → Int32) (p1 : Int32) (K : Int32 → ((Nat → Int32) × (Nat → Int32) × (Nat → Int32)) → Prop) (h : vX5_addClosed vn vd vo p1 K) : Met l yX5_addClosed (ws_ yX5_addClosed cX5_addClosed 3 (some .int)) ({ frames := 0, cells := 0, slots := 0, locals := 0 } : Room) (CP G cy [.ref (a 5), .int p1] (st_W cy a vn vf vs vp vq vd vo)) (RI G K (fun u => st_W cy a u.1 vf vs vp vq u.2.1 u.2.2) (A1 (st_W cy a vn vf vs vp vq vd vo))) 0 0 (A1 (st_W cy a vn vf vs vp vq vd vo)) := by
  refine hd_go (Qf := fun A => (RI G K (fun u => st_W cy a u.1 vf vs vp vq u.2.1 u.2.2) A)) (by decide +kernel) (Nat.le_of_ble_eq_true rfl) ?_
  intro p e s m below meth c ls A hx hb hr hlocks S hE hP hD hS hl
  have hl : lv_has ls 3 [(0, .ref (a 5)), (1, .int p1)] := hl
  unfold vX5_addClosed at h
  refine lv_aload_n hx hb dX5_addClosed_0 rfl (lv_at hl 0 rfl) ?_
  refine kg (v := .int (vn 11)) S hE hP 5 rfl rfl 0 (by decide) q_5_15 rfl rfl inlX5 dX5_addClosed_1 ?_
  refine lv_istore_n (lv' := [(2, .int (vn 11)), (0, .ref (a 5)), (1, .int p1)]) hx hb dX5_addClosed_4 rfl hl (by decide) rfl (fun ls hl => ?_)
  refine lv_aload_n hx hb dX5_addClosed_5 rfl (lv_at hl 1 rfl) ?_
  refine kg (v := .ref (a 6)) S hE hP 5 rfl rfl 1 (by decide) q_3_12 rfl rfl inlX5 dX5_addClosed_6 ?_
  refine lv_iload_n hx hb dX5_addClosed_9 rfl (lv_at hl 0 rfl) ?_
  refine lv_iload_n hx hb dX5_addClosed_10 rfl (lv_at hl 2 rfl) ?_
  refine kais S hE hP hD hS 6 rfl h.1 rfl dX5_addClosed_11 (fun H locs hP hD hS => ?_)
  have h := h.2
  have hP : va_P G vwCl (st_W cy a vn vf vs vp vq (upd vd (Int32.toNatClampNeg (vn 11)) p1) vo) H := hP
  have hD : va_D A (st_W cy a vn vf vs vp vq (upd vd (Int32.toNatClampNeg (vn 11)) p1) vo) := hD
  refine lv_aload_n hx hb dX5_addClosed_12 rfl (lv_at hl 1 rfl) ?_
  refine kg (v := .ref (a 7)) S hE hP 5 rfl rfl 2 (by decide) q_3_13 rfl rfl inlX5 dX5_addClosed_13 ?_
  refine lv_iload_n hx hb dX5_addClosed_16 rfl (lv_at hl 0 rfl) ?_
  refine lv_iconst (v := (0 : Int32)) hx hb dX5_addClosed_17 (by decide) ?_
  refine kazs S hE hP hD hS 7 rfl h.1 rfl dX5_addClosed_18 (fun H locs hP hD hS => ?_)
  have h := h.2
  have hP : va_P G vwCl (st_W cy a vn vf vs vp vq (upd vd (Int32.toNatClampNeg (vn 11)) p1) (upd vo (Int32.toNatClampNeg (vn 11)) (vp_nar .boolean (0 : Int32)))) H := hP
  have hD : va_D A (st_W cy a vn vf vs vp vq (upd vd (Int32.toNatClampNeg (vn 11)) p1) (upd vo (Int32.toNatClampNeg (vn 11)) (vp_nar .boolean (0 : Int32)))) := hD
  refine lv_aload_n hx hb dX5_addClosed_19 rfl (lv_at hl 1 rfl) ?_
  refine lv_dup hx hb dX5_addClosed_20 rfl ?_
  refine kg (v := .int (vn 11)) S hE hP 5 rfl rfl 0 (by decide) q_5_15 rfl rfl inlX5 dX5_addClosed_21 ?_
  refine lv_iconst (v := (1 : Int32)) hx hb dX5_addClosed_24 (by decide) ?_
  refine lv_iadd hx hb dX5_addClosed_25 ?_
  refine kp S hE hP hD hS 5 rfl rfl 0 (by decide) q_5_15 rfl rfl tyX5_ok nmX5 inlX5 rfl rfl (Nat.le_of_ble_eq_true rfl) dX5_addClosed_26 (fun H locs hP hD hS => ?_)
  have hP : va_P G vwCl (st_W cy a (upd vn 11 ((vn 11) + (1 : Int32))) vf vs vp vq (upd vd (Int32.toNatClampNeg (vn 11)) p1) (upd vo (Int32.toNatClampNeg (vn 11)) (vp_nar .boolean (0 : Int32)))) H := hP
  have hD : va_D A (st_W cy a (upd vn 11 ((vn 11) + (1 : Int32))) vf vs vp vq (upd vd (Int32.toNatClampNeg (vn 11)) p1) (upd vo (Int32.toNatClampNeg (vn 11)) (vp_nar .boolean (0 : Int32)))) := hD
  refine lv_iload_n hx hb dX5_addClosed_29 rfl (lv_at hl 0 rfl) ?_
  exact W.iret (v := (vn 11)) hx hb hr (fun t ht hW => ⟨⟨(vn 11), ((upd vn 11 ((vn 11) + (1 : Int32))), (upd vd (Int32.toNatClampNeg (vn 11)) p1), (upd vo (Int32.toNatClampNeg (vn 11)) (vp_nar .boolean (0 : Int32)))), rfl, h, ⟨hp_at ht hP, hD⟩⟩, hS.F ht⟩) hS.2.2 dX5_addClosed_30
def vX5_errorOfOpening (vn : Nat → Int32) (vo : Nat → Int32) (p1 : Int32) (K : Int32 → Unit → Prop) : Prop :=
  vX5_has vn p1 (fun r_2 u_2 => (¬ r_2 = (0 : Int32) → vp_in p1 4 ∧ ((vo (Int32.toNatClampNeg p1)) = (0 : Int32) → K (0 : Int32) ()) ∧ (¬ (vo (Int32.toNatClampNeg p1)) = (0 : Int32) → K (-3 : Int32) ())) ∧ (r_2 = (0 : Int32) → K (-1 : Int32) ()))
set_option maxRecDepth 100000 in
set_option maxHeartbeats 4000000 in
theorem ctX5_errorOfOpening (l : Launch) (G : va_G) (cy : Nat → ClassId) (a : Nat → Nat) (vn : Nat → Int32) (vf : Nat → UInt32) (vs : Nat → Int32) (vp : Nat → Int32) (vq : Nat → Int32) (vd : Nat → Int32) (vo : Nat → Int32) (p1 : Int32) (K : Int32 → Unit → Prop) (h : vX5_errorOfOpening vn vo p1 K) : Met l yX5_errorOfOpening (ws_ yX5_errorOfOpening cX5_errorOfOpening 2 (some .int)) ({ frames := 1, cells := 0, slots := 0, locals := 21 } : Room) (CP G cy [.ref (a 5), .int p1] (st_W cy a vn vf vs vp vq vd vo)) (RI G K (fun u => st_W cy a vn vf vs vp vq vd vo) (A1 (st_W cy a vn vf vs vp vq vd vo))) 0 0 (A1 (st_W cy a vn vf vs vp vq vd vo)) := by
  refine hd_go (Qf := fun A => (RI G K (fun u => st_W cy a vn vf vs vp vq vd vo) A)) (by decide +kernel) (Nat.le_of_ble_eq_true rfl) ?_
  intro p e s m below meth c ls A hx hb hr hlocks S hE hP hD hS hl
  have hl : lv_has ls 2 [(0, .ref (a 5)), (1, .int p1)] := hl
  unfold vX5_errorOfOpening at h
  refine lv_aload_n hx hb dX5_errorOfOpening_0 rfl (lv_at hl 0 rfl) ?_
  refine lv_iload_n hx hb dX5_errorOfOpening_1 rfl (lv_at hl 1 rfl) ?_
  refine kc_Vi0 (As := [.int p1]) (rest := []) S hE (ctX5_has l G cy a vn vf vs vp vq vd vo p1 _ h) q_14_16 q_8_11 q_8_12 q_2_20 q_8_13 rfl 5 rfl rfl ydX5_has ⟨⟨rfl, rfl⟩, ⟨Nat.le_of_ble_eq_true rfl, Nat.le_of_ble_eq_true rfl⟩⟩ ⟨Nat.zero_le _, Nat.zero_le _⟩ hP hD hS rfl hl.1 rfl (Nat.le_of_ble_eq_true rfl) dX5_errorOfOpening_2 (fun r_2 u_2 H locs h hP hD hS => ?_)
  refine lv_if_ne (tgt := 10) hx hb dX5_errorOfOpening_5 (by decide) (fun c_5 => ?_) (fun c_5 => ?_)
  · have h := h.1 c_5
    refine lv_aload_n hx hb dX5_errorOfOpening_10 rfl (lv_at hl 0 rfl) ?_
    refine kg (v := .ref (a 7)) S hE hP 5 rfl rfl 2 (by decide) q_3_13 rfl rfl inlX5 dX5_errorOfOpening_11 ?_
    refine lv_iload_n hx hb dX5_errorOfOpening_14 rfl (lv_at hl 1 rfl) ?_
    refine kazl (v := (vo (Int32.toNatClampNeg p1))) S hE hP 7 rfl h.1 rfl rfl dX5_errorOfOpening_15 ?_
    have h := h.2
    refine lv_if_eq (tgt := 24) hx hb dX5_errorOfOpening_16 (by decide) (fun c_16 => ?_) (fun c_16 => ?_)
    · have h := h.1 c_16
      refine lv_iconst (v := (0 : Int32)) hx hb dX5_errorOfOpening_24 (by decide) ?_
      exact W.iret (v := (0 : Int32)) hx hb hr (fun t ht hW => ⟨⟨(0 : Int32), (), rfl, h, ⟨hp_at ht hP, hD⟩⟩, hS.F ht⟩) hS.2.2 dX5_errorOfOpening_25
    · have h := h.2 c_16
      refine lv_bipush (v := (-3 : Int32)) hx hb dX5_errorOfOpening_19 (by decide) ?_
      refine lv_goto (tgt := 25) hx hb dX5_errorOfOpening_21 (by decide) ?_
      exact W.iret (v := (-3 : Int32)) hx hb hr (fun t ht hW => ⟨⟨(-3 : Int32), (), rfl, h, ⟨hp_at ht hP, hD⟩⟩, hS.F ht⟩) hS.2.2 dX5_errorOfOpening_25
  · have h := h.2 c_5
    refine lv_iconst (v := (-1 : Int32)) hx hb dX5_errorOfOpening_8 (by decide) ?_
    exact W.iret (v := (-1 : Int32)) hx hb hr (fun t ht hW => ⟨⟨(-1 : Int32), (), rfl, h, ⟨hp_at ht hP, hD⟩⟩, hS.F ht⟩) hS.2.2 dX5_errorOfOpening_9
def vX5_markOpen (vo : Nat → Int32) (p1 : Int32) (K : (Nat → Int32) → Prop) : Prop :=
  vp_in p1 4 ∧ K (upd vo (Int32.toNatClampNeg p1) (vp_nar .boolean (1 : Int32)))
set_option maxRecDepth 100000 in
set_option maxHeartbeats 4000000 in
theorem ctX5_markOpen (l : Launch) (G : va_G) (cy : Nat → ClassId) (a : Nat → Nat) (vn : Nat → Int32) (vf : Nat → UInt32) (vs : Nat → Int32) (vp : Nat → Int32) (vq : Nat → Int32) (vd : Nat → Int32) (vo : Nat → Int32) (p1 : Int32) (K : (Nat → Int32) → Prop) (h : vX5_markOpen vo p1 K) : Met l yX5_markOpen (ws_ yX5_markOpen cX5_markOpen 2 none) ({ frames := 0, cells := 0, slots := 0, locals := 0 } : Room) (CP G cy [.ref (a 5), .int p1] (st_W cy a vn vf vs vp vq vd vo)) (RV G K (fun u => st_W cy a vn vf vs vp vq vd u) (A1 (st_W cy a vn vf vs vp vq vd vo))) 0 0 (A1 (st_W cy a vn vf vs vp vq vd vo)) := by
  refine hd_go (Qf := fun A => (RV G K (fun u => st_W cy a vn vf vs vp vq vd u) A)) (by decide +kernel) (Nat.le_of_ble_eq_true rfl) ?_
  intro p e s m below meth c ls A hx hb hr hlocks S hE hP hD hS hl
  have hl : lv_has ls 2 [(0, .ref (a 5)), (1, .int p1)] := hl
  unfold vX5_markOpen at h
  refine lv_aload_n hx hb dX5_markOpen_0 rfl (lv_at hl 0 rfl) ?_
  refine kg (v := .ref (a 7)) S hE hP 5 rfl rfl 2 (by decide) q_3_13 rfl rfl inlX5 dX5_markOpen_1 ?_
  refine lv_iload_n hx hb dX5_markOpen_4 rfl (lv_at hl 1 rfl) ?_
  refine lv_iconst (v := (1 : Int32)) hx hb dX5_markOpen_5 (by decide) ?_
  refine kazs S hE hP hD hS 7 rfl h.1 rfl dX5_markOpen_6 (fun H locs hP hD hS => ?_)
  have h := h.2
  have hP : va_P G vwCl (st_W cy a vn vf vs vp vq vd (upd vo (Int32.toNatClampNeg p1) (vp_nar .boolean (1 : Int32)))) H := hP
  have hD : va_D A (st_W cy a vn vf vs vp vq vd (upd vo (Int32.toNatClampNeg p1) (vp_nar .boolean (1 : Int32)))) := hD
  exact W.vret hx hb hr (fun t ht hW => ⟨⟨(upd vo (Int32.toNatClampNeg p1) (vp_nar .boolean (1 : Int32))), rfl, h, ⟨hp_at ht hP, hD⟩⟩, hS.F ht⟩) hS.2.2 dX5_markOpen_7
def vX5_countClosed_24 (vn : Nat → Int32) (vo : Nat → Int32) (x1 : Int32) (x2 : Int32) (K : Int32 → Unit → Prop) (B4 : Int32 → Int32 → Prop) : Prop :=
  B4 x1 (x2 + (1 : Int32))
def vX5_countClosed_4b (vn : Nat → Int32) (vo : Nat → Int32) (K : Int32 → Unit → Prop)  (B4 : Int32 → Int32 → Prop) (x1 : Int32) (x2 : Int32) : Prop :=
  ((vn 11) ≤ x2 → K x1 ()) ∧ (¬ (vn 11) ≤ x2 → vp_in x2 4 ∧ (¬ (vo (Int32.toNatClampNeg x2)) = (0 : Int32) → vX5_countClosed_24 vn vo x1 x2 K B4) ∧ ((vo (Int32.toNatClampNeg x2)) = (0 : Int32) → vX5_countClosed_24 vn vo (x1 + (1 : Int32)) x2 K B4))
def vX5_countClosed_4F (vn : Nat → Int32) (vo : Nat → Int32) (K : Int32 → Unit → Prop)  : ((Int32 × Int32) → Prop) → (Int32 × Int32) → Prop := fun B z => vX5_countClosed_4b vn vo K  (fun z0 z1 => B (z0, z1)) z.1 z.2
def vX5_countClosed (vn : Nat → Int32) (vo : Nat → Int32) (K : Int32 → Unit → Prop) : Prop :=
  ∃ k, lp (vX5_countClosed_4F vn vo K ) k ((0 : Int32), (0 : Int32))
set_option maxRecDepth 100000 in
set_option maxHeartbeats 4000000 in
theorem ctX5_countClosed (l : Launch) (G : va_G) (cy : Nat → ClassId) (a : Nat → Nat) (vn : Nat → Int32) (vf : Nat → UInt32) (vs : Nat → Int32) (vp : Nat → Int32) (vq : Nat → Int32) (vd : Nat → Int32) (vo : Nat → Int32)  (K : Int32 → Unit → Prop) (h : vX5_countClosed vn vo K) : Met l yX5_countClosed (ws_ yX5_countClosed cX5_countClosed 3 (some .int)) ({ frames := 0, cells := 0, slots := 0, locals := 0 } : Room) (CP G cy [.ref (a 5)] (st_W cy a vn vf vs vp vq vd vo)) (RI G K (fun u => st_W cy a vn vf vs vp vq vd vo) (A1 (st_W cy a vn vf vs vp vq vd vo))) 0 0 (A1 (st_W cy a vn vf vs vp vq vd vo)) := by
  refine hd_go (Qf := fun A => (RI G K (fun u => st_W cy a vn vf vs vp vq vd vo) A)) (by decide +kernel) (Nat.le_of_ble_eq_true rfl) ?_
  intro p e s m below meth c ls A hx hb hr hlocks S hE hP hD hS hl
  have hl : lv_has ls 3 [(0, .ref (a 5))] := hl
  unfold vX5_countClosed at h
  have L_4 : ∀ (vn : Nat → Int32) (vo : Nat → Int32) (k_4 : Nat) (x1 : Int32) (x2 : Int32), lp (vX5_countClosed_4F vn vo K ) k_4 (x1, x2) → ∀ (H : Heap) (locs : List Loc) (ls : Array Slot), va_P G vwCl (st_W cy a vn vf vs vp vq vd vo) H → va_D A (st_W cy a vn vf vs vp vq vd vo) → va_S A s.heap H locs → lv_has ls 3 [(0, .ref (a 5)), (1, .int x1), (2, .int x2)] → W p l e (headSpec (ws_ yX5_countClosed cX5_countClosed 3 (some .int)) ({ frames := 0, cells := 0, slots := 0, locals := 0 } : Room)).room s m ([.ref (a 5)] : List Value).toArray below meth c H locs 0 0 (MQ below (RI G K (fun u => st_W cy a vn vf vs vp vq vd vo) A) ([.ref (a 5)] : List Value).toArray s 0 0 A) (F0 m 4 ls []) := by
    intro vn vo k_4
    induction k_4 with
    | zero => intro x1 x2 h; exact h.elim
    | succ k_4 ih_4 =>
      have J_24 : ∀ (x1 : Int32) (x2 : Int32), vX5_countClosed_24 vn vo x1 x2 K (fun z0 z1 => lp (vX5_countClosed_4F vn vo K ) k_4 (z0, z1)) → ∀ (H : Heap) (locs : List Loc) (ls : Array Slot), va_P G vwCl (st_W cy a vn vf vs vp vq vd vo) H → va_D A (st_W cy a vn vf vs vp vq vd vo) → va_S A s.heap H locs → lv_has ls 3 [(0, .ref (a 5)), (1, .int x1), (2, .int x2)] → W p l e (headSpec (ws_ yX5_countClosed cX5_countClosed 3 (some .int)) ({ frames := 0, cells := 0, slots := 0, locals := 0 } : Room)).room s m ([.ref (a 5)] : List Value).toArray below meth c H locs 0 0 (MQ below (RI G K (fun u => st_W cy a vn vf vs vp vq vd vo) A) ([.ref (a 5)] : List Value).toArray s 0 0 A) (F0 m 24 ls []) := by
        intro x1 x2 h H locs ls hP hD hS hl
        unfold vX5_countClosed_24 at h
        refine lv_iinc (v := (x2 + (1 : Int32))) (lv' := [(2, .int (x2 + (1 : Int32))), (0, .ref (a 5)), (1, .int x1)]) hx hb dX5_countClosed_24 hl (k := 2) rfl (by rfl) (by decide) rfl (fun ls hl => ?_)
        refine lv_goto (tgt := 4) hx hb dX5_countClosed_27 (by decide) ?_
        exact ih_4 x1 (x2 + (1 : Int32)) h _ _ _ hP hD hS (lv_sub hl [1, 2, 0] rfl)
      intro x1 x2 h H locs ls hP hD hS hl
      have h : vX5_countClosed_4b vn vo K  (fun z0 z1 => lp (vX5_countClosed_4F vn vo K ) k_4 (z0, z1)) x1 x2 := h
      unfold vX5_countClosed_4b at h
      refine lv_iload_n hx hb dX5_countClosed_4 rfl (lv_at hl 2 rfl) ?_
      refine lv_aload_n hx hb dX5_countClosed_5 rfl (lv_at hl 0 rfl) ?_
      refine kg (v := .int (vn 11)) S hE hP 5 rfl rfl 0 (by decide) q_5_15 rfl rfl inlX5 dX5_countClosed_6 ?_
      refine lv_icmp_ge (tgt := 30) hx hb dX5_countClosed_9 (by decide) (fun c_9 => ?_) (fun c_9 => ?_)
      · have h := h.1 c_9
        refine lv_iload_n hx hb dX5_countClosed_30 rfl (lv_at hl 1 rfl) ?_
        exact W.iret (v := x1) hx hb hr (fun t ht hW => ⟨⟨x1, (), rfl, h, ⟨hp_at ht hP, hD⟩⟩, hS.F ht⟩) hS.2.2 dX5_countClosed_31
      · have h := h.2 c_9
        refine lv_aload_n hx hb dX5_countClosed_12 rfl (lv_at hl 0 rfl) ?_
        refine kg (v := .ref (a 7)) S hE hP 5 rfl rfl 2 (by decide) q_3_13 rfl rfl inlX5 dX5_countClosed_13 ?_
        refine lv_iload_n hx hb dX5_countClosed_16 rfl (lv_at hl 2 rfl) ?_
        refine kazl (v := (vo (Int32.toNatClampNeg x2))) S hE hP 7 rfl h.1 rfl rfl dX5_countClosed_17 ?_
        have h := h.2
        refine lv_if_ne (tgt := 24) hx hb dX5_countClosed_18 (by decide) (fun c_18 => ?_) (fun c_18 => ?_)
        · have h := h.1 c_18
          exact J_24 _ _ h _ _ _ hP hD hS (lv_sub hl [0, 1, 2] rfl)
        · have h := h.2 c_18
          refine lv_iinc (v := (x1 + (1 : Int32))) (lv' := [(1, .int (x1 + (1 : Int32))), (0, .ref (a 5)), (2, .int x2)]) hx hb dX5_countClosed_21 hl (k := 1) rfl (by rfl) (by decide) rfl (fun ls hl => ?_)
          exact J_24 _ _ h _ _ _ hP hD hS (lv_sub hl [1, 0, 2] rfl)
  refine lv_iconst (v := (0 : Int32)) hx hb dX5_countClosed_0 (by decide) ?_
  refine lv_istore_n (lv' := [(1, .int (0 : Int32)), (0, .ref (a 5))]) hx hb dX5_countClosed_1 rfl hl (by decide) rfl (fun ls hl => ?_)
  refine lv_iconst (v := (0 : Int32)) hx hb dX5_countClosed_2 (by decide) ?_
  refine lv_istore_n (lv' := [(2, .int (0 : Int32)), (1, .int (0 : Int32)), (0, .ref (a 5))]) hx hb dX5_countClosed_3 rfl hl (by decide) rfl (fun ls hl => ?_)
  obtain ⟨k0, h⟩ := h
  exact L_4 _ _ k0 _ _ h _ _ _ hP hD hS (lv_sub hl [2, 1, 0] rfl)
def vX5_nextBelow_60 (vn : Nat → Int32) (vd : Nat → Int32) (vo : Nat → Int32) (x1 : UInt32) (x2 : Int32) (x3 : Int32) (x4 : Int32) (K : Int32 → Unit → Prop) (B8 : Int32 → Int32 → Int32 → Prop) : Prop :=
  B8 x2 x3 (x4 + (1 : Int32))
def vX5_nextBelow_8b (vn : Nat → Int32) (vd : Nat → Int32) (vo : Nat → Int32) (x1 : UInt32) (K : Int32 → Unit → Prop)  (B8 : Int32 → Int32 → Int32 → Prop) (x2 : Int32) (x3 : Int32) (x4 : Int32) : Prop :=
  ((vn 11) ≤ x4 → K x2 ()) ∧ (¬ (vn 11) ≤ x4 → vp_in x4 4 ∧ (¬ (vo (Int32.toNatClampNeg x4)) = (0 : Int32) → vX5_nextBelow_60 vn vd vo x1 x2 x3 x4 K B8) ∧ ((vo (Int32.toNatClampNeg x4)) = (0 : Int32) → vp_in x4 4 ∧ ((vd (Int32.toNatClampNeg x4)) ≤ x3 → vX5_nextBelow_60 vn vd vo x1 x2 x3 x4 K B8) ∧ (¬ (vd (Int32.toNatClampNeg x4)) ≤ x3 → vX5_metres vd x4 (fun r_41 u_41 => ((0 : Int32) ≤ (fcg r_41 x1) → vX5_nextBelow_60 vn vd vo x1 x2 x3 x4 K B8) ∧ (¬ (0 : Int32) ≤ (fcg r_41 x1) → vp_in x4 4 ∧ vX5_nextBelow_60 vn vd vo x1 x4 (vd (Int32.toNatClampNeg x4)) x4 K B8)))))
def vX5_nextBelow_8F (vn : Nat → Int32) (vd : Nat → Int32) (vo : Nat → Int32) (x1 : UInt32) (K : Int32 → Unit → Prop)  : ((Int32 × Int32 × Int32) → Prop) → (Int32 × Int32 × Int32) → Prop := fun B z => vX5_nextBelow_8b vn vd vo x1 K  (fun z0 z1 z2 => B (z0, z1, z2)) z.1 z.2.1 z.2.2
def vX5_nextBelow (vn : Nat → Int32) (vd : Nat → Int32) (vo : Nat → Int32) (p1 : UInt32) (K : Int32 → Unit → Prop) : Prop :=
  ∃ k, lp (vX5_nextBelow_8F vn vd vo p1 K ) k ((-5 : Int32), (0 : Int32), (0 : Int32))
set_option maxRecDepth 100000 in
set_option maxHeartbeats 4000000 in
theorem ctX5_nextBelow (l : Launch) (G : va_G) (cy : Nat → ClassId) (a : Nat → Nat) (vn : Nat → Int32) (vf : Nat → UInt32) (vs : Nat → Int32) (vp : Nat → Int32) (vq : Nat → Int32) (vd : Nat → Int32) (vo : Nat → Int32) (p1 : UInt32) (K : Int32 → Unit → Prop) (h : vX5_nextBelow vn vd vo p1 K) : Met l yX5_nextBelow (ws_ yX5_nextBelow cX5_nextBelow 5 (some .int)) ({ frames := 1, cells := 0, slots := 0, locals := 21 } : Room) (CP G cy [.ref (a 5), .float p1] (st_W cy a vn vf vs vp vq vd vo)) (RI G K (fun u => st_W cy a vn vf vs vp vq vd vo) (A1 (st_W cy a vn vf vs vp vq vd vo))) 0 0 (A1 (st_W cy a vn vf vs vp vq vd vo)) := by
  refine hd_go (Qf := fun A => (RI G K (fun u => st_W cy a vn vf vs vp vq vd vo) A)) (by decide +kernel) (Nat.le_of_ble_eq_true rfl) ?_
  intro p e s m below meth c ls A hx hb hr hlocks S hE hP hD hS hl
  have hl : lv_has ls 5 [(0, .ref (a 5)), (1, .float p1)] := hl
  unfold vX5_nextBelow at h
  have L_8 : ∀ (vn : Nat → Int32) (vd : Nat → Int32) (vo : Nat → Int32) (x1 : UInt32) (k_8 : Nat) (x2 : Int32) (x3 : Int32) (x4 : Int32), lp (vX5_nextBelow_8F vn vd vo x1 K ) k_8 (x2, x3, x4) → ∀ (H : Heap) (locs : List Loc) (ls : Array Slot), va_P G vwCl (st_W cy a vn vf vs vp vq vd vo) H → va_D A (st_W cy a vn vf vs vp vq vd vo) → va_S A s.heap H locs → lv_has ls 5 [(0, .ref (a 5)), (1, .float x1), (2, .int x2), (3, .int x3), (4, .int x4)] → W p l e (headSpec (ws_ yX5_nextBelow cX5_nextBelow 5 (some .int)) ({ frames := 1, cells := 0, slots := 0, locals := 21 } : Room)).room s m ([.ref (a 5), .float p1] : List Value).toArray below meth c H locs 0 0 (MQ below (RI G K (fun u => st_W cy a vn vf vs vp vq vd vo) A) ([.ref (a 5), .float p1] : List Value).toArray s 0 0 A) (F0 m 8 ls []) := by
    intro vn vd vo x1 k_8
    induction k_8 with
    | zero => intro x2 x3 x4 h; exact h.elim
    | succ k_8 ih_8 =>
      have J_60 : ∀ (x2 : Int32) (x3 : Int32) (x4 : Int32), vX5_nextBelow_60 vn vd vo x1 x2 x3 x4 K (fun z0 z1 z2 => lp (vX5_nextBelow_8F vn vd vo x1 K ) k_8 (z0, z1, z2)) → ∀ (H : Heap) (locs : List Loc) (ls : Array Slot), va_P G vwCl (st_W cy a vn vf vs vp vq vd vo) H → va_D A (st_W cy a vn vf vs vp vq vd vo) → va_S A s.heap H locs → lv_has ls 5 [(0, .ref (a 5)), (1, .float x1), (2, .int x2), (3, .int x3), (4, .int x4)] → W p l e (headSpec (ws_ yX5_nextBelow cX5_nextBelow 5 (some .int)) ({ frames := 1, cells := 0, slots := 0, locals := 21 } : Room)).room s m ([.ref (a 5), .float p1] : List Value).toArray below meth c H locs 0 0 (MQ below (RI G K (fun u => st_W cy a vn vf vs vp vq vd vo) A) ([.ref (a 5), .float p1] : List Value).toArray s 0 0 A) (F0 m 60 ls []) := by
        intro x2 x3 x4 h H locs ls hP hD hS hl
        unfold vX5_nextBelow_60 at h
        refine lv_iinc (v := (x4 + (1 : Int32))) (lv' := [(4, .int (x4 + (1 : Int32))), (0, .ref (a 5)), (1, .float x1), (2, .int x2), (3, .int x3)]) hx hb dX5_nextBelow_60 hl (k := 4) rfl (by rfl) (by decide) rfl (fun ls hl => ?_)
        refine lv_goto (tgt := 8) hx hb dX5_nextBelow_63 (by decide) ?_
        exact ih_8 x2 x3 (x4 + (1 : Int32)) h _ _ _ hP hD hS (lv_sub hl [1, 2, 3, 4, 0] rfl)
      intro x2 x3 x4 h H locs ls hP hD hS hl
      have h : vX5_nextBelow_8b vn vd vo x1 K  (fun z0 z1 z2 => lp (vX5_nextBelow_8F vn vd vo x1 K ) k_8 (z0, z1, z2)) x2 x3 x4 := h
      unfold vX5_nextBelow_8b at h
      refine lv_iload hx hb dX5_nextBelow_8 (lv_at hl 4 rfl) ?_
      refine lv_aload_n hx hb dX5_nextBelow_10 rfl (lv_at hl 0 rfl) ?_
      refine kg (v := .int (vn 11)) S hE hP 5 rfl rfl 0 (by decide) q_5_15 rfl rfl inlX5 dX5_nextBelow_11 ?_
      refine lv_icmp_ge (tgt := 66) hx hb dX5_nextBelow_14 (by decide) (fun c_14 => ?_) (fun c_14 => ?_)
      · have h := h.1 c_14
        refine lv_iload_n hx hb dX5_nextBelow_66 rfl (lv_at hl 2 rfl) ?_
        exact W.iret (v := x2) hx hb hr (fun t ht hW => ⟨⟨x2, (), rfl, h, ⟨hp_at ht hP, hD⟩⟩, hS.F ht⟩) hS.2.2 dX5_nextBelow_67
      · have h := h.2 c_14
        refine lv_aload_n hx hb dX5_nextBelow_17 rfl (lv_at hl 0 rfl) ?_
        refine kg (v := .ref (a 7)) S hE hP 5 rfl rfl 2 (by decide) q_3_13 rfl rfl inlX5 dX5_nextBelow_18 ?_
        refine lv_iload hx hb dX5_nextBelow_21 (lv_at hl 4 rfl) ?_
        refine kazl (v := (vo (Int32.toNatClampNeg x4))) S hE hP 7 rfl h.1 rfl rfl dX5_nextBelow_23 ?_
        have h := h.2
        refine lv_if_ne (tgt := 60) hx hb dX5_nextBelow_24 (by decide) (fun c_24 => ?_) (fun c_24 => ?_)
        · have h := h.1 c_24
          exact J_60 _ _ _ h _ _ _ hP hD hS (lv_sub hl [0, 1, 2, 3, 4] rfl)
        · have h := h.2 c_24
          refine lv_aload_n hx hb dX5_nextBelow_27 rfl (lv_at hl 0 rfl) ?_
          refine kg (v := .ref (a 6)) S hE hP 5 rfl rfl 1 (by decide) q_3_12 rfl rfl inlX5 dX5_nextBelow_28 ?_
          refine lv_iload hx hb dX5_nextBelow_31 (lv_at hl 4 rfl) ?_
          refine kail (v := (vd (Int32.toNatClampNeg x4))) S hE hP 6 rfl h.1 rfl rfl dX5_nextBelow_33 ?_
          have h := h.2
          refine lv_iload_n hx hb dX5_nextBelow_34 rfl (lv_at hl 3 rfl) ?_
          refine lv_icmp_le (tgt := 60) hx hb dX5_nextBelow_35 (by decide) (fun c_35 => ?_) (fun c_35 => ?_)
          · have h := h.1 c_35
            exact J_60 _ _ _ h _ _ _ hP hD hS (lv_sub hl [0, 1, 2, 3, 4] rfl)
          · have h := h.2 c_35
            refine lv_aload_n hx hb dX5_nextBelow_38 rfl (lv_at hl 0 rfl) ?_
            refine lv_iload hx hb dX5_nextBelow_39 (lv_at hl 4 rfl) ?_
            refine kc_Vf0 (As := [.int x4]) (rest := []) S hE (ctX5_metres l G cy a vn vf vs vp vq vd vo x4 _ h) q_5_16 q_5_17 q_5_18 q_2_20 q_5_19 rfl 5 rfl rfl ydX5_metres ⟨⟨rfl, rfl⟩, ⟨Nat.le_of_ble_eq_true rfl, Nat.le_of_ble_eq_true rfl⟩⟩ ⟨Nat.zero_le _, Nat.zero_le _⟩ hP hD hS rfl hl.1 rfl (Nat.le_of_ble_eq_true rfl) dX5_nextBelow_41 (fun r_41 u_41 H locs h hP hD hS => ?_)
            refine lv_fload_n hx hb dX5_nextBelow_44 rfl (lv_at hl 1 rfl) ?_
            refine lv_fcmp hx hb dX5_nextBelow_45 ?_
            refine lv_if_ge (tgt := 60) hx hb dX5_nextBelow_46 (by decide) (fun c_46 => ?_) (fun c_46 => ?_)
            · have h := h.1 c_46
              exact J_60 _ _ _ h _ _ _ hP hD hS (lv_sub hl [0, 1, 2, 3, 4] rfl)
            · have h := h.2 c_46
              refine lv_iload hx hb dX5_nextBelow_49 (lv_at hl 4 rfl) ?_
              refine lv_istore_n (lv' := [(2, .int x4), (0, .ref (a 5)), (1, .float x1), (3, .int x3), (4, .int x4)]) hx hb dX5_nextBelow_51 rfl hl (by decide) rfl (fun ls hl => ?_)
              refine lv_aload_n hx hb dX5_nextBelow_52 rfl (lv_at hl 1 rfl) ?_
              refine kg (v := .ref (a 6)) S hE hP 5 rfl rfl 1 (by decide) q_3_12 rfl rfl inlX5 dX5_nextBelow_53 ?_
              refine lv_iload hx hb dX5_nextBelow_56 (lv_at hl 4 rfl) ?_
              refine kail (v := (vd (Int32.toNatClampNeg x4))) S hE hP 6 rfl h.1 rfl rfl dX5_nextBelow_58 ?_
              have h := h.2
              refine lv_istore_n (lv' := [(3, .int (vd (Int32.toNatClampNeg x4))), (2, .int x4), (0, .ref (a 5)), (1, .float x1), (4, .int x4)]) hx hb dX5_nextBelow_59 rfl hl (by decide) rfl (fun ls hl => ?_)
              exact J_60 _ _ _ h _ _ _ hP hD hS (lv_sub hl [2, 3, 1, 0, 4] rfl)
  refine lv_bipush (v := (-5 : Int32)) hx hb dX5_nextBelow_0 (by decide) ?_
  refine lv_istore_n (lv' := [(2, .int (-5 : Int32)), (0, .ref (a 5)), (1, .float p1)]) hx hb dX5_nextBelow_2 rfl hl (by decide) rfl (fun ls hl => ?_)
  refine lv_iconst (v := (0 : Int32)) hx hb dX5_nextBelow_3 (by decide) ?_
  refine lv_istore_n (lv' := [(3, .int (0 : Int32)), (2, .int (-5 : Int32)), (0, .ref (a 5)), (1, .float p1)]) hx hb dX5_nextBelow_4 rfl hl (by decide) rfl (fun ls hl => ?_)
  refine lv_iconst (v := (0 : Int32)) hx hb dX5_nextBelow_5 (by decide) ?_
  refine lv_istore (lv' := [(4, .int (0 : Int32)), (3, .int (0 : Int32)), (2, .int (-5 : Int32)), (0, .ref (a 5)), (1, .float p1)]) hx hb dX5_nextBelow_6 hl (by decide) rfl (fun ls hl => ?_)
  obtain ⟨k0, h⟩ := h
  exact L_8 _ _ _ _ k0 _ _ _ h _ _ _ hP hD hS (lv_sub hl [3, 4, 2, 1, 0] rfl)
def vX5_closedNear_37 (vn : Nat → Int32) (vd : Nat → Int32) (vo : Nat → Int32) (x1 : UInt32) (x2 : Int32) (K : Int32 → Unit → Prop) (B2 : Int32 → Prop) : Prop :=
  B2 (x2 + (1 : Int32))
def vX5_closedNear_2b (vn : Nat → Int32) (vd : Nat → Int32) (vo : Nat → Int32) (x1 : UInt32) (K : Int32 → Unit → Prop)  (B2 : Int32 → Prop) (x2 : Int32) : Prop :=
  ((vn 11) ≤ x2 → K (-5 : Int32) ()) ∧ (¬ (vn 11) ≤ x2 → vp_in x2 4 ∧ (¬ (vo (Int32.toNatClampNeg x2)) = (0 : Int32) → vX5_closedNear_37 vn vd vo x1 x2 K B2) ∧ ((vo (Int32.toNatClampNeg x2)) = (0 : Int32) → vX5_metres vd x2 (fun r_22 u_22 => vf_n32 (FP.fsub x1 r_22) ∧ vX6_size (FP.fsub x1 r_22) (fun r_26 u_26 => ((0 : Int32) ≤ (fcg r_26 (1045220557 : UInt32)) → vX5_closedNear_37 vn vd vo x1 x2 K B2) ∧ (¬ (0 : Int32) ≤ (fcg r_26 (1045220557 : UInt32)) → K x2 ())))))
def vX5_closedNear_2F (vn : Nat → Int32) (vd : Nat → Int32) (vo : Nat → Int32) (x1 : UInt32) (K : Int32 → Unit → Prop)  : ((Int32) → Prop) → (Int32) → Prop := fun B z => vX5_closedNear_2b vn vd vo x1 K  (fun z0 => B z0) z
def vX5_closedNear (vn : Nat → Int32) (vd : Nat → Int32) (vo : Nat → Int32) (p1 : UInt32) (K : Int32 → Unit → Prop) : Prop :=
  ∃ k, lp (vX5_closedNear_2F vn vd vo p1 K ) k (0 : Int32)
set_option maxRecDepth 100000 in
set_option maxHeartbeats 4000000 in
theorem ctX5_closedNear (l : Launch) (G : va_G) (cy : Nat → ClassId) (a : Nat → Nat) (vn : Nat → Int32) (vf : Nat → UInt32) (vs : Nat → Int32) (vp : Nat → Int32) (vq : Nat → Int32) (vd : Nat → Int32) (vo : Nat → Int32) (p1 : UInt32) (K : Int32 → Unit → Prop) (h : vX5_closedNear vn vd vo p1 K) : Met l yX5_closedNear (ws_ yX5_closedNear cX5_closedNear 3 (some .int)) ({ frames := 1, cells := 0, slots := 0, locals := 21 } : Room) (CP G cy [.ref (a 5), .float p1] (st_W cy a vn vf vs vp vq vd vo)) (RI G K (fun u => st_W cy a vn vf vs vp vq vd vo) (A1 (st_W cy a vn vf vs vp vq vd vo))) 0 0 (A1 (st_W cy a vn vf vs vp vq vd vo)) := by
  refine hd_go (Qf := fun A => (RI G K (fun u => st_W cy a vn vf vs vp vq vd vo) A)) (by decide +kernel) (Nat.le_of_ble_eq_true rfl) ?_
  intro p e s m below meth c ls A hx hb hr hlocks S hE hP hD hS hl
  have hl : lv_has ls 3 [(0, .ref (a 5)), (1, .float p1)] := hl
  unfold vX5_closedNear at h
  have L_2 : ∀ (vn : Nat → Int32) (vd : Nat → Int32) (vo : Nat → Int32) (x1 : UInt32) (k_2 : Nat) (x2 : Int32), lp (vX5_closedNear_2F vn vd vo x1 K ) k_2 x2 → ∀ (H : Heap) (locs : List Loc) (ls : Array Slot), va_P G vwCl (st_W cy a vn vf vs vp vq vd vo) H → va_D A (st_W cy a vn vf vs vp vq vd vo) → va_S A s.heap H locs → lv_has ls 3 [(0, .ref (a 5)), (1, .float x1), (2, .int x2)] → W p l e (headSpec (ws_ yX5_closedNear cX5_closedNear 3 (some .int)) ({ frames := 1, cells := 0, slots := 0, locals := 21 } : Room)).room s m ([.ref (a 5), .float p1] : List Value).toArray below meth c H locs 0 0 (MQ below (RI G K (fun u => st_W cy a vn vf vs vp vq vd vo) A) ([.ref (a 5), .float p1] : List Value).toArray s 0 0 A) (F0 m 2 ls []) := by
    intro vn vd vo x1 k_2
    induction k_2 with
    | zero => intro x2 h; exact h.elim
    | succ k_2 ih_2 =>
      have J_37 : ∀ (x2 : Int32), vX5_closedNear_37 vn vd vo x1 x2 K (fun z0 => lp (vX5_closedNear_2F vn vd vo x1 K ) k_2 z0) → ∀ (H : Heap) (locs : List Loc) (ls : Array Slot), va_P G vwCl (st_W cy a vn vf vs vp vq vd vo) H → va_D A (st_W cy a vn vf vs vp vq vd vo) → va_S A s.heap H locs → lv_has ls 3 [(0, .ref (a 5)), (1, .float x1), (2, .int x2)] → W p l e (headSpec (ws_ yX5_closedNear cX5_closedNear 3 (some .int)) ({ frames := 1, cells := 0, slots := 0, locals := 21 } : Room)).room s m ([.ref (a 5), .float p1] : List Value).toArray below meth c H locs 0 0 (MQ below (RI G K (fun u => st_W cy a vn vf vs vp vq vd vo) A) ([.ref (a 5), .float p1] : List Value).toArray s 0 0 A) (F0 m 37 ls []) := by
        intro x2 h H locs ls hP hD hS hl
        unfold vX5_closedNear_37 at h
        refine lv_iinc (v := (x2 + (1 : Int32))) (lv' := [(2, .int (x2 + (1 : Int32))), (0, .ref (a 5)), (1, .float x1)]) hx hb dX5_closedNear_37 hl (k := 2) rfl (by rfl) (by decide) rfl (fun ls hl => ?_)
        refine lv_goto (tgt := 2) hx hb dX5_closedNear_40 (by decide) ?_
        exact ih_2 (x2 + (1 : Int32)) h _ _ _ hP hD hS (lv_sub hl [1, 2, 0] rfl)
      intro x2 h H locs ls hP hD hS hl
      have h : vX5_closedNear_2b vn vd vo x1 K  (fun z0 => lp (vX5_closedNear_2F vn vd vo x1 K ) k_2 z0) x2 := h
      unfold vX5_closedNear_2b at h
      refine lv_iload_n hx hb dX5_closedNear_2 rfl (lv_at hl 2 rfl) ?_
      refine lv_aload_n hx hb dX5_closedNear_3 rfl (lv_at hl 0 rfl) ?_
      refine kg (v := .int (vn 11)) S hE hP 5 rfl rfl 0 (by decide) q_5_15 rfl rfl inlX5 dX5_closedNear_4 ?_
      refine lv_icmp_ge (tgt := 43) hx hb dX5_closedNear_7 (by decide) (fun c_7 => ?_) (fun c_7 => ?_)
      · have h := h.1 c_7
        refine lv_bipush (v := (-5 : Int32)) hx hb dX5_closedNear_43 (by decide) ?_
        exact W.iret (v := (-5 : Int32)) hx hb hr (fun t ht hW => ⟨⟨(-5 : Int32), (), rfl, h, ⟨hp_at ht hP, hD⟩⟩, hS.F ht⟩) hS.2.2 dX5_closedNear_45
      · have h := h.2 c_7
        refine lv_aload_n hx hb dX5_closedNear_10 rfl (lv_at hl 0 rfl) ?_
        refine kg (v := .ref (a 7)) S hE hP 5 rfl rfl 2 (by decide) q_3_13 rfl rfl inlX5 dX5_closedNear_11 ?_
        refine lv_iload_n hx hb dX5_closedNear_14 rfl (lv_at hl 2 rfl) ?_
        refine kazl (v := (vo (Int32.toNatClampNeg x2))) S hE hP 7 rfl h.1 rfl rfl dX5_closedNear_15 ?_
        have h := h.2
        refine lv_if_ne (tgt := 37) hx hb dX5_closedNear_16 (by decide) (fun c_16 => ?_) (fun c_16 => ?_)
        · have h := h.1 c_16
          exact J_37 _ h _ _ _ hP hD hS (lv_sub hl [0, 1, 2] rfl)
        · have h := h.2 c_16
          refine lv_fload_n hx hb dX5_closedNear_19 rfl (lv_at hl 1 rfl) ?_
          refine lv_aload_n hx hb dX5_closedNear_20 rfl (lv_at hl 0 rfl) ?_
          refine lv_iload_n hx hb dX5_closedNear_21 rfl (lv_at hl 2 rfl) ?_
          refine kc_Vf0 (As := [.int x2]) (rest := [.float x1]) S hE (ctX5_metres l G cy a vn vf vs vp vq vd vo x2 _ h) q_5_16 q_5_17 q_5_18 q_2_20 q_5_19 rfl 5 rfl rfl ydX5_metres ⟨⟨rfl, rfl⟩, ⟨Nat.le_of_ble_eq_true rfl, Nat.le_of_ble_eq_true rfl⟩⟩ ⟨Nat.zero_le _, Nat.zero_le _⟩ hP hD hS rfl hl.1 rfl (Nat.le_of_ble_eq_true rfl) dX5_closedNear_22 (fun r_22 u_22 H locs h hP hD hS => ?_)
          refine lv_fsub hx hb dX5_closedNear_25 h.1 ?_
          have h := h.2
          refine kc_NfE (As := [.float (FP.fsub x1 r_22)]) (rest := []) S hE (ctX6_size l G cy   (FP.fsub x1 r_22) _ h) hE.2.2.2.1 q_8_1 q_1_2 q_8_2 ydX6_size ⟨⟨rfl, rfl⟩, ⟨Nat.le_of_ble_eq_true rfl, Nat.le_of_ble_eq_true rfl⟩⟩ ⟨Nat.zero_le _, Nat.zero_le _⟩ hP hD hS (fun _ => rfl) rfl hl.1 rfl (Nat.le_of_ble_eq_true rfl) dX5_closedNear_26 (fun r_26 u_26 H locs h hP hD hS => ?_)
          refine lv_ldcf hx hb S.2.2.2.1 (S.2.2.2.2 _ q_17_4) dX5_closedNear_29 ?_
          refine lv_fcmp hx hb dX5_closedNear_31 ?_
          refine lv_if_ge (tgt := 37) hx hb dX5_closedNear_32 (by decide) (fun c_32 => ?_) (fun c_32 => ?_)
          · have h := h.1 c_32
            exact J_37 _ h _ _ _ hP hD hS (lv_sub hl [0, 1, 2] rfl)
          · have h := h.2 c_32
            refine lv_iload_n hx hb dX5_closedNear_35 rfl (lv_at hl 2 rfl) ?_
            exact W.iret (v := x2) hx hb hr (fun t ht hW => ⟨⟨x2, (), rfl, h, ⟨hp_at ht hP, hD⟩⟩, hS.F ht⟩) hS.2.2 dX5_closedNear_36
  refine lv_iconst (v := (0 : Int32)) hx hb dX5_closedNear_0 (by decide) ?_
  refine lv_istore_n (lv' := [(2, .int (0 : Int32)), (0, .ref (a 5)), (1, .float p1)]) hx hb dX5_closedNear_1 rfl hl (by decide) rfl (fun ls hl => ?_)
  obtain ⟨k0, h⟩ := h
  exact L_2 _ _ _ _ k0 _ h _ _ _ hP hD hS (lv_sub hl [1, 2, 0] rfl)
