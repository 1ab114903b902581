def vL_up (p0 : Int32) (p1 : Int32) (K : Int32 → Unit → Prop) : Prop :=
  ¬ p1 = 0 ∧ K ((p0 &&& (2147483647 : Int32)) - (p0 &&& (2147483647 : Int32)) / p1 * p1) ()
set_option maxRecDepth 100000 in
set_option maxHeartbeats 4000000 in
theorem ctL_up (l : Launch) (G : va_G) (cy : Nat → ClassId)   (p0 : Int32) (p1 : Int32) (K : Int32 → Unit → Prop) (h : vL_up p0 p1 K) : Met l yL_up (ws_ yL_up cL_up 2 (some .int)) ({ frames := 0, cells := 0, slots := 0, locals := 0 } : Room) (CP G cy [.int p0, .int p1] ([])) (RI G K (fun u => []) (A1 ([]))) 0 0 (A1 ([])) := by
  refine hd_go (Qf := fun A => (RI G K (fun u => []) A)) (by decide +kernel) (Nat.le_of_ble_eq_true rfl) ?_
  intro p e s m below meth c ls A hx hb hr hlocks S hE hP hD hS hl
  have hl : lv_has ls 2 [(0, .int p0), (1, .int p1)] := hl
  unfold vL_up at h
  refine lv_iload_n hx hb dL_up_0 rfl (lv_at hl 0 rfl) ?_
  refine lv_ldc hx hb S.2.2.2.1 (S.2.2.2.2 _ q_10_0) dL_up_1 ?_
  refine lv_iand hx hb dL_up_3 ?_
  refine lv_iload_n hx hb dL_up_4 rfl (lv_at hl 1 rfl) ?_
  refine lv_irem hx hb dL_up_5 h.1 ?_
  have h := h.2
  exact W.iret (v := ((p0 &&& (2147483647 : Int32)) - (p0 &&& (2147483647 : Int32)) / p1 * p1)) hx hb hr (fun t ht hW => ⟨⟨((p0 &&& (2147483647 : Int32)) - (p0 &&& (2147483647 : Int32)) / p1 * p1), (), rfl, h, ⟨hp_at ht hP, hD⟩⟩, hS.F ht⟩) hS.2.2 dL_up_6
def vL_view_40 (vn : Nat → Int32) (vf : Nat → UInt32) (vs : Nat → Int32) (vp : Nat → Int32) (vq : Nat → Int32) (vd : Nat → Int32) (vo : Nat → Int32) (tm : Nat → Int32) (hc : Nat → Int32) (x3 : Int32) (y0 : Int64) (K : Int64 → Unit → Prop) (B6 : Int64 → Int32 → Prop) : Prop :=
  B6 y0 (x3 + (1 : Int32))
def vL_view_24 (vn : Nat → Int32) (vf : Nat → UInt32) (vs : Nat → Int32) (vp : Nat → Int32) (vq : Nat → Int32) (vd : Nat → Int32) (vo : Nat → Int32) (tm : Nat → Int32) (hc : Nat → Int32) (x1 : Int64) (x3 : Int32) (K : Int64 → Unit → Prop) (B6 : Int64 → Int32 → Prop) : Prop :=
  vL_view_40 vn vf vs vp vq vd vo tm hc x3 x1 K B6
def vL_view_89b (vn : Nat → Int32) (vf : Nat → UInt32) (vs : Nat → Int32) (vp : Nat → Int32) (vq : Nat → Int32) (vd : Nat → Int32) (vo : Nat → Int32) (tm : Nat → Int32) (hc : Nat → Int32) (x3 : Int32) (K : Int64 → Unit → Prop) (B76 : Int64 → Int32 → Prop) (B89 : Int64 → Int32 → Prop) (x1 : Int64) (x4 : Int32) : Prop :=
  ((3 : Int32) ≤ x4 → B76 x1 (x3 + (1 : Int32))) ∧ (¬ (3 : Int32) ≤ x4 → vX6_stop vn vd vo x3 x4 (fun r_104 u_104 => B89 (((31 : Int64) * x1) + (Int32.toInt64 r_104)) (x4 + (1 : Int32))))
def vL_view_89F (vn : Nat → Int32) (vf : Nat → UInt32) (vs : Nat → Int32) (vp : Nat → Int32) (vq : Nat → Int32) (vd : Nat → Int32) (vo : Nat → Int32) (tm : Nat → Int32) (hc : Nat → Int32) (x3 : Int32) (K : Int64 → Unit → Prop) (B76 : Int64 → Int32 → Prop) : ((Int64 × Int32) → Prop) → (Int64 × Int32) → Prop := fun B z => vL_view_89b vn vf vs vp vq vd vo tm hc x3 K B76 (fun z0 z1 => B (z0, z1)) z.1 z.2
def vL_view_124b (vn : Nat → Int32) (vf : Nat → UInt32) (vs : Nat → Int32) (vp : Nat → Int32) (vq : Nat → Int32) (vd : Nat → Int32) (vo : Nat → Int32) (tm : Nat → Int32) (hc : Nat → Int32) (K : Int64 → Unit → Prop)  (B124 : Int64 → Int32 → Prop) (x1 : Int64) (x3 : Int32) : Prop :=
  vX6_total vn vf vs vd vo tm hc (6 : Int32) (fun r_128 u_128 => (r_128 ≤ x3 → vX6_judgement vn vf vs vp vq (fun r_172 u_172 => K (((31 : Int64) * x1) + (Int32.toInt64 r_172)) ())) ∧ (¬ r_128 ≤ x3 → vX6_point vn vp vq x3 (0 : Int32) (fun r_145 u_145 => vX6_point vn vp vq x3 (1 : Int32) (fun r_154 u_154 => B124 (((31 : Int64) * (((31 : Int64) * x1) + (Int32.toInt64 r_145))) + (Int32.toInt64 r_154)) (x3 + (1 : Int32))))))
def vL_view_124F (vn : Nat → Int32) (vf : Nat → UInt32) (vs : Nat → Int32) (vp : Nat → Int32) (vq : Nat → Int32) (vd : Nat → Int32) (vo : Nat → Int32) (tm : Nat → Int32) (hc : Nat → Int32) (K : Int64 → Unit → Prop)  : ((Int64 × Int32) → Prop) → (Int64 × Int32) → Prop := fun B z => vL_view_124b vn vf vs vp vq vd vo tm hc K  (fun z0 z1 => B (z0, z1)) z.1 z.2
def vL_view_76b (vn : Nat → Int32) (vf : Nat → UInt32) (vs : Nat → Int32) (vp : Nat → Int32) (vq : Nat → Int32) (vd : Nat → Int32) (vo : Nat → Int32) (tm : Nat → Int32) (hc : Nat → Int32) (K : Int64 → Unit → Prop)  (B76 : Int64 → Int32 → Prop) (x1 : Int64) (x3 : Int32) : Prop :=
  vX6_total vn vf vs vd vo tm hc (7 : Int32) (fun r_80 u_80 => (r_80 ≤ x3 → ∃ k, lp (vL_view_124F vn vf vs vp vq vd vo tm hc K ) k (x1, (0 : Int32))) ∧ (¬ r_80 ≤ x3 → ∃ k, lp (vL_view_89F vn vf vs vp vq vd vo tm hc x3 K B76) k (x1, (0 : Int32))))
def vL_view_76F (vn : Nat → Int32) (vf : Nat → UInt32) (vs : Nat → Int32) (vp : Nat → Int32) (vq : Nat → Int32) (vd : Nat → Int32) (vo : Nat → Int32) (tm : Nat → Int32) (hc : Nat → Int32) (K : Int64 → Unit → Prop)  : ((Int64 × Int32) → Prop) → (Int64 × Int32) → Prop := fun B z => vL_view_76b vn vf vs vp vq vd vo tm hc K  (fun z0 z1 => B (z0, z1)) z.1 z.2
def vL_view_49b (vn : Nat → Int32) (vf : Nat → UInt32) (vs : Nat → Int32) (vp : Nat → Int32) (vq : Nat → Int32) (vd : Nat → Int32) (vo : Nat → Int32) (tm : Nat → Int32) (hc : Nat → Int32) (K : Int64 → Unit → Prop)  (B49 : Int64 → Int32 → Prop) (x1 : Int64) (x3 : Int32) : Prop :=
  ((8 : Int32) ≤ x3 → ∃ k, lp (vL_view_76F vn vf vs vp vq vd vo tm hc K ) k (x1, (0 : Int32))) ∧ (¬ (8 : Int32) ≤ x3 → vX6_bits vn vf vp vq x3 (fun r_62 u_62 => B49 (((31 : Int64) * x1) + (Int32.toInt64 r_62)) (x3 + (1 : Int32))))
def vL_view_49F (vn : Nat → Int32) (vf : Nat → UInt32) (vs : Nat → Int32) (vp : Nat → Int32) (vq : Nat → Int32) (vd : Nat → Int32) (vo : Nat → Int32) (tm : Nat → Int32) (hc : Nat → Int32) (K : Int64 → Unit → Prop)  : ((Int64 × Int32) → Prop) → (Int64 × Int32) → Prop := fun B z => vL_view_49b vn vf vs vp vq vd vo tm hc K  (fun z0 z1 => B (z0, z1)) z.1 z.2
def vL_view_6b (vn : Nat → Int32) (vf : Nat → UInt32) (vs : Nat → Int32) (vp : Nat → Int32) (vq : Nat → Int32) (vd : Nat → Int32) (vo : Nat → Int32) (tm : Nat → Int32) (hc : Nat → Int32) (K : Int64 → Unit → Prop)  (B6 : Int64 → Int32 → Prop) (x1 : Int64) (x3 : Int32) : Prop :=
  ((21 : Int32) ≤ x3 → ∃ k, lp (vL_view_49F vn vf vs vp vq vd vo tm hc K ) k (x1, (0 : Int32))) ∧ (¬ (21 : Int32) ≤ x3 → (x3 = (9 : Int32) → vL_view_24 vn vf vs vp vq vd vo tm hc x1 x3 K B6) ∧ (¬ x3 = (9 : Int32) → (¬ x3 = (10 : Int32) → vX6_total vn vf vs vd vo tm hc x3 (fun r_35 u_35 => vL_view_40 vn vf vs vp vq vd vo tm hc x3 (((31 : Int64) * x1) + (Int32.toInt64 r_35)) K B6)) ∧ (x3 = (10 : Int32) → vL_view_24 vn vf vs vp vq vd vo tm hc x1 x3 K B6)))
def vL_view_6F (vn : Nat → Int32) (vf : Nat → UInt32) (vs : Nat → Int32) (vp : Nat → Int32) (vq : Nat → Int32) (vd : Nat → Int32) (vo : Nat → Int32) (tm : Nat → Int32) (hc : Nat → Int32) (K : Int64 → Unit → Prop)  : ((Int64 × Int32) → Prop) → (Int64 × Int32) → Prop := fun B z => vL_view_6b vn vf vs vp vq vd vo tm hc K  (fun z0 z1 => B (z0, z1)) z.1 z.2
def vL_view (vn : Nat → Int32) (vf : Nat → UInt32) (vs : Nat → Int32) (vp : Nat → Int32) (vq : Nat → Int32) (vd : Nat → Int32) (vo : Nat → Int32) (tm : Nat → Int32) (hc : Nat → Int32) (K : Int64 → Unit → Prop) : Prop :=
  ∃ k, lp (vL_view_6F vn vf vs vp vq vd vo tm hc K ) k ((7 : Int64), (0 : Int32))
set_option maxRecDepth 100000 in
set_option maxHeartbeats 4000000 in
theorem ctL_view (l : Launch) (G : va_G) (cy : Nat → ClassId) (g : Nat → Nat) (a : Nat → Nat) (b : Nat → Nat) (t : Nat → Nat) (vn : Nat → Int32) (vf : Nat → UInt32) (vs : Nat → Int32) (vp : Nat → Int32) (vq : Nat → Int32) (vd : Nat → Int32) (vo : Nat → Int32) (un : Nat → Int32) (uf : Nat → UInt32) (us : Nat → Int32) (up : Nat → Int32) (uq : Nat → Int32) (ud : Nat → Int32) (uo : Nat → Int32) (tm : Nat → Int32) (tx : Nat → Int32) (hc : Nat → Int32) (hh : Nat → Sx) (ss : Nat → Sx) (sv : Nat → Int32)  (K : Int64 → Unit → Prop) (h : vL_view vn vf vs vp vq vd vo tm hc K) : Met l yL_view (ws_ yL_view cL_view 5 (some .long)) ({ frames := 4, cells := 0, slots := 0, locals := 89 } : Room) (CP G cy [.ref (g 0)] (mo_W cy g a b t vn vf vs vp vq vd vo un uf us up uq ud uo tm tx hc hh ss sv)) (RJ G K (fun u => mo_W cy g a b t vn vf vs vp vq vd vo un uf us up uq ud uo tm tx hc hh ss sv) (A1 (mo_W cy g a b t vn vf vs vp vq vd vo un uf us up uq ud uo tm tx hc hh ss sv))) 0 0 (A1 (mo_W cy g a b t vn vf vs vp vq vd vo un uf us up uq ud uo tm tx hc hh ss sv)) := by
  refine hd_go (Qf := fun A => (RJ G K (fun u => mo_W cy g a b t vn vf vs vp vq vd vo un uf us up uq ud uo tm tx hc hh ss sv) A)) (by decide +kernel) (Nat.le_of_ble_eq_true rfl) ?_
  intro p e s m below meth c ls A hx hb hr hlocks S hE hP hD hS hl
  have hl : lv_has ls 5 [(0, .ref (g 0))] := hl
  unfold vL_view at h
  have L_124 : ∀ (vn : Nat → Int32) (vf : Nat → UInt32) (vs : Nat → Int32) (vp : Nat → Int32) (vq : Nat → Int32) (vd : Nat → Int32) (vo : Nat → Int32) (tm : Nat → Int32) (hc : Nat → Int32) (k_124 : Nat) (x1 : Int64) (x3 : Int32), lp (vL_view_124F vn vf vs vp vq vd vo tm hc K ) k_124 (x1, x3) → ∀ (H : Heap) (locs : List Loc) (ls : Array Slot), va_P G vwCl (mo_W cy g a b t vn vf vs vp vq vd vo un uf us up uq ud uo tm tx hc hh ss sv) H → va_D A (mo_W cy g a b t vn vf vs vp vq vd vo un uf us up uq ud uo tm tx hc hh ss sv) → va_S A s.heap H locs → lv_has ls 5 [(0, .ref (g 0)), (1, .long x1), (3, .int x3)] → W p l e (headSpec (ws_ yL_view cL_view 5 (some .long)) ({ frames := 4, cells := 0, slots := 0, locals := 89 } : Room)).room s m ([.ref (g 0)] : List Value).toArray below meth c H locs 0 0 (MQ below (RJ G K (fun u => mo_W cy g a b t vn vf vs vp vq vd vo un uf us up uq ud uo tm tx hc hh ss sv) A) ([.ref (g 0)] : List Value).toArray s 0 0 A) (F0 m 124 ls []) := by
    intro vn vf vs vp vq vd vo tm hc k_124
    induction k_124 with
    | zero => intro x1 x3 h; exact h.elim
    | succ k_124 ih_124 =>
      intro x1 x3 h H locs ls hP hD hS hl
      have h : vL_view_124b vn vf vs vp vq vd vo tm hc K  (fun z0 z1 => lp (vL_view_124F vn vf vs vp vq vd vo tm hc K ) k_124 (z0, z1)) x1 x3 := h
      unfold vL_view_124b at h
      refine lv_iload_n hx hb dL_view_124 rfl (lv_at hl 2 rfl) ?_
      refine lv_aload_n hx hb dL_view_125 rfl (lv_at hl 0 rfl) ?_
      refine lv_bipush (v := (6 : Int32)) hx hb dL_view_126 (by decide) ?_
      refine kc_Vi0 (As := [.int (6 : Int32)]) (rest := [.int x3]) S hE (ctX6_total l G cy g a b t vn vf vs vp vq vd vo un uf us up uq ud uo tm tx hc hh ss sv (6 : Int32) _ h) q_4_16 q_4_17 q_4_18 q_1_2 q_4_19 rfl 0 rfl rfl ydX6_total ⟨⟨rfl, rfl⟩, ⟨Nat.le_of_ble_eq_true rfl, Nat.le_of_ble_eq_true rfl⟩⟩ ⟨Nat.zero_le _, Nat.zero_le _⟩ hP hD hS rfl hl.1 rfl (Nat.le_of_ble_eq_true rfl) dL_view_128 (fun r_128 u_128 H locs h hP hD hS => ?_)
      refine lv_icmp_ge (tgt := 166) hx hb dL_view_131 (by decide) (fun c_131 => ?_) (fun c_131 => ?_)
      · have h := h.1 c_131
        refine lv_ldc2 hx hb S.2.2.2.1 (S.2.2.2.2 _ q_4_15) dL_view_166 ?_
        refine lv_lload_n hx hb dL_view_169 rfl (lv_at hl 1 rfl) ?_
        refine lv_lmul hx hb dL_view_170 ?_
        refine lv_aload_n hx hb dL_view_171 rfl (lv_at hl 0 rfl) ?_
        refine kc_Vi0 (As := []) (rest := [.long ((31 : Int64) * x1)]) S hE (ctX6_judgement l G cy g a b t vn vf vs vp vq vd vo un uf us up uq ud uo tm tx hc hh ss sv  _ h) q_8_20 q_8_21 q_8_22 q_1_2 q_8_23 rfl 0 rfl rfl ydX6_judgement ⟨⟨rfl, rfl⟩, ⟨Nat.le_of_ble_eq_true rfl, Nat.le_of_ble_eq_true rfl⟩⟩ ⟨Nat.zero_le _, Nat.zero_le _⟩ hP hD hS rfl hl.1 rfl (Nat.le_of_ble_eq_true rfl) dL_view_172 (fun r_172 u_172 H locs h hP hD hS => ?_)
        refine lv_i2l hx hb dL_view_175 rfl ?_
        refine lv_ladd hx hb dL_view_176 ?_
        exact W.lret (v := (((31 : Int64) * x1) + (Int32.toInt64 r_172))) hx hb hr (fun t ht hW => ⟨⟨(((31 : Int64) * x1) + (Int32.toInt64 r_172)), (), rfl, h, ⟨hp_at ht hP, hD⟩⟩, hS.F ht⟩) hS.2.2 dL_view_177
      · have h := h.2 c_131
        refine lv_ldc2 hx hb S.2.2.2.1 (S.2.2.2.2 _ q_4_15) dL_view_134 ?_
        refine lv_ldc2 hx hb S.2.2.2.1 (S.2.2.2.2 _ q_4_15) dL_view_137 ?_
        refine lv_lload_n hx hb dL_view_140 rfl (lv_at hl 1 rfl) ?_
        refine lv_lmul hx hb dL_view_141 ?_
        refine lv_aload_n hx hb dL_view_142 rfl (lv_at hl 0 rfl) ?_
        refine lv_iload_n hx hb dL_view_143 rfl (lv_at hl 2 rfl) ?_
        refine lv_iconst (v := (0 : Int32)) hx hb dL_view_144 (by decide) ?_
        refine kc_Vi0 (As := [.int x3, .int (0 : Int32)]) (rest := [.long ((31 : Int64) * x1), .long (31 : Int64)]) S hE (ctX6_point l G cy g a b t vn vf vs vp vq vd vo un uf us up uq ud uo tm tx hc hh ss sv x3 (0 : Int32) _ h) q_8_14 q_8_15 q_8_16 q_1_2 q_8_17 rfl 0 rfl rfl ydX6_point ⟨⟨rfl, rfl⟩, ⟨Nat.le_of_ble_eq_true rfl, Nat.le_of_ble_eq_true rfl⟩⟩ ⟨Nat.zero_le _, Nat.zero_le _⟩ hP hD hS rfl hl.1 rfl (Nat.le_of_ble_eq_true rfl) dL_view_145 (fun r_145 u_145 H locs h hP hD hS => ?_)
        refine lv_i2l hx hb dL_view_148 rfl ?_
        refine lv_ladd hx hb dL_view_149 ?_
        refine lv_lmul hx hb dL_view_150 ?_
        refine lv_aload_n hx hb dL_view_151 rfl (lv_at hl 0 rfl) ?_
        refine lv_iload_n hx hb dL_view_152 rfl (lv_at hl 2 rfl) ?_
        refine lv_iconst (v := (1 : Int32)) hx hb dL_view_153 (by decide) ?_
        refine kc_Vi0 (As := [.int x3, .int (1 : Int32)]) (rest := [.long ((31 : Int64) * (((31 : Int64) * x1) + (Int32.toInt64 r_145)))]) S hE (ctX6_point l G cy g a b t vn vf vs vp vq vd vo un uf us up uq ud uo tm tx hc hh ss sv x3 (1 : Int32) _ h) q_8_14 q_8_15 q_8_16 q_1_2 q_8_17 rfl 0 rfl rfl ydX6_point ⟨⟨rfl, rfl⟩, ⟨Nat.le_of_ble_eq_true rfl, Nat.le_of_ble_eq_true rfl⟩⟩ ⟨Nat.zero_le _, Nat.zero_le _⟩ hP hD hS rfl hl.1 rfl (Nat.le_of_ble_eq_true rfl) dL_view_154 (fun r_154 u_154 H locs h hP hD hS => ?_)
        refine lv_i2l hx hb dL_view_157 rfl ?_
        refine lv_ladd hx hb dL_view_158 ?_
        refine lv_lstore_n (lv' := [(1, .long (((31 : Int64) * (((31 : Int64) * x1) + (Int32.toInt64 r_145))) + (Int32.toInt64 r_154))), (0, .ref (g 0)), (3, .int x3)]) hx hb dL_view_159 rfl hl (by decide) rfl (fun ls hl => ?_)
        refine lv_iinc (v := (x3 + (1 : Int32))) (lv' := [(3, .int (x3 + (1 : Int32))), (1, .long (((31 : Int64) * (((31 : Int64) * x1) + (Int32.toInt64 r_145))) + (Int32.toInt64 r_154))), (0, .ref (g 0))]) hx hb dL_view_160 hl (k := 2) rfl (by rfl) (by decide) rfl (fun ls hl => ?_)
        refine lv_goto (tgt := 124) hx hb dL_view_163 (by decide) ?_
        exact ih_124 _ _ h _ _ _ hP hD hS (lv_sub hl [2, 1, 0] rfl)
  have L_76 : ∀ (vn : Nat → Int32) (vf : Nat → UInt32) (vs : Nat → Int32) (vp : Nat → Int32) (vq : Nat → Int32) (vd : Nat → Int32) (vo : Nat → Int32) (tm : Nat → Int32) (hc : Nat → Int32) (k_76 : Nat) (x1 : Int64) (x3 : Int32), lp (vL_view_76F vn vf vs vp vq vd vo tm hc K ) k_76 (x1, x3) → ∀ (H : Heap) (locs : List Loc) (ls : Array Slot), va_P G vwCl (mo_W cy g a b t vn vf vs vp vq vd vo un uf us up uq ud uo tm tx hc hh ss sv) H → va_D A (mo_W cy g a b t vn vf vs vp vq vd vo un uf us up uq ud uo tm tx hc hh ss sv) → va_S A s.heap H locs → lv_has ls 5 [(0, .ref (g 0)), (1, .long x1), (3, .int x3)] → W p l e (headSpec (ws_ yL_view cL_view 5 (some .long)) ({ frames := 4, cells := 0, slots := 0, locals := 89 } : Room)).room s m ([.ref (g 0)] : List Value).toArray below meth c H locs 0 0 (MQ below (RJ G K (fun u => mo_W cy g a b t vn vf vs vp vq vd vo un uf us up uq ud uo tm tx hc hh ss sv) A) ([.ref (g 0)] : List Value).toArray s 0 0 A) (F0 m 76 ls []) := by
    intro vn vf vs vp vq vd vo tm hc k_76
    induction k_76 with
    | zero => intro x1 x3 h; exact h.elim
    | succ k_76 ih_76 =>
      have L_89 : ∀ (x3 : Int32) (k_89 : Nat) (x1 : Int64) (x4 : Int32), lp (vL_view_89F vn vf vs vp vq vd vo tm hc x3 K (fun z0 z1 => lp (vL_view_76F vn vf vs vp vq vd vo tm hc K ) k_76 (z0, z1))) k_89 (x1, x4) → ∀ (H : Heap) (locs : List Loc) (ls : Array Slot), va_P G vwCl (mo_W cy g a b t vn vf vs vp vq vd vo un uf us up uq ud uo tm tx hc hh ss sv) H → va_D A (mo_W cy g a b t vn vf vs vp vq vd vo un uf us up uq ud uo tm tx hc hh ss sv) → va_S A s.heap H locs → lv_has ls 5 [(0, .ref (g 0)), (1, .long x1), (3, .int x3), (4, .int x4)] → W p l e (headSpec (ws_ yL_view cL_view 5 (some .long)) ({ frames := 4, cells := 0, slots := 0, locals := 89 } : Room)).room s m ([.ref (g 0)] : List Value).toArray below meth c H locs 0 0 (MQ below (RJ G K (fun u => mo_W cy g a b t vn vf vs vp vq vd vo un uf us up uq ud uo tm tx hc hh ss sv) A) ([.ref (g 0)] : List Value).toArray s 0 0 A) (F0 m 89 ls []) := by
        intro x3 k_89
        induction k_89 with
        | zero => intro x1 x4 h; exact h.elim
        | succ k_89 ih_89 =>
          intro x1 x4 h H locs ls hP hD hS hl
          have h : vL_view_89b vn vf vs vp vq vd vo tm hc x3 K (fun z0 z1 => lp (vL_view_76F vn vf vs vp vq vd vo tm hc K ) k_76 (z0, z1)) (fun z0 z1 => lp (vL_view_89F vn vf vs vp vq vd vo tm hc x3 K (fun z0 z1 => lp (vL_view_76F vn vf vs vp vq vd vo tm hc K ) k_76 (z0, z1))) k_89 (z0, z1)) x1 x4 := h
          unfold vL_view_89b at h
          refine lv_iload hx hb dL_view_89 (lv_at hl 3 rfl) ?_
          refine lv_iconst (v := (3 : Int32)) hx hb dL_view_91 (by decide) ?_
          refine lv_icmp_ge (tgt := 116) hx hb dL_view_92 (by decide) (fun c_92 => ?_) (fun c_92 => ?_)
          · have h := h.1 c_92
            refine lv_iinc (v := (x3 + (1 : Int32))) (lv' := [(3, .int (x3 + (1 : Int32))), (0, .ref (g 0)), (1, .long x1), (4, .int x4)]) hx hb dL_view_116 hl (k := 2) rfl (by rfl) (by decide) rfl (fun ls hl => ?_)
            refine lv_goto (tgt := 76) hx hb dL_view_119 (by decide) ?_
            exact ih_76 x1 (x3 + (1 : Int32)) h _ _ _ hP hD hS (lv_sub hl [1, 2, 0] rfl)
          · have h := h.2 c_92
            refine lv_ldc2 hx hb S.2.2.2.1 (S.2.2.2.2 _ q_4_15) dL_view_95 ?_
            refine lv_lload_n hx hb dL_view_98 rfl (lv_at hl 1 rfl) ?_
            refine lv_lmul hx hb dL_view_99 ?_
            refine lv_aload_n hx hb dL_view_100 rfl (lv_at hl 0 rfl) ?_
            refine lv_iload_n hx hb dL_view_101 rfl (lv_at hl 2 rfl) ?_
            refine lv_iload hx hb dL_view_102 (lv_at hl 3 rfl) ?_
            refine kc_Vi0 (As := [.int x3, .int x4]) (rest := [.long ((31 : Int64) * x1)]) S hE (ctX6_stop l G cy g a b t vn vf vs vp vq vd vo un uf us up uq ud uo tm tx hc hh ss sv x3 x4 _ h) q_8_3 q_8_4 q_8_5 q_1_2 q_8_6 rfl 0 rfl rfl ydX6_stop ⟨⟨rfl, rfl⟩, ⟨Nat.le_of_ble_eq_true rfl, Nat.le_of_ble_eq_true rfl⟩⟩ ⟨Nat.zero_le _, Nat.zero_le _⟩ hP hD hS rfl hl.1 rfl (Nat.le_of_ble_eq_true rfl) dL_view_104 (fun r_104 u_104 H locs h hP hD hS => ?_)
            refine lv_i2l hx hb dL_view_107 rfl ?_
            refine lv_ladd hx hb dL_view_108 ?_
            refine lv_lstore_n (lv' := [(1, .long (((31 : Int64) * x1) + (Int32.toInt64 r_104))), (0, .ref (g 0)), (3, .int x3), (4, .int x4)]) hx hb dL_view_109 rfl hl (by decide) rfl (fun ls hl => ?_)
            refine lv_iinc (v := (x4 + (1 : Int32))) (lv' := [(4, .int (x4 + (1 : Int32))), (1, .long (((31 : Int64) * x1) + (Int32.toInt64 r_104))), (0, .ref (g 0)), (3, .int x3)]) hx hb dL_view_110 hl (k := 3) rfl (by rfl) (by decide) rfl (fun ls hl => ?_)
            refine lv_goto (tgt := 89) hx hb dL_view_113 (by decide) ?_
            exact ih_89 _ _ h _ _ _ hP hD hS (lv_sub hl [2, 1, 3, 0] rfl)
      intro x1 x3 h H locs ls hP hD hS hl
      have h : vL_view_76b vn vf vs vp vq vd vo tm hc K  (fun z0 z1 => lp (vL_view_76F vn vf vs vp vq vd vo tm hc K ) k_76 (z0, z1)) x1 x3 := h
      unfold vL_view_76b at h
      refine lv_iload_n hx hb dL_view_76 rfl (lv_at hl 2 rfl) ?_
      refine lv_aload_n hx hb dL_view_77 rfl (lv_at hl 0 rfl) ?_
      refine lv_bipush (v := (7 : Int32)) hx hb dL_view_78 (by decide) ?_
      refine kc_Vi0 (As := [.int (7 : Int32)]) (rest := [.int x3]) S hE (ctX6_total l G cy g a b t vn vf vs vp vq vd vo un uf us up uq ud uo tm tx hc hh ss sv (7 : Int32) _ h) q_4_16 q_4_17 q_4_18 q_1_2 q_4_19 rfl 0 rfl rfl ydX6_total ⟨⟨rfl, rfl⟩, ⟨Nat.le_of_ble_eq_true rfl, Nat.le_of_ble_eq_true rfl⟩⟩ ⟨Nat.zero_le _, Nat.zero_le _⟩ hP hD hS rfl hl.1 rfl (Nat.le_of_ble_eq_true rfl) dL_view_80 (fun r_80 u_80 H locs h hP hD hS => ?_)
      refine lv_icmp_ge (tgt := 122) hx hb dL_view_83 (by decide) (fun c_83 => ?_) (fun c_83 => ?_)
      · have h := h.1 c_83
        refine lv_iconst (v := (0 : Int32)) hx hb dL_view_122 (by decide) ?_
        refine lv_istore_n (lv' := [(3, .int (0 : Int32)), (0, .ref (g 0)), (1, .long x1)]) hx hb dL_view_123 rfl hl (by decide) rfl (fun ls hl => ?_)
        obtain ⟨k0, h⟩ := h
        exact L_124 _ _ _ _ _ _ _ _ _ k0 _ _ h _ _ _ hP hD hS (lv_sub hl [1, 2, 0] rfl)
      · have h := h.2 c_83
        refine lv_iconst (v := (0 : Int32)) hx hb dL_view_86 (by decide) ?_
        refine lv_istore (lv' := [(4, .int (0 : Int32)), (0, .ref (g 0)), (1, .long x1), (3, .int x3)]) hx hb dL_view_87 hl (by decide) rfl (fun ls hl => ?_)
        obtain ⟨k0, h⟩ := h
        exact L_89 _ k0 _ _ h _ _ _ hP hD hS (lv_sub hl [1, 2, 3, 0] rfl)
  have L_49 : ∀ (vn : Nat → Int32) (vf : Nat → UInt32) (vs : Nat → Int32) (vp : Nat → Int32) (vq : Nat → Int32) (vd : Nat → Int32) (vo : Nat → Int32) (tm : Nat → Int32) (hc : Nat → Int32) (k_49 : Nat) (x1 : Int64) (x3 : Int32), lp (vL_view_49F vn vf vs vp vq vd vo tm hc K ) k_49 (x1, x3) → ∀ (H : Heap) (locs : List Loc) (ls : Array Slot), va_P G vwCl (mo_W cy g a b t vn vf vs vp vq vd vo un uf us up uq ud uo tm tx hc hh ss sv) H → va_D A (mo_W cy g a b t vn vf vs vp vq vd vo un uf us up uq ud uo tm tx hc hh ss sv) → va_S A s.heap H locs → lv_has ls 5 [(0, .ref (g 0)), (1, .long x1), (3, .int x3)] → W p l e (headSpec (ws_ yL_view cL_view 5 (some .long)) ({ frames := 4, cells := 0, slots := 0, locals := 89 } : Room)).room s m ([.ref (g 0)] : List Value).toArray below meth c H locs 0 0 (MQ below (RJ G K (fun u => mo_W cy g a b t vn vf vs vp vq vd vo un uf us up uq ud uo tm tx hc hh ss sv) A) ([.ref (g 0)] : List Value).toArray s 0 0 A) (F0 m 49 ls []) := by
    intro vn vf vs vp vq vd vo tm hc k_49
    induction k_49 with
    | zero => intro x1 x3 h; exact h.elim
    | succ k_49 ih_49 =>
      intro x1 x3 h H locs ls hP hD hS hl
      have h : vL_view_49b vn vf vs vp vq vd vo tm hc K  (fun z0 z1 => lp (vL_view_49F vn vf vs vp vq vd vo tm hc K ) k_49 (z0, z1)) x1 x3 := h
      unfold vL_view_49b at h
      refine lv_iload_n hx hb dL_view_49 rfl (lv_at hl 2 rfl) ?_
      refine lv_bipush (v := (8 : Int32)) hx hb dL_view_50 (by decide) ?_
      refine lv_icmp_ge (tgt := 74) hx hb dL_view_52 (by decide) (fun c_52 => ?_) (fun c_52 => ?_)
      · have h := h.1 c_52
        refine lv_iconst (v := (0 : Int32)) hx hb dL_view_74 (by decide) ?_
        refine lv_istore_n (lv' := [(3, .int (0 : Int32)), (0, .ref (g 0)), (1, .long x1)]) hx hb dL_view_75 rfl hl (by decide) rfl (fun ls hl => ?_)
        obtain ⟨k0, h⟩ := h
        exact L_76 _ _ _ _ _ _ _ _ _ k0 _ _ h _ _ _ hP hD hS (lv_sub hl [1, 2, 0] rfl)
      · have h := h.2 c_52
        refine lv_ldc2 hx hb S.2.2.2.1 (S.2.2.2.2 _ q_4_15) dL_view_55 ?_
        refine lv_lload_n hx hb dL_view_58 rfl (lv_at hl 1 rfl) ?_
        refine lv_lmul hx hb dL_view_59 ?_
        refine lv_aload_n hx hb dL_view_60 rfl (lv_at hl 0 rfl) ?_
        refine lv_iload_n hx hb dL_view_61 rfl (lv_at hl 2 rfl) ?_
        refine kc_Vi0 (As := [.int x3]) (rest := [.long ((31 : Int64) * x1)]) S hE (ctX6_bits l G cy g a b t vn vf vs vp vq vd vo un uf us up uq ud uo tm tx hc hh ss sv x3 _ h) q_6_6 q_6_7 q_6_8 q_1_2 q_6_9 rfl 0 rfl rfl ydX6_bits ⟨⟨rfl, rfl⟩, ⟨Nat.le_of_ble_eq_true rfl, Nat.le_of_ble_eq_true rfl⟩⟩ ⟨Nat.zero_le _, Nat.zero_le _⟩ hP hD hS rfl hl.1 rfl (Nat.le_of_ble_eq_true rfl) dL_view_62 (fun r_62 u_62 H locs h hP hD hS => ?_)
        refine lv_i2l hx hb dL_view_65 rfl ?_
        refine lv_ladd hx hb dL_view_66 ?_
        refine lv_lstore_n (lv' := [(1, .long (((31 : Int64) * x1) + (Int32.toInt64 r_62))), (0, .ref (g 0)), (3, .int x3)]) hx hb dL_view_67 rfl hl (by decide) rfl (fun ls hl => ?_)
        refine lv_iinc (v := (x3 + (1 : Int32))) (lv' := [(3, .int (x3 + (1 : Int32))), (1, .long (((31 : Int64) * x1) + (Int32.toInt64 r_62))), (0, .ref (g 0))]) hx hb dL_view_68 hl (k := 2) rfl (by rfl) (by decide) rfl (fun ls hl => ?_)
        refine lv_goto (tgt := 49) hx hb dL_view_71 (by decide) ?_
        exact ih_49 _ _ h _ _ _ hP hD hS (lv_sub hl [2, 1, 0] rfl)
  have L_6 : ∀ (vn : Nat → Int32) (vf : Nat → UInt32) (vs : Nat → Int32) (vp : Nat → Int32) (vq : Nat → Int32) (vd : Nat → Int32) (vo : Nat → Int32) (tm : Nat → Int32) (hc : Nat → Int32) (k_6 : Nat) (x1 : Int64) (x3 : Int32), lp (vL_view_6F vn vf vs vp vq vd vo tm hc K ) k_6 (x1, x3) → ∀ (H : Heap) (locs : List Loc) (ls : Array Slot), va_P G vwCl (mo_W cy g a b t vn vf vs vp vq vd vo un uf us up uq ud uo tm tx hc hh ss sv) H → va_D A (mo_W cy g a b t vn vf vs vp vq vd vo un uf us up uq ud uo tm tx hc hh ss sv) → va_S A s.heap H locs → lv_has ls 5 [(0, .ref (g 0)), (1, .long x1), (3, .int x3)] → W p l e (headSpec (ws_ yL_view cL_view 5 (some .long)) ({ frames := 4, cells := 0, slots := 0, locals := 89 } : Room)).room s m ([.ref (g 0)] : List Value).toArray below meth c H locs 0 0 (MQ below (RJ G K (fun u => mo_W cy g a b t vn vf vs vp vq vd vo un uf us up uq ud uo tm tx hc hh ss sv) A) ([.ref (g 0)] : List Value).toArray s 0 0 A) (F0 m 6 ls []) := by
    intro vn vf vs vp vq vd vo tm hc k_6
    induction k_6 with
    | zero => intro x1 x3 h; exact h.elim
    | succ k_6 ih_6 =>
      have J_40 : ∀ (x3 : Int32) (y0 : Int64), vL_view_40 vn vf vs vp vq vd vo tm hc x3 y0 K (fun z0 z1 => lp (vL_view_6F vn vf vs vp vq vd vo tm hc K ) k_6 (z0, z1)) → ∀ (H : Heap) (locs : List Loc) (ls : Array Slot), va_P G vwCl (mo_W cy g a b t vn vf vs vp vq vd vo un uf us up uq ud uo tm tx hc hh ss sv) H → va_D A (mo_W cy g a b t vn vf vs vp vq vd vo un uf us up uq ud uo tm tx hc hh ss sv) → va_S A s.heap H locs → lv_has ls 5 [(0, .ref (g 0)), (3, .int x3)] → W p l e (headSpec (ws_ yL_view cL_view 5 (some .long)) ({ frames := 4, cells := 0, slots := 0, locals := 89 } : Room)).room s m ([.ref (g 0)] : List Value).toArray below meth c H locs 0 0 (MQ below (RJ G K (fun u => mo_W cy g a b t vn vf vs vp vq vd vo un uf us up uq ud uo tm tx hc hh ss sv) A) ([.ref (g 0)] : List Value).toArray s 0 0 A) (F0 m 40 ls [.long y0]) := by
        intro x3 y0 h H locs ls hP hD hS hl
        unfold vL_view_40 at h
        refine lv_lstore_n (lv' := [(1, .long y0), (0, .ref (g 0)), (3, .int x3)]) hx hb dL_view_40 rfl hl (by decide) rfl (fun ls hl => ?_)
        refine lv_iinc (v := (x3 + (1 : Int32))) (lv' := [(3, .int (x3 + (1 : Int32))), (1, .long y0), (0, .ref (g 0))]) hx hb dL_view_41 hl (k := 2) rfl (by rfl) (by decide) rfl (fun ls hl => ?_)
        refine lv_goto (tgt := 6) hx hb dL_view_44 (by decide) ?_
        exact ih_6 y0 (x3 + (1 : Int32)) h _ _ _ hP hD hS (lv_sub hl [2, 1, 0] rfl)
      have J_24 : ∀ (x1 : Int64) (x3 : Int32), vL_view_24 vn vf vs vp vq vd vo tm hc x1 x3 K (fun z0 z1 => lp (vL_view_6F vn vf vs vp vq vd vo tm hc K ) k_6 (z0, z1)) → ∀ (H : Heap) (locs : List Loc) (ls : Array Slot), va_P G vwCl (mo_W cy g a b t vn vf vs vp vq vd vo un uf us up uq ud uo tm tx hc hh ss sv) H → va_D A (mo_W cy g a b t vn vf vs vp vq vd vo un uf us up uq ud uo tm tx hc hh ss sv) → va_S A s.heap H locs → lv_has ls 5 [(0, .ref (g 0)), (1, .long x1), (3, .int x3)] → W p l e (headSpec (ws_ yL_view cL_view 5 (some .long)) ({ frames := 4, cells := 0, slots := 0, locals := 89 } : Room)).room s m ([.ref (g 0)] : List Value).toArray below meth c H locs 0 0 (MQ below (RJ G K (fun u => mo_W cy g a b t vn vf vs vp vq vd vo un uf us up uq ud uo tm tx hc hh ss sv) A) ([.ref (g 0)] : List Value).toArray s 0 0 A) (F0 m 24 ls []) := by
        intro x1 x3 h H locs ls hP hD hS hl
        unfold vL_view_24 at h
        refine lv_lload_n hx hb dL_view_24 rfl (lv_at hl 1 rfl) ?_
        refine lv_goto (tgt := 40) hx hb dL_view_25 (by decide) ?_
        exact J_40 _ _ h _ _ _ hP hD hS (lv_sub hl [0, 2] rfl)
      intro x1 x3 h H locs ls hP hD hS hl
      have h : vL_view_6b vn vf vs vp vq vd vo tm hc K  (fun z0 z1 => lp (vL_view_6F vn vf vs vp vq vd vo tm hc K ) k_6 (z0, z1)) x1 x3 := h
      unfold vL_view_6b at h
      refine lv_iload_n hx hb dL_view_6 rfl (lv_at hl 2 rfl) ?_
      refine lv_bipush (v := (21 : Int32)) hx hb dL_view_7 (by decide) ?_
      refine lv_icmp_ge (tgt := 47) hx hb dL_view_9 (by decide) (fun c_9 => ?_) (fun c_9 => ?_)
      · have h := h.1 c_9
        refine lv_iconst (v := (0 : Int32)) hx hb dL_view_47 (by decide) ?_
        refine lv_istore_n (lv' := [(3, .int (0 : Int32)), (0, .ref (g 0)), (1, .long x1)]) hx hb dL_view_48 rfl hl (by decide) rfl (fun ls hl => ?_)
        obtain ⟨k0, h⟩ := h
        exact L_49 _ _ _ _ _ _ _ _ _ k0 _ _ h _ _ _ hP hD hS (lv_sub hl [1, 2, 0] rfl)
      · have h := h.2 c_9
        refine lv_iload_n hx hb dL_view_12 rfl (lv_at hl 2 rfl) ?_
        refine lv_bipush (v := (9 : Int32)) hx hb dL_view_13 (by decide) ?_
        refine lv_icmp_eq (tgt := 24) hx hb dL_view_15 (by decide) (fun c_15 => ?_) (fun c_15 => ?_)
        · have h := h.1 c_15
          exact J_24 _ _ h _ _ _ hP hD hS (lv_sub hl [0, 1, 2] rfl)
        · have h := h.2 c_15
          refine lv_iload_n hx hb dL_view_18 rfl (lv_at hl 2 rfl) ?_
          refine lv_bipush (v := (10 : Int32)) hx hb dL_view_19 (by decide) ?_
          refine lv_icmp_ne (tgt := 28) hx hb dL_view_21 (by decide) (fun c_21 => ?_) (fun c_21 => ?_)
          · have h := h.1 c_21
            refine lv_ldc2 hx hb S.2.2.2.1 (S.2.2.2.2 _ q_4_15) dL_view_28 ?_
            refine lv_lload_n hx hb dL_view_31 rfl (lv_at hl 1 rfl) ?_
            refine lv_lmul hx hb dL_view_32 ?_
            refine lv_aload_n hx hb dL_view_33 rfl (lv_at hl 0 rfl) ?_
            refine lv_iload_n hx hb dL_view_34 rfl (lv_at hl 2 rfl) ?_
            refine kc_Vi0 (As := [.int x3]) (rest := [.long ((31 : Int64) * x1)]) S hE (ctX6_total l G cy g a b t vn vf vs vp vq vd vo un uf us up uq ud uo tm tx hc hh ss sv x3 _ h) q_4_16 q_4_17 q_4_18 q_1_2 q_4_19 rfl 0 rfl rfl ydX6_total ⟨⟨rfl, rfl⟩, ⟨Nat.le_of_ble_eq_true rfl, Nat.le_of_ble_eq_true rfl⟩⟩ ⟨Nat.zero_le _, Nat.zero_le _⟩ hP hD hS rfl hl.1 rfl (Nat.le_of_ble_eq_true rfl) dL_view_35 (fun r_35 u_35 H locs h hP hD hS => ?_)
            refine lv_i2l hx hb dL_view_38 rfl ?_
            refine lv_ladd hx hb dL_view_39 ?_
            exact J_40 _ _ h _ _ _ hP hD hS (lv_sub hl [0, 2] rfl)
          · have h := h.2 c_21
            exact J_24 _ _ h _ _ _ hP hD hS (lv_sub hl [0, 1, 2] rfl)
  refine lv_ldc2 hx hb S.2.2.2.1 (S.2.2.2.2 _ q_4_14) dL_view_0 ?_
  refine lv_lstore_n (lv' := [(1, .long (7 : Int64)), (0, .ref (g 0))]) hx hb dL_view_3 rfl hl (by decide) rfl (fun ls hl => ?_)
  refine lv_iconst (v := (0 : Int32)) hx hb dL_view_4 (by decide) ?_
  refine lv_istore_n (lv' := [(3, .int (0 : Int32)), (1, .long (7 : Int64)), (0, .ref (g 0))]) hx hb dL_view_5 rfl hl (by decide) rfl (fun ls hl => ?_)
  obtain ⟨k0, h⟩ := h
  exact L_6 _ _ _ _ _ _ _ _ _ k0 _ _ h _ _ _ hP hD hS (lv_sub hl [2, 1, 0] rfl)
def vL_any_90 (vn : Nat → Int32) (vf : Nat → UInt32) (vs : Nat → Int32) (vp : Nat → Int32) (vq : Nat → Int32) (vd : Nat → Int32) (vo : Nat → Int32) (hc : Nat → Int32) (hh : Nat → Sx) (ss : Nat → Sx) (sv : Nat → Int32) (x1 : Int32) (y1 : Int32) (K : Int32 → ((Nat → Int32) × (Nat → UInt32) × (Nat → Int32) × (Nat → Int32) × (Nat → Int32) × (Nat → Int32) × (Nat → Int32) × (Nat → Int32) × (Nat → Sx)) → Prop)  : Prop :=
  vX6_setBias vn vf vs vp vq vd vo hc hh y1 x1 (fun r_91 u_91 => K r_91 (u_91.1, vf, vs, vp, vq, vd, vo, u_91.2.1, u_91.2.2))
def vL_any (vn : Nat → Int32) (vf : Nat → UInt32) (vs : Nat → Int32) (vp : Nat → Int32) (vq : Nat → Int32) (vd : Nat → Int32) (vo : Nat → Int32) (hc : Nat → Int32) (hh : Nat → Sx) (ss : Nat → Sx) (sv : Nat → Int32) (p1 : Int32) (p2 : Int32) (K : Int32 → ((Nat → Int32) × (Nat → UInt32) × (Nat → Int32) × (Nat → Int32) × (Nat → Int32) × (Nat → Int32) × (Nat → Int32) × (Nat → Int32) × (Nat → Sx)) → Prop) : Prop :=
  ((p2 &&& (7 : Int32)) = (0 : Int32) → vX6_place vn vf vs vp vq vd vo hc hh p1 p2 p1 p2 (fun r_53 u_53 => K r_53 (u_53.1, u_53.2.1, vs, vp, vq, vd, vo, u_53.2.2.1, u_53.2.2.2))) ∧ (¬ (p2 &&& (7 : Int32)) = (0 : Int32) → ((p2 &&& (7 : Int32)) = (1 : Int32) → vX6_set vn vf vs vp vq vd vo hc hh p1 p2 (fun r_60 u_60 => K r_60 (vn, vf, u_60.1, vp, vq, vd, vo, u_60.2.1, u_60.2.2))) ∧ (¬ (p2 &&& (7 : Int32)) = (1 : Int32) → ((p2 &&& (7 : Int32)) = (2 : Int32) → vX6_setPoint vn vf vs vp vq vd vo hc hh p1 p2 (fun r_67 u_67 => K r_67 (u_67.1, vf, vs, u_67.2.1, u_67.2.2.1, vd, vo, u_67.2.2.2.1, u_67.2.2.2.2))) ∧ (¬ (p2 &&& (7 : Int32)) = (2 : Int32) → ((p2 &&& (7 : Int32)) = (3 : Int32) → vX6_addStop vn vf vs vp vq vd vo hc hh p1 (fun r_73 u_73 => K r_73 (u_73.1, vf, vs, vp, vq, u_73.2.1, u_73.2.2.1, u_73.2.2.2.1, u_73.2.2.2.2))) ∧ (¬ (p2 &&& (7 : Int32)) = (3 : Int32) → ((p2 &&& (7 : Int32)) = (4 : Int32) → (¬ (p2 &&& (8 : Int32)) = (0 : Int32) → vL_any_90 vn vf vs vp vq vd vo hc hh ss sv p1 (0 : Int32) K ) ∧ ((p2 &&& (8 : Int32)) = (0 : Int32) → vL_any_90 vn vf vs vp vq vd vo hc hh ss sv p1 (1 : Int32) K )) ∧ (¬ (p2 &&& (7 : Int32)) = (4 : Int32) → ((p2 &&& (7 : Int32)) = (5 : Int32) → vX6_open vn vf vs vp vq vd vo hc hh p1 (fun r_97 u_97 => K r_97 (u_97.1, u_97.2.1, vs, vp, vq, vd, u_97.2.2.1, u_97.2.2.2.1, u_97.2.2.2.2))) ∧ (¬ (p2 &&& (7 : Int32)) = (5 : Int32) → ((p2 &&& (7 : Int32)) = (6 : Int32) → vX6_pass vn vf vs vp vq vd vo hc hh p1 (fun r_103 u_103 => K r_103 (u_103.1, u_103.2.1, vs, vp, vq, vd, u_103.2.2.1, u_103.2.2.2.1, u_103.2.2.2.2))) ∧ (¬ (p2 &&& (7 : Int32)) = (6 : Int32) → vX6_restore vn vf vs vp vq vd vo hc hh ss sv p1 (fun r_109 u_109 => K r_109 (u_109.1, u_109.2.1, u_109.2.2.1, u_109.2.2.2.1, u_109.2.2.2.2.1, u_109.2.2.2.2.2.1, u_109.2.2.2.2.2.2.1, u_109.2.2.2.2.2.2.2.1, u_109.2.2.2.2.2.2.2.2)))))))))
set_option maxRecDepth 100000 in
set_option maxHeartbeats 4000000 in
theorem ctL_any (l : Launch) (G : va_G) (cy : Nat → ClassId) (g : Nat → Nat) (a : Nat → Nat) (b : Nat → Nat) (t : Nat → Nat) (vn : Nat → Int32) (vf : Nat → UInt32) (vs : Nat → Int32) (vp : Nat → Int32) (vq : Nat → Int32) (vd : Nat → Int32) (vo : Nat → Int32) (un : Nat → Int32) (uf : Nat → UInt32) (us : Nat → Int32) (up : Nat → Int32) (uq : Nat → Int32) (ud : Nat → Int32) (uo : Nat → Int32) (tm : Nat → Int32) (tx : Nat → Int32) (hc : Nat → Int32) (hh : Nat → Sx) (ss : Nat → Sx) (sv : Nat → Int32) (p1 : Int32) (p2 : Int32) (K : Int32 → ((Nat → Int32) × (Nat → UInt32) × (Nat → Int32) × (Nat → Int32) × (Nat → Int32) × (Nat → Int32) × (Nat → Int32) × (Nat → Int32) × (Nat → Sx)) → Prop) (h : vL_any vn vf vs vp vq vd vo hc hh ss sv p1 p2 K) : Met l yL_any (ws_ yL_any cL_any 3 (some .int)) ({ frames := 7, cells := 0, slots := 0, locals := 168 } : Room) (CX G cy xST [.ref (g 0), .int p1, .int p2] (mo_W cy g a b t vn vf vs vp vq vd vo un uf us up uq ud uo tm tx hc hh ss sv)) (RI G K (fun u => mo_W cy g a b t u.1 u.2.1 u.2.2.1 u.2.2.2.1 u.2.2.2.2.1 u.2.2.2.2.2.1 u.2.2.2.2.2.2.1 un uf us up uq ud uo tm tx u.2.2.2.2.2.2.2.1 u.2.2.2.2.2.2.2.2 ss sv) (A1 (mo_W cy g a b t vn vf vs vp vq vd vo un uf us up uq ud uo tm tx hc hh ss sv))) 0 0 (A1 (mo_W cy g a b t vn vf vs vp vq vd vo un uf us up uq ud uo tm tx hc hh ss sv)) := by
  refine hd_goX (Qf := fun A => (RI G K (fun u => mo_W cy g a b t u.1 u.2.1 u.2.2.1 u.2.2.2.1 u.2.2.2.2.1 u.2.2.2.2.2.1 u.2.2.2.2.2.2.1 un uf us up uq ud uo tm tx u.2.2.2.2.2.2.2.1 u.2.2.2.2.2.2.2.2 ss sv) A)) (by decide +kernel) (Nat.le_of_ble_eq_true rfl) ?_
  intro p e s m below meth c ls A hx hb hr hlocks S hE hEx hP hD hS hl
  have hl : lv_has ls 3 [(0, .ref (g 0)), (1, .int p1), (2, .int p2)] := hl
  unfold vL_any at h
  have J_90 : ∀ (vn : Nat → Int32) (vf : Nat → UInt32) (vs : Nat → Int32) (vp : Nat → Int32) (vq : Nat → Int32) (vd : Nat → Int32) (vo : Nat → Int32) (hc : Nat → Int32) (hh : Nat → Sx) (ss : Nat → Sx) (sv : Nat → Int32) (x1 : Int32) (y1 : Int32), vL_any_90 vn vf vs vp vq vd vo hc hh ss sv x1 y1 K  → ∀ (H : Heap) (locs : List Loc) (ls : Array Slot), va_P G vwCl (mo_W cy g a b t vn vf vs vp vq vd vo un uf us up uq ud uo tm tx hc hh ss sv) H → va_D A (mo_W cy g a b t vn vf vs vp vq vd vo un uf us up uq ud uo tm tx hc hh ss sv) → va_S A s.heap H locs → lv_has ls 3 [(1, .int x1)] → W p l e (headSpec (ws_ yL_any cL_any 3 (some .int)) ({ frames := 7, cells := 0, slots := 0, locals := 168 } : Room)).room s m ([.ref (g 0), .int p1, .int p2] : List Value).toArray below meth c H locs 0 0 (MQ below (RI G K (fun u => mo_W cy g a b t u.1 u.2.1 u.2.2.1 u.2.2.2.1 u.2.2.2.2.1 u.2.2.2.2.2.1 u.2.2.2.2.2.2.1 un uf us up uq ud uo tm tx u.2.2.2.2.2.2.2.1 u.2.2.2.2.2.2.2.2 ss sv) A) ([.ref (g 0), .int p1, .int p2] : List Value).toArray s 0 0 A) (F0 m 90 ls [.int y1, .ref (g 0)]) := by
    intro vn vf vs vp vq vd vo hc hh ss sv x1 y1 h H locs ls hP hD hS hl
    unfold vL_any_90 at h
    refine lv_iload_n hx hb dL_any_90 rfl (lv_at hl 0 rfl) ?_
    refine kc_Vi0 (As := [.int y1, .int x1]) (rest := []) S hE (ctX6_setBias l G cy g a b t vn vf vs vp vq vd vo un uf us up uq ud uo tm tx hc hh ss sv y1 x1 _ h) q_13_14 q_13_15 q_13_16 q_1_2 q_13_17 rfl 0 rfl rfl ydX6_setBias ⟨⟨rfl, rfl⟩, ⟨Nat.le_of_ble_eq_true rfl, Nat.le_of_ble_eq_true rfl⟩⟩ ⟨Nat.zero_le _, Nat.zero_le _⟩ hP hD hS rfl hl.1 rfl (Nat.le_of_ble_eq_true rfl) dL_any_91 (fun r_91 u_91 H locs h hP hD hS => ?_)
    exact W.iret (v := r_91) hx hb hr (fun t ht hW => ⟨⟨r_91, (u_91.1, vf, vs, vp, vq, vd, vo, u_91.2.1, u_91.2.2), rfl, h, ⟨hp_at ht hP, hD⟩⟩, hS.F ht⟩) hS.2.2 dL_any_94
  refine lv_iload_n hx hb dL_any_0 rfl (lv_at hl 2 rfl) ?_
  refine lv_bipush (v := (7 : Int32)) hx hb dL_any_1 (by decide) ?_
  refine lv_iand hx hb dL_any_3 ?_
  rcases Classical.em ((p2 &&& (7 : Int32)) = (0 : Int32)) with c_4_0 | c_4_0
  · have h := h.1 c_4_0
    refine lv_tableIn (tgt := 48) hx hb dL_any_4 (by rw [c_4_0]; decide) (by rw [c_4_0]; decide) (by rw [c_4_0]; try rfl) (by decide) ?_
    refine lv_aload_n hx hb dL_any_48 rfl (lv_at hl 0 rfl) ?_
    refine lv_iload_n hx hb dL_any_49 rfl (lv_at hl 1 rfl) ?_
    refine lv_iload_n hx hb dL_any_50 rfl (lv_at hl 2 rfl) ?_
    refine lv_iload_n hx hb dL_any_51 rfl (lv_at hl 1 rfl) ?_
    refine lv_iload_n hx hb dL_any_52 rfl (lv_at hl 2 rfl) ?_
    refine kc_Vi0 (As := [.int p1, .int p2, .int p1, .int p2]) (rest := []) S hE (ctX6_place l G cy g a b t vn vf vs vp vq vd vo un uf us up uq ud uo tm tx hc hh ss sv p1 p2 p1 p2 _ h) q_10_1 q_10_2 q_10_3 q_1_2 q_10_4 rfl 0 rfl rfl ydX6_place ⟨⟨rfl, rfl⟩, ⟨Nat.le_of_ble_eq_true rfl, Nat.le_of_ble_eq_true rfl⟩⟩ ⟨Nat.zero_le _, Nat.zero_le _⟩ hP hD hS rfl hl.1 rfl (Nat.le_of_ble_eq_true rfl) dL_any_53 (fun r_53 u_53 H locs h hP hD hS => ?_)
    exact W.iret (v := r_53) hx hb hr (fun t ht hW => ⟨⟨r_53, (u_53.1, u_53.2.1, vs, vp, vq, vd, vo, u_53.2.2.1, u_53.2.2.2), rfl, h, ⟨hp_at ht hP, hD⟩⟩, hS.F ht⟩) hS.2.2 dL_any_56
  · have h := h.2 c_4_0
    rcases Classical.em ((p2 &&& (7 : Int32)) = (1 : Int32)) with c_4_1 | c_4_1
    · have h := h.1 c_4_1
      refine lv_tableIn (tgt := 57) hx hb dL_any_4 (by rw [c_4_1]; decide) (by rw [c_4_1]; decide) (by rw [c_4_1]; try rfl) (by decide) ?_
      refine lv_aload_n hx hb dL_any_57 rfl (lv_at hl 0 rfl) ?_
      refine lv_iload_n hx hb dL_any_58 rfl (lv_at hl 1 rfl) ?_
      refine lv_iload_n hx hb dL_any_59 rfl (lv_at hl 2 rfl) ?_
      refine kc_Vi0X (As := [.int p1, .int p2]) (rest := []) S hE xST_ok (ctX6_set l G cy g a b t vn vf vs vp vq vd vo un uf us up uq ud uo tm tx hc hh ss sv p1 p2 _ h) q_12_8 q_12_9 q_12_10 q_1_2 q_12_11 rfl 0 rfl rfl ydX6_set ⟨⟨rfl, rfl⟩, ⟨Nat.le_of_ble_eq_true rfl, Nat.le_of_ble_eq_true rfl⟩⟩ ⟨Nat.zero_le _, Nat.zero_le _⟩ hP hD hS (xST_at hEx hS (fx_free hD)) rfl hl.1 rfl (Nat.le_of_ble_eq_true rfl) dL_any_60 (fun r_60 u_60 H locs h hP hD hS => ?_)
      exact W.iret (v := r_60) hx hb hr (fun t ht hW => ⟨⟨r_60, (vn, vf, u_60.1, vp, vq, vd, vo, u_60.2.1, u_60.2.2), rfl, h, ⟨hp_at ht hP, hD⟩⟩, hS.F ht⟩) hS.2.2 dL_any_63
    · have h := h.2 c_4_1
      rcases Classical.em ((p2 &&& (7 : Int32)) = (2 : Int32)) with c_4_2 | c_4_2
      · have h := h.1 c_4_2
        refine lv_tableIn (tgt := 64) hx hb dL_any_4 (by rw [c_4_2]; decide) (by rw [c_4_2]; decide) (by rw [c_4_2]; try rfl) (by decide) ?_
        refine lv_aload_n hx hb dL_any_64 rfl (lv_at hl 0 rfl) ?_
        refine lv_iload_n hx hb dL_any_65 rfl (lv_at hl 1 rfl) ?_
        refine lv_iload_n hx hb dL_any_66 rfl (lv_at hl 2 rfl) ?_
        refine kc_Vi0 (As := [.int p1, .int p2]) (rest := []) S hE (ctX6_setPoint l G cy g a b t vn vf vs vp vq vd vo un uf us up uq ud uo tm tx hc hh ss sv p1 p2 _ h) q_12_14 q_12_15 q_12_16 q_1_2 q_12_17 rfl 0 rfl rfl ydX6_setPoint ⟨⟨rfl, rfl⟩, ⟨Nat.le_of_ble_eq_true rfl, Nat.le_of_ble_eq_true rfl⟩⟩ ⟨Nat.zero_le _, Nat.zero_le _⟩ hP hD hS rfl hl.1 rfl (Nat.le_of_ble_eq_true rfl) dL_any_67 (fun r_67 u_67 H locs h hP hD hS => ?_)
        exact W.iret (v := r_67) hx hb hr (fun t ht hW => ⟨⟨r_67, (u_67.1, vf, vs, u_67.2.1, u_67.2.2.1, vd, vo, u_67.2.2.2.1, u_67.2.2.2.2), rfl, h, ⟨hp_at ht hP, hD⟩⟩, hS.F ht⟩) hS.2.2 dL_any_70
      · have h := h.2 c_4_2
        rcases Classical.em ((p2 &&& (7 : Int32)) = (3 : Int32)) with c_4_3 | c_4_3
        · have h := h.1 c_4_3
          refine lv_tableIn (tgt := 71) hx hb dL_any_4 (by rw [c_4_3]; decide) (by rw [c_4_3]; decide) (by rw [c_4_3]; try rfl) (by decide) ?_
          refine lv_aload_n hx hb dL_any_71 rfl (lv_at hl 0 rfl) ?_
          refine lv_iload_n hx hb dL_any_72 rfl (lv_at hl 1 rfl) ?_
          refine kc_Vi0 (As := [.int p1]) (rest := []) S hE (ctX6_addStop l G cy g a b t vn vf vs vp vq vd vo un uf us up uq ud uo tm tx hc hh ss sv p1 _ h) q_13_6 q_13_7 q_13_8 q_1_2 q_13_9 rfl 0 rfl rfl ydX6_addStop ⟨⟨rfl, rfl⟩, ⟨Nat.le_of_ble_eq_true rfl, Nat.le_of_ble_eq_true rfl⟩⟩ ⟨Nat.zero_le _, Nat.zero_le _⟩ hP hD hS rfl hl.1 rfl (Nat.le_of_ble_eq_true rfl) dL_any_73 (fun r_73 u_73 H locs h hP hD hS => ?_)
          exact W.iret (v := r_73) hx hb hr (fun t ht hW => ⟨⟨r_73, (u_73.1, vf, vs, vp, vq, u_73.2.1, u_73.2.2.1, u_73.2.2.2.1, u_73.2.2.2.2), rfl, h, ⟨hp_at ht hP, hD⟩⟩, hS.F ht⟩) hS.2.2 dL_any_76
        · have h := h.2 c_4_3
          rcases Classical.em ((p2 &&& (7 : Int32)) = (4 : Int32)) with c_4_4 | c_4_4
          · have h := h.1 c_4_4
            refine lv_tableIn (tgt := 77) hx hb dL_any_4 (by rw [c_4_4]; decide) (by rw [c_4_4]; decide) (by rw [c_4_4]; try rfl) (by decide) ?_
            refine lv_aload_n hx hb dL_any_77 rfl (lv_at hl 0 rfl) ?_
            refine lv_iload_n hx hb dL_any_78 rfl (lv_at hl 2 rfl) ?_
            refine lv_bipush (v := (8 : Int32)) hx hb dL_any_79 (by decide) ?_
            refine lv_iand hx hb dL_any_81 ?_
            refine lv_if_ne (tgt := 89) hx hb dL_any_82 (by decide) (fun c_82 => ?_) (fun c_82 => ?_)
            · have h := h.1 c_82
              refine lv_iconst (v := (0 : Int32)) hx hb dL_any_89 (by decide) ?_
              exact J_90 _ _ _ _ _ _ _ _ _ _ _ _ _ h _ _ _ hP hD hS (lv_sub hl [1] rfl)
            · have h := h.2 c_82
              refine lv_iconst (v := (1 : Int32)) hx hb dL_any_85 (by decide) ?_
              refine lv_goto (tgt := 90) hx hb dL_any_86 (by decide) ?_
              exact J_90 _ _ _ _ _ _ _ _ _ _ _ _ _ h _ _ _ hP hD hS (lv_sub hl [1] rfl)
          · have h := h.2 c_4_4
            rcases Classical.em ((p2 &&& (7 : Int32)) = (5 : Int32)) with c_4_5 | c_4_5
            · have h := h.1 c_4_5
              refine lv_tableIn (tgt := 95) hx hb dL_any_4 (by rw [c_4_5]; decide) (by rw [c_4_5]; decide) (by rw [c_4_5]; try rfl) (by decide) ?_
              refine lv_aload_n hx hb dL_any_95 rfl (lv_at hl 0 rfl) ?_
              refine lv_iload_n hx hb dL_any_96 rfl (lv_at hl 1 rfl) ?_
              refine kc_Vi0 (As := [.int p1]) (rest := []) S hE (ctX6_open l G cy g a b t vn vf vs vp vq vd vo un uf us up uq ud uo tm tx hc hh ss sv p1 _ h) q_17_21 q_17_22 q_17_23 q_1_2 q_18_0 rfl 0 rfl rfl ydX6_open ⟨⟨rfl, rfl⟩, ⟨Nat.le_of_ble_eq_true rfl, Nat.le_of_ble_eq_true rfl⟩⟩ ⟨Nat.zero_le _, Nat.zero_le _⟩ hP hD hS rfl hl.1 rfl (Nat.le_of_ble_eq_true rfl) dL_any_97 (fun r_97 u_97 H locs h hP hD hS => ?_)
              exact W.iret (v := r_97) hx hb hr (fun t ht hW => ⟨⟨r_97, (u_97.1, u_97.2.1, vs, vp, vq, vd, u_97.2.2.1, u_97.2.2.2.1, u_97.2.2.2.2), rfl, h, ⟨hp_at ht hP, hD⟩⟩, hS.F ht⟩) hS.2.2 dL_any_100
            · have h := h.2 c_4_5
              rcases Classical.em ((p2 &&& (7 : Int32)) = (6 : Int32)) with c_4_6 | c_4_6
              · have h := h.1 c_4_6
                refine lv_tableIn (tgt := 101) hx hb dL_any_4 (by rw [c_4_6]; decide) (by rw [c_4_6]; decide) (by rw [c_4_6]; try rfl) (by decide) ?_
                refine lv_aload_n hx hb dL_any_101 rfl (lv_at hl 0 rfl) ?_
                refine lv_iload_n hx hb dL_any_102 rfl (lv_at hl 1 rfl) ?_
                refine kc_Vi0 (As := [.int p1]) (rest := []) S hE (ctX6_pass l G cy g a b t vn vf vs vp vq vd vo un uf us up uq ud uo tm tx hc hh ss sv p1 _ h) q_18_1 q_18_2 q_18_3 q_1_2 q_18_4 rfl 0 rfl rfl ydX6_pass ⟨⟨rfl, rfl⟩, ⟨Nat.le_of_ble_eq_true rfl, Nat.le_of_ble_eq_true rfl⟩⟩ ⟨Nat.zero_le _, Nat.zero_le _⟩ hP hD hS rfl hl.1 rfl (Nat.le_of_ble_eq_true rfl) dL_any_103 (fun r_103 u_103 H locs h hP hD hS => ?_)
                exact W.iret (v := r_103) hx hb hr (fun t ht hW => ⟨⟨r_103, (u_103.1, u_103.2.1, vs, vp, vq, vd, u_103.2.2.1, u_103.2.2.2.1, u_103.2.2.2.2), rfl, h, ⟨hp_at ht hP, hD⟩⟩, hS.F ht⟩) hS.2.2 dL_any_106
              · have h := h.2 c_4_6
                have n_0 := lv_neT c_4_0 (a := 0) (by decide)
                have n_1 := lv_neT c_4_1 (a := 1) (by decide)
                have n_2 := lv_neT c_4_2 (a := 2) (by decide)
                have n_3 := lv_neT c_4_3 (a := 3) (by decide)
                have n_4 := lv_neT c_4_4 (a := 4) (by decide)
                have n_5 := lv_neT c_4_5 (a := 5) (by decide)
                have n_6 := lv_neT c_4_6 (a := 6) (by decide)
                refine lv_tableOut (tgt := 107) hx hb dL_any_4 (by omega) (by decide) ?_
                refine lv_aload_n hx hb dL_any_107 rfl (lv_at hl 0 rfl) ?_
                refine lv_iload_n hx hb dL_any_108 rfl (lv_at hl 1 rfl) ?_
                refine kc_Vi0 (As := [.int p1]) (rest := []) S hE (ctX6_restore l G cy g a b t vn vf vs vp vq vd vo un uf us up uq ud uo tm tx hc hh ss sv p1 _ h) q_18_8 q_18_9 q_18_10 q_1_2 q_18_11 rfl 0 rfl rfl ydX6_restore ⟨⟨rfl, rfl⟩, ⟨Nat.le_of_ble_eq_true rfl, Nat.le_of_ble_eq_true rfl⟩⟩ ⟨Nat.zero_le _, Nat.zero_le _⟩ hP hD hS rfl hl.1 rfl (Nat.le_of_ble_eq_true rfl) dL_any_109 (fun r_109 u_109 H locs h hP hD hS => ?_)
                exact W.iret (v := r_109) hx hb hr (fun t ht hW => ⟨⟨r_109, (u_109.1, u_109.2.1, u_109.2.2.1, u_109.2.2.2.1, u_109.2.2.2.2.1, u_109.2.2.2.2.2.1, u_109.2.2.2.2.2.2.1, u_109.2.2.2.2.2.2.2.1, u_109.2.2.2.2.2.2.2.2), rfl, h, ⟨hp_at ht hP, hD⟩⟩, hS.F ht⟩) hS.2.2 dL_any_112
def vL_turn_94 (vn : Nat → Int32) (vf : Nat → UInt32) (vs : Nat → Int32) (vp : Nat → Int32) (vq : Nat → Int32) (vd : Nat → Int32) (vo : Nat → Int32) (hc : Nat → Int32) (hh : Nat → Sx) (ss : Nat → Sx) (sv : Nat → Int32) (x2 : Int32) (x3 : Int32) (y1 : Int32) (y2 : Int32) (y3 : Int32) (K : Int32 → ((Nat → Int32) × (Nat → UInt32) × (Nat → Int32) × (Nat → Int32) × (Nat → Int32) × (Nat → Int32) × (Nat → Int32) × (Nat → Int32) × (Nat → Sx)) → Prop)  : Prop :=
  vL_up y2 y3 (fun r_94 u_94 => vL_up x3 (600 : Int32) (fun r_102 u_102 => vL_up (x2 >>> ((8 : Int32) &&& 31)) (900 : Int32) (fun r_116 u_116 => vL_up (x3 >>> ((9 : Int32) &&& 31)) (60 : Int32) (fun r_129 u_129 => vX6_place vn vf vs vp vq vd vo hc hh (y1 + r_94) (r_102 - (300 : Int32)) (r_116 - (600 : Int32)) (r_129 - (30 : Int32)) (fun r_135 u_135 => K r_135 (u_135.1, u_135.2.1, vs, vp, vq, vd, vo, u_135.2.2.1, u_135.2.2.2))))))
def vL_turn_236 (vn : Nat → Int32) (vf : Nat → UInt32) (vs : Nat → Int32) (vp : Nat → Int32) (vq : Nat → Int32) (vd : Nat → Int32) (vo : Nat → Int32) (hc : Nat → Int32) (hh : Nat → Sx) (ss : Nat → Sx) (sv : Nat → Int32) (y1 : Int32) (y2 : Int32) (y3 : Int32) (K : Int32 → ((Nat → Int32) × (Nat → UInt32) × (Nat → Int32) × (Nat → Int32) × (Nat → Int32) × (Nat → Int32) × (Nat → Int32) × (Nat → Int32) × (Nat → Sx)) → Prop)  : Prop :=
  vX6_setBias vn vf vs vp vq vd vo hc hh y1 (y2 - y3) (fun r_237 u_237 => K r_237 (u_237.1, vf, vs, vp, vq, vd, vo, u_237.2.1, u_237.2.2))
def vL_turn_219 (vn : Nat → Int32) (vf : Nat → UInt32) (vs : Nat → Int32) (vp : Nat → Int32) (vq : Nat → Int32) (vd : Nat → Int32) (vo : Nat → Int32) (hc : Nat → Int32) (hh : Nat → Sx) (ss : Nat → Sx) (sv : Nat → Int32) (x2 : Int32) (y1 : Int32) (y2 : Int32) (y3 : Int32) (K : Int32 → ((Nat → Int32) × (Nat → UInt32) × (Nat → Int32) × (Nat → Int32) × (Nat → Int32) × (Nat → Int32) × (Nat → Int32) × (Nat → Int32) × (Nat → Sx)) → Prop)  : Prop :=
  vL_up y2 y3 (fun r_219 u_219 => (¬ (x2 &&& (2 : Int32)) = (0 : Int32) → vL_turn_236 vn vf vs vp vq vd vo hc hh ss sv y1 r_219 (500 : Int32) K ) ∧ ((x2 &&& (2 : Int32)) = (0 : Int32) → vL_turn_236 vn vf vs vp vq vd vo hc hh ss sv y1 r_219 (30 : Int32) K ))
def vL_turn_204 (vn : Nat → Int32) (vf : Nat → UInt32) (vs : Nat → Int32) (vp : Nat → Int32) (vq : Nat → Int32) (vd : Nat → Int32) (vo : Nat → Int32) (hc : Nat → Int32) (hh : Nat → Sx) (ss : Nat → Sx) (sv : Nat → Int32) (x2 : Int32) (x3 : Int32) (y1 : Int32) (K : Int32 → ((Nat → Int32) × (Nat → UInt32) × (Nat → Int32) × (Nat → Int32) × (Nat → Int32) × (Nat → Int32) × (Nat → Int32) × (Nat → Int32) × (Nat → Sx)) → Prop)  : Prop :=
  (¬ (x2 &&& (2 : Int32)) = (0 : Int32) → vL_turn_219 vn vf vs vp vq vd vo hc hh ss sv x2 y1 x3 (1001 : Int32) K ) ∧ ((x2 &&& (2 : Int32)) = (0 : Int32) → vL_turn_219 vn vf vs vp vq vd vo hc hh ss sv x2 y1 x3 (60 : Int32) K )
def vL_turn_241 (vn : Nat → Int32) (vf : Nat → UInt32) (vs : Nat → Int32) (vp : Nat → Int32) (vq : Nat → Int32) (vd : Nat → Int32) (vo : Nat → Int32) (hc : Nat → Int32) (hh : Nat → Sx) (ss : Nat → Sx) (sv : Nat → Int32) (K : Int32 → ((Nat → Int32) × (Nat → UInt32) × (Nat → Int32) × (Nat → Int32) × (Nat → Int32) × (Nat → Int32) × (Nat → Int32) × (Nat → Int32) × (Nat → Sx)) → Prop)  : Prop :=
  vX6_approach vn vf vs vp vq vd vo hc hh (fun r_242 u_242 => K r_242 (u_242.1, u_242.2.1, vs, vp, vq, vd, u_242.2.2.1, u_242.2.2.2.1, u_242.2.2.2.2))
def vL_turn_291 (vn : Nat → Int32) (vf : Nat → UInt32) (vs : Nat → Int32) (vp : Nat → Int32) (vq : Nat → Int32) (vd : Nat → Int32) (vo : Nat → Int32) (hc : Nat → Int32) (hh : Nat → Sx) (ss : Nat → Sx) (sv : Nat → Int32) (y1 : Int32) (y2 : Int32) (y3 : Int32) (K : Int32 → ((Nat → Int32) × (Nat → UInt32) × (Nat → Int32) × (Nat → Int32) × (Nat → Int32) × (Nat → Int32) × (Nat → Int32) × (Nat → Int32) × (Nat → Sx)) → Prop)  : Prop :=
  vL_up y2 y3 (fun r_291 u_291 => vX6_pass vn vf vs vp vq vd vo hc hh (y1 + r_291) (fun r_295 u_295 => K r_295 (u_295.1, u_295.2.1, vs, vp, vq, vd, u_295.2.2.1, u_295.2.2.2.1, u_295.2.2.2.2)))
def vL_turn_274 (vn : Nat → Int32) (vf : Nat → UInt32) (vs : Nat → Int32) (vp : Nat → Int32) (vq : Nat → Int32) (vd : Nat → Int32) (vo : Nat → Int32) (hc : Nat → Int32) (hh : Nat → Sx) (ss : Nat → Sx) (sv : Nat → Int32) (x2 : Int32) (x3 : Int32) (K : Int32 → ((Nat → Int32) × (Nat → UInt32) × (Nat → Int32) × (Nat → Int32) × (Nat → Int32) × (Nat → Int32) × (Nat → Int32) × (Nat → Int32) × (Nat → Sx)) → Prop)  : Prop :=
  (¬ (x2 &&& (3 : Int32)) = (0 : Int32) → vL_turn_291 vn vf vs vp vq vd vo hc hh ss sv (1 : Int32) x3 (12 : Int32) K ) ∧ ((x2 &&& (3 : Int32)) = (0 : Int32) → vL_turn_291 vn vf vs vp vq vd vo hc hh ss sv (1 : Int32) x3 (200 : Int32) K )
def vL_turn (vn : Nat → Int32) (vf : Nat → UInt32) (vs : Nat → Int32) (vp : Nat → Int32) (vq : Nat → Int32) (vd : Nat → Int32) (vo : Nat → Int32) (hc : Nat → Int32) (hh : Nat → Sx) (ss : Nat → Sx) (sv : Nat → Int32) (p1 : Int32) (p2 : Int32) (p3 : Int32) (K : Int32 → ((Nat → Int32) × (Nat → UInt32) × (Nat → Int32) × (Nat → Int32) × (Nat → Int32) × (Nat → Int32) × (Nat → Int32) × (Nat → Int32) × (Nat → Sx)) → Prop) : Prop :=
  (p1 = (0 : Int32) → (¬ (p2 &&& (1 : Int32)) = (0 : Int32) → vL_turn_94 vn vf vs vp vq vd vo hc hh ss sv p2 p3 (1 : Int32) p2 (600 : Int32) K ) ∧ ((p2 &&& (1 : Int32)) = (0 : Int32) → vL_turn_94 vn vf vs vp vq vd vo hc hh ss sv p2 p3 (1 : Int32) p2 (9000 : Int32) K )) ∧ (¬ p1 = (0 : Int32) → (p1 = (1 : Int32) → vL_up p2 (8 : Int32) (fun r_143 u_143 => vL_up p3 (501 : Int32) (fun r_150 u_150 => vX6_set vn vf vs vp vq vd vo hc hh r_143 r_150 (fun r_153 u_153 => K r_153 (vn, vf, u_153.1, vp, vq, vd, vo, u_153.2.1, u_153.2.2))))) ∧ (¬ p1 = (1 : Int32) → (p1 = (2 : Int32) → vL_up p2 (8000 : Int32) (fun r_162 u_162 => vL_up p3 (900 : Int32) (fun r_170 u_170 => vX6_setPoint vn vf vs vp vq vd vo hc hh r_162 ((1 : Int32) + r_170) (fun r_174 u_174 => K r_174 (u_174.1, vf, vs, u_174.2.1, u_174.2.2.1, vd, vo, u_174.2.2.2.1, u_174.2.2.2.2))))) ∧ (¬ p1 = (2 : Int32) → (p1 = (3 : Int32) → vL_up p2 (9000 : Int32) (fun r_184 u_184 => vX6_addStop vn vf vs vp vq vd vo hc hh ((1 : Int32) + r_184) (fun r_188 u_188 => K r_188 (u_188.1, vf, vs, vp, vq, u_188.2.1, u_188.2.2.1, u_188.2.2.2.1, u_188.2.2.2.2)))) ∧ (¬ p1 = (3 : Int32) → (p1 = (4 : Int32) → (¬ (p2 &&& (1 : Int32)) = (0 : Int32) → vL_turn_204 vn vf vs vp vq vd vo hc hh ss sv p2 p3 (0 : Int32) K ) ∧ ((p2 &&& (1 : Int32)) = (0 : Int32) → vL_turn_204 vn vf vs vp vq vd vo hc hh ss sv p2 p3 (1 : Int32) K )) ∧ (¬ p1 = (4 : Int32) → (p1 = (5 : Int32) → vL_turn_241 vn vf vs vp vq vd vo hc hh ss sv K ) ∧ (¬ p1 = (5 : Int32) → (p1 = (6 : Int32) → vL_turn_241 vn vf vs vp vq vd vo hc hh ss sv K ) ∧ (¬ p1 = (6 : Int32) → (p1 = (7 : Int32) → vL_turn_241 vn vf vs vp vq vd vo hc hh ss sv K ) ∧ (¬ p1 = (7 : Int32) → (p1 = (8 : Int32) → (¬ (p2 &&& (3 : Int32)) = (0 : Int32) → vX6_retreat vn vf vs vp vq vd vo hc hh (fun r_260 u_260 => K r_260 (u_260.1, u_260.2.1, vs, vp, vq, vd, u_260.2.2.1, u_260.2.2.2.1, u_260.2.2.2.2))) ∧ ((p2 &&& (3 : Int32)) = (0 : Int32) → vX6_release vn vf vs vp vq vd vo hc hh (fun r_253 u_253 => K r_253 (u_253.1, u_253.2.1, vs, vp, vq, vd, u_253.2.2.1, u_253.2.2.2.1, u_253.2.2.2.2)))) ∧ (¬ p1 = (8 : Int32) → (p1 = (9 : Int32) → vL_up p2 (4 : Int32) (fun r_267 u_267 => vX6_open vn vf vs vp vq vd vo hc hh r_267 (fun r_270 u_270 => K r_270 (u_270.1, u_270.2.1, vs, vp, vq, vd, u_270.2.2.1, u_270.2.2.2.1, u_270.2.2.2.2)))) ∧ (¬ p1 = (9 : Int32) → (p1 = (10 : Int32) → vL_turn_274 vn vf vs vp vq vd vo hc hh ss sv p2 p3 K ) ∧ (¬ p1 = (10 : Int32) → (p1 = (11 : Int32) → vL_turn_274 vn vf vs vp vq vd vo hc hh ss sv p2 p3 K ) ∧ (¬ p1 = (11 : Int32) → (p1 = (12 : Int32) → vL_turn_274 vn vf vs vp vq vd vo hc hh ss sv p2 p3 K ) ∧ (¬ p1 = (12 : Int32) → (p1 = (13 : Int32) → vL_turn_274 vn vf vs vp vq vd vo hc hh ss sv p2 p3 K ) ∧ (¬ p1 = (13 : Int32) → (p1 = (14 : Int32) → vL_up p2 (2 : Int32) (fun r_302 u_302 => vX6_open vn vf vs vp vq vd vo hc hh r_302 (fun r_305 u_305 => K r_305 (u_305.1, u_305.2.1, vs, vp, vq, vd, u_305.2.2.1, u_305.2.2.2.1, u_305.2.2.2.2)))) ∧ (¬ p1 = (14 : Int32) → vL_any vn vf vs vp vq vd vo hc hh ss sv p2 p3 (fun r_312 u_312 => K r_312 (u_312.1, u_312.2.1, u_312.2.2.1, u_312.2.2.2.1, u_312.2.2.2.2.1, u_312.2.2.2.2.2.1, u_312.2.2.2.2.2.2.1, u_312.2.2.2.2.2.2.2.1, u_312.2.2.2.2.2.2.2.2)))))))))))))))))
set_option maxRecDepth 100000 in
set_option maxHeartbeats 4000000 in
theorem ctL_turn (l : Launch) (G : va_G) (cy : Nat → ClassId) (g : Nat → Nat) (a : Nat → Nat) (b : Nat → Nat) (t : Nat → Nat) (vn : Nat → Int32) (vf : Nat → UInt32) (vs : Nat → Int32) (vp : Nat → Int32) (vq : Nat → Int32) (vd : Nat → Int32) (vo : Nat → Int32) (un : Nat → Int32) (uf : Nat → UInt32) (us : Nat → Int32) (up : Nat → Int32) (uq : Nat → Int32) (ud : Nat → Int32) (uo : Nat → Int32) (tm : Nat → Int32) (tx : Nat → Int32) (hc : Nat → Int32) (hh : Nat → Sx) (ss : Nat → Sx) (sv : Nat → Int32) (p1 : Int32) (p2 : Int32) (p3 : Int32) (K : Int32 → ((Nat → Int32) × (Nat → UInt32) × (Nat → Int32) × (Nat → Int32) × (Nat → Int32) × (Nat → Int32) × (Nat → Int32) × (Nat → Int32) × (Nat → Sx)) → Prop) (h : vL_turn vn vf vs vp vq vd vo hc hh ss sv p1 p2 p3 K) : Met l yL_turn (ws_ yL_turn cL_turn 4 (some .int)) ({ frames := 8, cells := 0, slots := 0, locals := 190 } : Room) (CX G cy xST [.ref (g 0), .int p1, .int p2, .int p3] (mo_W cy g a b t vn vf vs vp vq vd vo un uf us up uq ud uo tm tx hc hh ss sv)) (RI G K (fun u => mo_W cy g a b t u.1 u.2.1 u.2.2.1 u.2.2.2.1 u.2.2.2.2.1 u.2.2.2.2.2.1 u.2.2.2.2.2.2.1 un uf us up uq ud uo tm tx u.2.2.2.2.2.2.2.1 u.2.2.2.2.2.2.2.2 ss sv) (A1 (mo_W cy g a b t vn vf vs vp vq vd vo un uf us up uq ud uo tm tx hc hh ss sv))) 0 0 (A1 (mo_W cy g a b t vn vf vs vp vq vd vo un uf us up uq ud uo tm tx hc hh ss sv)) := by
  refine hd_goX (Qf := fun A => (RI G K (fun u => mo_W cy g a b t u.1 u.2.1 u.2.2.1 u.2.2.2.1 u.2.2.2.2.1 u.2.2.2.2.2.1 u.2.2.2.2.2.2.1 un uf us up uq ud uo tm tx u.2.2.2.2.2.2.2.1 u.2.2.2.2.2.2.2.2 ss sv) A)) (by decide +kernel) (Nat.le_of_ble_eq_true rfl) ?_
  intro p e s m below meth c ls A hx hb hr hlocks S hE hEx hP hD hS hl
  have hl : lv_has ls 4 [(0, .ref (g 0)), (1, .int p1), (2, .int p2), (3, .int p3)] := hl
  unfold vL_turn at h
  have J_94 : ∀ (vn : Nat → Int32) (vf : Nat → UInt32) (vs : Nat → Int32) (vp : Nat → Int32) (vq : Nat → Int32) (vd : Nat → Int32) (vo : Nat → Int32) (hc : Nat → Int32) (hh : Nat → Sx) (ss : Nat → Sx) (sv : Nat → Int32) (x2 : Int32) (x3 : Int32) (y1 : Int32) (y2 : Int32) (y3 : Int32), vL_turn_94 vn vf vs vp vq vd vo hc hh ss sv x2 x3 y1 y2 y3 K  → ∀ (H : Heap) (locs : List Loc) (ls : Array Slot), va_P G vwCl (mo_W cy g a b t vn vf vs vp vq vd vo un uf us up uq ud uo tm tx hc hh ss sv) H → va_D A (mo_W cy g a b t vn vf vs vp vq vd vo un uf us up uq ud uo tm tx hc hh ss sv) → va_S A s.heap H locs → lv_has ls 4 [(2, .int x2), (3, .int x3)] → W p l e (headSpec (ws_ yL_turn cL_turn 4 (some .int)) ({ frames := 8, cells := 0, slots := 0, locals := 190 } : Room)).room s m ([.ref (g 0), .int p1, .int p2, .int p3] : List Value).toArray below meth c H locs 0 0 (MQ below (RI G K (fun u => mo_W cy g a b t u.1 u.2.1 u.2.2.1 u.2.2.2.1 u.2.2.2.2.1 u.2.2.2.2.2.1 u.2.2.2.2.2.2.1 un uf us up uq ud uo tm tx u.2.2.2.2.2.2.2.1 u.2.2.2.2.2.2.2.2 ss sv) A) ([.ref (g 0), .int p1, .int p2, .int p3] : List Value).toArray s 0 0 A) (F0 m 94 ls [.int y3, .int y2, .int y1, .ref (g 0)]) := by
    intro vn vf vs vp vq vd vo hc hh ss sv x2 x3 y1 y2 y3 h H locs ls hP hD hS hl
    unfold vL_turn_94 at h
    refine kc_SiE (As := [.int y2, .int y3]) (rest := [.int y1, .ref (g 0)]) S hE (ctL_up l G cy   y2 y3 _ h) q_9_21 q_9_22 q_4_8 q_9_23 ydL_up ⟨⟨rfl, rfl⟩, ⟨Nat.le_of_ble_eq_true rfl, Nat.le_of_ble_eq_true rfl⟩⟩ ⟨Nat.zero_le _, Nat.zero_le _⟩ hP hD hS (fun _ => rfl) rfl hl.1 rfl (Nat.le_of_ble_eq_true rfl) dL_turn_94 (fun r_94 u_94 H locs h hP hD hS => ?_)
    refine lv_iadd hx hb dL_turn_97 ?_
    refine lv_iload_n hx hb dL_turn_98 rfl (lv_at hl 1 rfl) ?_
    refine lv_sipush (v := (600 : Int32)) hx hb dL_turn_99 (by decide) ?_
    refine kc_SiE (As := [.int x3, .int (600 : Int32)]) (rest := [.int (y1 + r_94), .ref (g 0)]) S hE (ctL_up l G cy   x3 (600 : Int32) _ h) q_9_21 q_9_22 q_4_8 q_9_23 ydL_up ⟨⟨rfl, rfl⟩, ⟨Nat.le_of_ble_eq_true rfl, Nat.le_of_ble_eq_true rfl⟩⟩ ⟨Nat.zero_le _, Nat.zero_le _⟩ hP hD hS (fun _ => rfl) rfl hl.1 rfl (Nat.le_of_ble_eq_true rfl) dL_turn_102 (fun r_102 u_102 H locs h hP hD hS => ?_)
    refine lv_sipush (v := (300 : Int32)) hx hb dL_turn_105 (by decide) ?_
    refine lv_isub hx hb dL_turn_108 ?_
    refine lv_iload_n hx hb dL_turn_109 rfl (lv_at hl 0 rfl) ?_
    refine lv_bipush (v := (8 : Int32)) hx hb dL_turn_110 (by decide) ?_
    refine lv_ishr hx hb dL_turn_112 ?_
    refine lv_sipush (v := (900 : Int32)) hx hb dL_turn_113 (by decide) ?_
    refine kc_SiE (As := [.int (x2 >>> ((8 : Int32) &&& 31)), .int (900 : Int32)]) (rest := [.int (r_102 - (300 : Int32)), .int (y1 + r_94), .ref (g 0)]) S hE (ctL_up l G cy   (x2 >>> ((8 : Int32) &&& 31)) (900 : Int32) _ h) q_9_21 q_9_22 q_4_8 q_9_23 ydL_up ⟨⟨rfl, rfl⟩, ⟨Nat.le_of_ble_eq_true rfl, Nat.le_of_ble_eq_true rfl⟩⟩ ⟨Nat.zero_le _, Nat.zero_le _⟩ hP hD hS (fun _ => rfl) rfl hl.1 rfl (Nat.le_of_ble_eq_true rfl) dL_turn_116 (fun r_116 u_116 H locs h hP hD hS => ?_)
    refine lv_sipush (v := (600 : Int32)) hx hb dL_turn_119 (by decide) ?_
    refine lv_isub hx hb dL_turn_122 ?_
    refine lv_iload_n hx hb dL_turn_123 rfl (lv_at hl 1 rfl) ?_
    refine lv_bipush (v := (9 : Int32)) hx hb dL_turn_124 (by decide) ?_
    refine lv_ishr hx hb dL_turn_126 ?_
    refine lv_bipush (v := (60 : Int32)) hx hb dL_turn_127 (by decide) ?_
    refine kc_SiE (As := [.int (x3 >>> ((9 : Int32) &&& 31)), .int (60 : Int32)]) (rest := [.int (r_116 - (600 : Int32)), .int (r_102 - (300 : Int32)), .int (y1 + r_94), .ref (g 0)]) S hE (ctL_up l G cy   (x3 >>> ((9 : Int32) &&& 31)) (60 : Int32) _ h) q_9_21 q_9_22 q_4_8 q_9_23 ydL_up ⟨⟨rfl, rfl⟩, ⟨Nat.le_of_ble_eq_true rfl, Nat.le_of_ble_eq_true rfl⟩⟩ ⟨Nat.zero_le _, Nat.zero_le _⟩ hP hD hS (fun _ => rfl) rfl hl.1 rfl (Nat.le_of_ble_eq_true rfl) dL_turn_129 (fun r_129 u_129 H locs h hP hD hS => ?_)
    refine lv_bipush (v := (30 : Int32)) hx hb dL_turn_132 (by decide) ?_
    refine lv_isub hx hb dL_turn_134 ?_
    refine kc_Vi0 (As := [.int (y1 + r_94), .int (r_102 - (300 : Int32)), .int (r_116 - (600 : Int32)), .int (r_129 - (30 : Int32))]) (rest := []) S hE (ctX6_place l G cy g a b t vn vf vs vp vq vd vo un uf us up uq ud uo tm tx hc hh ss sv (y1 + r_94) (r_102 - (300 : Int32)) (r_116 - (600 : Int32)) (r_129 - (30 : Int32)) _ h) q_10_1 q_10_2 q_10_3 q_1_2 q_10_4 rfl 0 rfl rfl ydX6_place ⟨⟨rfl, rfl⟩, ⟨Nat.le_of_ble_eq_true rfl, Nat.le_of_ble_eq_true rfl⟩⟩ ⟨Nat.zero_le _, Nat.zero_le _⟩ hP hD hS rfl hl.1 rfl (Nat.le_of_ble_eq_true rfl) dL_turn_135 (fun r_135 u_135 H locs h hP hD hS => ?_)
    exact W.iret (v := r_135) hx hb hr (fun t ht hW => ⟨⟨r_135, (u_135.1, u_135.2.1, vs, vp, vq, vd, vo, u_135.2.2.1, u_135.2.2.2), rfl, h, ⟨hp_at ht hP, hD⟩⟩, hS.F ht⟩) hS.2.2 dL_turn_138
  have J_236 : ∀ (vn : Nat → Int32) (vf : Nat → UInt32) (vs : Nat → Int32) (vp : Nat → Int32) (vq : Nat → Int32) (vd : Nat → Int32) (vo : Nat → Int32) (hc : Nat → Int32) (hh : Nat → Sx) (ss : Nat → Sx) (sv : Nat → Int32) (y1 : Int32) (y2 : Int32) (y3 : Int32), vL_turn_236 vn vf vs vp vq vd vo hc hh ss sv y1 y2 y3 K  → ∀ (H : Heap) (locs : List Loc) (ls : Array Slot), va_P G vwCl (mo_W cy g a b t vn vf vs vp vq vd vo un uf us up uq ud uo tm tx hc hh ss sv) H → va_D A (mo_W cy g a b t vn vf vs vp vq vd vo un uf us up uq ud uo tm tx hc hh ss sv) → va_S A s.heap H locs → lv_has ls 4 [] → W p l e (headSpec (ws_ yL_turn cL_turn 4 (some .int)) ({ frames := 8, cells := 0, slots := 0, locals := 190 } : Room)).room s m ([.ref (g 0), .int p1, .int p2, .int p3] : List Value).toArray below meth c H locs 0 0 (MQ below (RI G K (fun u => mo_W cy g a b t u.1 u.2.1 u.2.2.1 u.2.2.2.1 u.2.2.2.2.1 u.2.2.2.2.2.1 u.2.2.2.2.2.2.1 un uf us up uq ud uo tm tx u.2.2.2.2.2.2.2.1 u.2.2.2.2.2.2.2.2 ss sv) A) ([.ref (g 0), .int p1, .int p2, .int p3] : List Value).toArray s 0 0 A) (F0 m 236 ls [.int y3, .int y2, .int y1, .ref (g 0)]) := by
    intro vn vf vs vp vq vd vo hc hh ss sv y1 y2 y3 h H locs ls hP hD hS hl
    unfold vL_turn_236 at h
    refine lv_isub hx hb dL_turn_236 ?_
    refine kc_Vi0 (As := [.int y1, .int (y2 - y3)]) (rest := []) S hE (ctX6_setBias l G cy g a b t vn vf vs vp vq vd vo un uf us up uq ud uo tm tx hc hh ss sv y1 (y2 - y3) _ h) q_13_14 q_13_15 q_13_16 q_1_2 q_13_17 rfl 0 rfl rfl ydX6_setBias ⟨⟨rfl, rfl⟩, ⟨Nat.le_of_ble_eq_true rfl, Nat.le_of_ble_eq_true rfl⟩⟩ ⟨Nat.zero_le _, Nat.zero_le _⟩ hP hD hS rfl hl.1 rfl (Nat.le_of_ble_eq_true rfl) dL_turn_237 (fun r_237 u_237 H locs h hP hD hS => ?_)
    exact W.iret (v := r_237) hx hb hr (fun t ht hW => ⟨⟨r_237, (u_237.1, vf, vs, vp, vq, vd, vo, u_237.2.1, u_237.2.2), rfl, h, ⟨hp_at ht hP, hD⟩⟩, hS.F ht⟩) hS.2.2 dL_turn_240
  have J_219 : ∀ (vn : Nat → Int32) (vf : Nat → UInt32) (vs : Nat → Int32) (vp : Nat → Int32) (vq : Nat → Int32) (vd : Nat → Int32) (vo : Nat → Int32) (hc : Nat → Int32) (hh : Nat → Sx) (ss : Nat → Sx) (sv : Nat → Int32) (x2 : Int32) (y1 : Int32) (y2 : Int32) (y3 : Int32), vL_turn_219 vn vf vs vp vq vd vo hc hh ss sv x2 y1 y2 y3 K  → ∀ (H : Heap) (locs : List Loc) (ls : Array Slot), va_P G vwCl (mo_W cy g a b t vn vf vs vp vq vd vo un uf us up uq ud uo tm tx hc hh ss sv) H → va_D A (mo_W cy g a b t vn vf vs vp vq vd vo un uf us up uq ud uo tm tx hc hh ss sv) → va_S A s.heap H locs → lv_has ls 4 [(2, .int x2)] → W p l e (headSpec (ws_ yL_turn cL_turn 4 (some .int)) ({ frames := 8, cells := 0, slots := 0, locals := 190 } : Room)).room s m ([.ref (g 0), .int p1, .int p2, .int p3] : List Value).toArray below meth c H locs 0 0 (MQ below (RI G K (fun u => mo_W cy g a b t u.1 u.2.1 u.2.2.1 u.2.2.2.1 u.2.2.2.2.1 u.2.2.2.2.2.1 u.2.2.2.2.2.2.1 un uf us up uq ud uo tm tx u.2.2.2.2.2.2.2.1 u.2.2.2.2.2.2.2.2 ss sv) A) ([.ref (g 0), .int p1, .int p2, .int p3] : List Value).toArray s 0 0 A) (F0 m 219 ls [.int y3, .int y2, .int y1, .ref (g 0)]) := by
    intro vn vf vs vp vq vd vo hc hh ss sv x2 y1 y2 y3 h H locs ls hP hD hS hl
    unfold vL_turn_219 at h
    refine kc_SiE (As := [.int y2, .int y3]) (rest := [.int y1, .ref (g 0)]) S hE (ctL_up l G cy   y2 y3 _ h) q_9_21 q_9_22 q_4_8 q_9_23 ydL_up ⟨⟨rfl, rfl⟩, ⟨Nat.le_of_ble_eq_true rfl, Nat.le_of_ble_eq_true rfl⟩⟩ ⟨Nat.zero_le _, Nat.zero_le _⟩ hP hD hS (fun _ => rfl) rfl hl.1 rfl (Nat.le_of_ble_eq_true rfl) dL_turn_219 (fun r_219 u_219 H locs h hP hD hS => ?_)
    refine lv_iload_n hx hb dL_turn_222 rfl (lv_at hl 0 rfl) ?_
    refine lv_iconst (v := (2 : Int32)) hx hb dL_turn_223 (by decide) ?_
    refine lv_iand hx hb dL_turn_224 ?_
    refine lv_if_ne (tgt := 233) hx hb dL_turn_225 (by decide) (fun c_225 => ?_) (fun c_225 => ?_)
    · have h := h.1 c_225
      refine lv_sipush (v := (500 : Int32)) hx hb dL_turn_233 (by decide) ?_
      exact J_236 _ _ _ _ _ _ _ _ _ _ _ _ _ _ h _ _ _ hP hD hS (lv_sub hl [] rfl)
    · have h := h.2 c_225
      refine lv_bipush (v := (30 : Int32)) hx hb dL_turn_228 (by decide) ?_
      refine lv_goto (tgt := 236) hx hb dL_turn_230 (by decide) ?_
      exact J_236 _ _ _ _ _ _ _ _ _ _ _ _ _ _ h _ _ _ hP hD hS (lv_sub hl [] rfl)
  have J_204 : ∀ (vn : Nat → Int32) (vf : Nat → UInt32) (vs : Nat → Int32) (vp : Nat → Int32) (vq : Nat → Int32) (vd : Nat → Int32) (vo : Nat → Int32) (hc : Nat → Int32) (hh : Nat → Sx) (ss : Nat → Sx) (sv : Nat → Int32) (x2 : Int32) (x3 : Int32) (y1 : Int32), vL_turn_204 vn vf vs vp vq vd vo hc hh ss sv x2 x3 y1 K  → ∀ (H : Heap) (locs : List Loc) (ls : Array Slot), va_P G vwCl (mo_W cy g a b t vn vf vs vp vq vd vo un uf us up uq ud uo tm tx hc hh ss sv) H → va_D A (mo_W cy g a b t vn vf vs vp vq vd vo un uf us up uq ud uo tm tx hc hh ss sv) → va_S A s.heap H locs → lv_has ls 4 [(2, .int x2), (3, .int x3)] → W p l e (headSpec (ws_ yL_turn cL_turn 4 (some .int)) ({ frames := 8, cells := 0, slots := 0, locals := 190 } : Room)).room s m ([.ref (g 0), .int p1, .int p2, .int p3] : List Value).toArray below meth c H locs 0 0 (MQ below (RI G K (fun u => mo_W cy g a b t u.1 u.2.1 u.2.2.1 u.2.2.2.1 u.2.2.2.2.1 u.2.2.2.2.2.1 u.2.2.2.2.2.2.1 un uf us up uq ud uo tm tx u.2.2.2.2.2.2.2.1 u.2.2.2.2.2.2.2.2 ss sv) A) ([.ref (g 0), .int p1, .int p2, .int p3] : List Value).toArray s 0 0 A) (F0 m 204 ls [.int y1, .ref (g 0)]) := by
    intro vn vf vs vp vq vd vo hc hh ss sv x2 x3 y1 h H locs ls hP hD hS hl
    unfold vL_turn_204 at h
    refine lv_iload_n hx hb dL_turn_204 rfl (lv_at hl 1 rfl) ?_
    refine lv_iload_n hx hb dL_turn_205 rfl (lv_at hl 0 rfl) ?_
    refine lv_iconst (v := (2 : Int32)) hx hb dL_turn_206 (by decide) ?_
    refine lv_iand hx hb dL_turn_207 ?_
    refine lv_if_ne (tgt := 216) hx hb dL_turn_208 (by decide) (fun c_208 => ?_) (fun c_208 => ?_)
    · have h := h.1 c_208
      refine lv_sipush (v := (1001 : Int32)) hx hb dL_turn_216 (by decide) ?_
      exact J_219 _ _ _ _ _ _ _ _ _ _ _ _ _ _ _ h _ _ _ hP hD hS (lv_sub hl [0] rfl)
    · have h := h.2 c_208
      refine lv_bipush (v := (60 : Int32)) hx hb dL_turn_211 (by decide) ?_
      refine lv_goto (tgt := 219) hx hb dL_turn_213 (by decide) ?_
      exact J_219 _ _ _ _ _ _ _ _ _ _ _ _ _ _ _ h _ _ _ hP hD hS (lv_sub hl [0] rfl)
  have J_241 : ∀ (vn : Nat → Int32) (vf : Nat → UInt32) (vs : Nat → Int32) (vp : Nat → Int32) (vq : Nat → Int32) (vd : Nat → Int32) (vo : Nat → Int32) (hc : Nat → Int32) (hh : Nat → Sx) (ss : Nat → Sx) (sv : Nat → Int32), vL_turn_241 vn vf vs vp vq vd vo hc hh ss sv K  → ∀ (H : Heap) (locs : List Loc) (ls : Array Slot), va_P G vwCl (mo_W cy g a b t vn vf vs vp vq vd vo un uf us up uq ud uo tm tx hc hh ss sv) H → va_D A (mo_W cy g a b t vn vf vs vp vq vd vo un uf us up uq ud uo tm tx hc hh ss sv) → va_S A s.heap H locs → lv_has ls 4 [(0, .ref (g 0))] → W p l e (headSpec (ws_ yL_turn cL_turn 4 (some .int)) ({ frames := 8, cells := 0, slots := 0, locals := 190 } : Room)).room s m ([.ref (g 0), .int p1, .int p2, .int p3] : List Value).toArray below meth c H locs 0 0 (MQ below (RI G K (fun u => mo_W cy g a b t u.1 u.2.1 u.2.2.1 u.2.2.2.1 u.2.2.2.2.1 u.2.2.2.2.2.1 u.2.2.2.2.2.2.1 un uf us up uq ud uo tm tx u.2.2.2.2.2.2.2.1 u.2.2.2.2.2.2.2.2 ss sv) A) ([.ref (g 0), .int p1, .int p2, .int p3] : List Value).toArray s 0 0 A) (F0 m 241 ls []) := by
    intro vn vf vs vp vq vd vo hc hh ss sv h H locs ls hP hD hS hl
    unfold vL_turn_241 at h
    refine lv_aload_n hx hb dL_turn_241 rfl (lv_at hl 0 rfl) ?_
    refine kc_Vi0 (As := []) (rest := []) S hE (ctX6_approach l G cy g a b t vn vf vs vp vq vd vo un uf us up uq ud uo tm tx hc hh ss sv  _ h) q_13_20 q_13_21 q_13_22 q_1_2 q_13_23 rfl 0 rfl rfl ydX6_approach ⟨⟨rfl, rfl⟩, ⟨Nat.le_of_ble_eq_true rfl, Nat.le_of_ble_eq_true rfl⟩⟩ ⟨Nat.zero_le _, Nat.zero_le _⟩ hP hD hS rfl hl.1 rfl (Nat.le_of_ble_eq_true rfl) dL_turn_242 (fun r_242 u_242 H locs h hP hD hS => ?_)
    exact W.iret (v := r_242) hx hb hr (fun t ht hW => ⟨⟨r_242, (u_242.1, u_242.2.1, vs, vp, vq, vd, u_242.2.2.1, u_242.2.2.2.1, u_242.2.2.2.2), rfl, h, ⟨hp_at ht hP, hD⟩⟩, hS.F ht⟩) hS.2.2 dL_turn_245
  have J_291 : ∀ (vn : Nat → Int32) (vf : Nat → UInt32) (vs : Nat → Int32) (vp : Nat → Int32) (vq : Nat → Int32) (vd : Nat → Int32) (vo : Nat → Int32) (hc : Nat → Int32) (hh : Nat → Sx) (ss : Nat → Sx) (sv : Nat → Int32) (y1 : Int32) (y2 : Int32) (y3 : Int32), vL_turn_291 vn vf vs vp vq vd vo hc hh ss sv y1 y2 y3 K  → ∀ (H : Heap) (locs : List Loc) (ls : Array Slot), va_P G vwCl (mo_W cy g a b t vn vf vs vp vq vd vo un uf us up uq ud uo tm tx hc hh ss sv) H → va_D A (mo_W cy g a b t vn vf vs vp vq vd vo un uf us up uq ud uo tm tx hc hh ss sv) → va_S A s.heap H locs → lv_has ls 4 [] → W p l e (headSpec (ws_ yL_turn cL_turn 4 (some .int)) ({ frames := 8, cells := 0, slots := 0, locals := 190 } : Room)).room s m ([.ref (g 0), .int p1, .int p2, .int p3] : List Value).toArray below meth c H locs 0 0 (MQ below (RI G K (fun u => mo_W cy g a b t u.1 u.2.1 u.2.2.1 u.2.2.2.1 u.2.2.2.2.1 u.2.2.2.2.2.1 u.2.2.2.2.2.2.1 un uf us up uq ud uo tm tx u.2.2.2.2.2.2.2.1 u.2.2.2.2.2.2.2.2 ss sv) A) ([.ref (g 0), .int p1, .int p2, .int p3] : List Value).toArray s 0 0 A) (F0 m 291 ls [.int y3, .int y2, .int y1, .ref (g 0)]) := by
    intro vn vf vs vp vq vd vo hc hh ss sv y1 y2 y3 h H locs ls hP hD hS hl
    unfold vL_turn_291 at h
    refine kc_SiE (As := [.int y2, .int y3]) (rest := [.int y1, .ref (g 0)]) S hE (ctL_up l G cy   y2 y3 _ h) q_9_21 q_9_22 q_4_8 q_9_23 ydL_up ⟨⟨rfl, rfl⟩, ⟨Nat.le_of_ble_eq_true rfl, Nat.le_of_ble_eq_true rfl⟩⟩ ⟨Nat.zero_le _, Nat.zero_le _⟩ hP hD hS (fun _ => rfl) rfl hl.1 rfl (Nat.le_of_ble_eq_true rfl) dL_turn_291 (fun r_291 u_291 H locs h hP hD hS => ?_)
    refine lv_iadd hx hb dL_turn_294 ?_
    refine kc_Vi0 (As := [.int (y1 + r_291)]) (rest := []) S hE (ctX6_pass l G cy g a b t vn vf vs vp vq vd vo un uf us up uq ud uo tm tx hc hh ss sv (y1 + r_291) _ h) q_18_1 q_18_2 q_18_3 q_1_2 q_18_4 rfl 0 rfl rfl ydX6_pass ⟨⟨rfl, rfl⟩, ⟨Nat.le_of_ble_eq_true rfl, Nat.le_of_ble_eq_true rfl⟩⟩ ⟨Nat.zero_le _, Nat.zero_le _⟩ hP hD hS rfl hl.1 rfl (Nat.le_of_ble_eq_true rfl) dL_turn_295 (fun r_295 u_295 H locs h hP hD hS => ?_)
    exact W.iret (v := r_295) hx hb hr (fun t ht hW => ⟨⟨r_295, (u_295.1, u_295.2.1, vs, vp, vq, vd, u_295.2.2.1, u_295.2.2.2.1, u_295.2.2.2.2), rfl, h, ⟨hp_at ht hP, hD⟩⟩, hS.F ht⟩) hS.2.2 dL_turn_298
  have J_274 : ∀ (vn : Nat → Int32) (vf : Nat → UInt32) (vs : Nat → Int32) (vp : Nat → Int32) (vq : Nat → Int32) (vd : Nat → Int32) (vo : Nat → Int32) (hc : Nat → Int32) (hh : Nat → Sx) (ss : Nat → Sx) (sv : Nat → Int32) (x2 : Int32) (x3 : Int32), vL_turn_274 vn vf vs vp vq vd vo hc hh ss sv x2 x3 K  → ∀ (H : Heap) (locs : List Loc) (ls : Array Slot), va_P G vwCl (mo_W cy g a b t vn vf vs vp vq vd vo un uf us up uq ud uo tm tx hc hh ss sv) H → va_D A (mo_W cy g a b t vn vf vs vp vq vd vo un uf us up uq ud uo tm tx hc hh ss sv) → va_S A s.heap H locs → lv_has ls 4 [(0, .ref (g 0)), (2, .int x2), (3, .int x3)] → W p l e (headSpec (ws_ yL_turn cL_turn 4 (some .int)) ({ frames := 8, cells := 0, slots := 0, locals := 190 } : Room)).room s m ([.ref (g 0), .int p1, .int p2, .int p3] : List Value).toArray below meth c H locs 0 0 (MQ below (RI G K (fun u => mo_W cy g a b t u.1 u.2.1 u.2.2.1 u.2.2.2.1 u.2.2.2.2.1 u.2.2.2.2.2.1 u.2.2.2.2.2.2.1 un uf us up uq ud uo tm tx u.2.2.2.2.2.2.2.1 u.2.2.2.2.2.2.2.2 ss sv) A) ([.ref (g 0), .int p1, .int p2, .int p3] : List Value).toArray s 0 0 A) (F0 m 274 ls []) := by
    intro vn vf vs vp vq vd vo hc hh ss sv x2 x3 h H locs ls hP hD hS hl
    unfold vL_turn_274 at h
    refine lv_aload_n hx hb dL_turn_274 rfl (lv_at hl 0 rfl) ?_
    refine lv_iconst (v := (1 : Int32)) hx hb dL_turn_275 (by decide) ?_
    refine lv_iload_n hx hb dL_turn_276 rfl (lv_at hl 2 rfl) ?_
    refine lv_iload_n hx hb dL_turn_277 rfl (lv_at hl 1 rfl) ?_
    refine lv_iconst (v := (3 : Int32)) hx hb dL_turn_278 (by decide) ?_
    refine lv_iand hx hb dL_turn_279 ?_
    refine lv_if_ne (tgt := 289) hx hb dL_turn_280 (by decide) (fun c_280 => ?_) (fun c_280 => ?_)
    · have h := h.1 c_280
      refine lv_bipush (v := (12 : Int32)) hx hb dL_turn_289 (by decide) ?_
      exact J_291 _ _ _ _ _ _ _ _ _ _ _ _ _ _ h _ _ _ hP hD hS (lv_sub hl [] rfl)
    · have h := h.2 c_280
      refine lv_sipush (v := (200 : Int32)) hx hb dL_turn_283 (by decide) ?_
      refine lv_goto (tgt := 291) hx hb dL_turn_286 (by decide) ?_
      exact J_291 _ _ _ _ _ _ _ _ _ _ _ _ _ _ h _ _ _ hP hD hS (lv_sub hl [] rfl)
  refine lv_iload_n hx hb dL_turn_0 rfl (lv_at hl 1 rfl) ?_
  rcases Classical.em (p1 = (0 : Int32)) with c_1_0 | c_1_0
  · have h := h.1 c_1_0
    refine lv_tableIn (tgt := 76) hx hb dL_turn_1 (by rw [c_1_0]; decide) (by rw [c_1_0]; decide) (by rw [c_1_0]; try rfl) (by decide) ?_
    refine lv_aload_n hx hb dL_turn_76 rfl (lv_at hl 0 rfl) ?_
    refine lv_iconst (v := (1 : Int32)) hx hb dL_turn_77 (by decide) ?_
    refine lv_iload_n hx hb dL_turn_78 rfl (lv_at hl 2 rfl) ?_
    refine lv_iload_n hx hb dL_turn_79 rfl (lv_at hl 2 rfl) ?_
    refine lv_iconst (v := (1 : Int32)) hx hb dL_turn_80 (by decide) ?_
    refine lv_iand hx hb dL_turn_81 ?_
    refine lv_if_ne (tgt := 91) hx hb dL_turn_82 (by decide) (fun c_82 => ?_) (fun c_82 => ?_)
    · have h := h.1 c_82
      refine lv_sipush (v := (600 : Int32)) hx hb dL_turn_91 (by decide) ?_
      exact J_94 _ _ _ _ _ _ _ _ _ _ _ _ _ _ _ _ h _ _ _ hP hD hS (lv_sub hl [2, 3] rfl)
    · have h := h.2 c_82
      refine lv_sipush (v := (9000 : Int32)) hx hb dL_turn_85 (by decide) ?_
      refine lv_goto (tgt := 94) hx hb dL_turn_88 (by decide) ?_
      exact J_94 _ _ _ _ _ _ _ _ _ _ _ _ _ _ _ _ h _ _ _ hP hD hS (lv_sub hl [2, 3] rfl)
  · have h := h.2 c_1_0
    rcases Classical.em (p1 = (1 : Int32)) with c_1_1 | c_1_1
    · have h := h.1 c_1_1
      refine lv_tableIn (tgt := 139) hx hb dL_turn_1 (by rw [c_1_1]; decide) (by rw [c_1_1]; decide) (by rw [c_1_1]; try rfl) (by decide) ?_
      refine lv_aload_n hx hb dL_turn_139 rfl (lv_at hl 0 rfl) ?_
      refine lv_iload_n hx hb dL_turn_140 rfl (lv_at hl 2 rfl) ?_
      refine lv_bipush (v := (8 : Int32)) hx hb dL_turn_141 (by decide) ?_
      refine kc_SiE (As := [.int p2, .int (8 : Int32)]) (rest := [.ref (g 0)]) S hE (ctL_up l G cy   p2 (8 : Int32) _ h) q_9_21 q_9_22 q_4_8 q_9_23 ydL_up ⟨⟨rfl, rfl⟩, ⟨Nat.le_of_ble_eq_true rfl, Nat.le_of_ble_eq_true rfl⟩⟩ ⟨Nat.zero_le _, Nat.zero_le _⟩ hP hD hS (fun _ => rfl) rfl hl.1 rfl (Nat.le_of_ble_eq_true rfl) dL_turn_143 (fun r_143 u_143 H locs h hP hD hS => ?_)
      refine lv_iload_n hx hb dL_turn_146 rfl (lv_at hl 3 rfl) ?_
      refine lv_sipush (v := (501 : Int32)) hx hb dL_turn_147 (by decide) ?_
      refine kc_SiE (As := [.int p3, .int (501 : Int32)]) (rest := [.int r_143, .ref (g 0)]) S hE (ctL_up l G cy   p3 (501 : Int32) _ h) q_9_21 q_9_22 q_4_8 q_9_23 ydL_up ⟨⟨rfl, rfl⟩, ⟨Nat.le_of_ble_eq_true rfl, Nat.le_of_ble_eq_true rfl⟩⟩ ⟨Nat.zero_le _, Nat.zero_le _⟩ hP hD hS (fun _ => rfl) rfl hl.1 rfl (Nat.le_of_ble_eq_true rfl) dL_turn_150 (fun r_150 u_150 H locs h hP hD hS => ?_)
      refine kc_Vi0X (As := [.int r_143, .int r_150]) (rest := []) S hE xST_ok (ctX6_set l G cy g a b t vn vf vs vp vq vd vo un uf us up uq ud uo tm tx hc hh ss sv r_143 r_150 _ h) q_12_8 q_12_9 q_12_10 q_1_2 q_12_11 rfl 0 rfl rfl ydX6_set ⟨⟨rfl, rfl⟩, ⟨Nat.le_of_ble_eq_true rfl, Nat.le_of_ble_eq_true rfl⟩⟩ ⟨Nat.zero_le _, Nat.zero_le _⟩ hP hD hS (xST_at hEx hS (fx_free hD)) rfl hl.1 rfl (Nat.le_of_ble_eq_true rfl) dL_turn_153 (fun r_153 u_153 H locs h hP hD hS => ?_)
      exact W.iret (v := r_153) hx hb hr (fun t ht hW => ⟨⟨r_153, (vn, vf, u_153.1, vp, vq, vd, vo, u_153.2.1, u_153.2.2), rfl, h, ⟨hp_at ht hP, hD⟩⟩, hS.F ht⟩) hS.2.2 dL_turn_156
    · have h := h.2 c_1_1
      rcases Classical.em (p1 = (2 : Int32)) with c_1_2 | c_1_2
      · have h := h.1 c_1_2
        refine lv_tableIn (tgt := 157) hx hb dL_turn_1 (by rw [c_1_2]; decide) (by rw [c_1_2]; decide) (by rw [c_1_2]; try rfl) (by decide) ?_
        refine lv_aload_n hx hb dL_turn_157 rfl (lv_at hl 0 rfl) ?_
        refine lv_iload_n hx hb dL_turn_158 rfl (lv_at hl 2 rfl) ?_
        refine lv_sipush (v := (8000 : Int32)) hx hb dL_turn_159 (by decide) ?_
        refine kc_SiE (As := [.int p2, .int (8000 : Int32)]) (rest := [.ref (g 0)]) S hE (ctL_up l G cy   p2 (8000 : Int32) _ h) q_9_21 q_9_22 q_4_8 q_9_23 ydL_up ⟨⟨rfl, rfl⟩, ⟨Nat.le_of_ble_eq_true rfl, Nat.le_of_ble_eq_true rfl⟩⟩ ⟨Nat.zero_le _, Nat.zero_le _⟩ hP hD hS (fun _ => rfl) rfl hl.1 rfl (Nat.le_of_ble_eq_true rfl) dL_turn_162 (fun r_162 u_162 H locs h hP hD hS => ?_)
        refine lv_iconst (v := (1 : Int32)) hx hb dL_turn_165 (by decide) ?_
        refine lv_iload_n hx hb dL_turn_166 rfl (lv_at hl 3 rfl) ?_
        refine lv_sipush (v := (900 : Int32)) hx hb dL_turn_167 (by decide) ?_
        refine kc_SiE (As := [.int p3, .int (900 : Int32)]) (rest := [.int (1 : Int32), .int r_162, .ref (g 0)]) S hE (ctL_up l G cy   p3 (900 : Int32) _ h) q_9_21 q_9_22 q_4_8 q_9_23 ydL_up ⟨⟨rfl, rfl⟩, ⟨Nat.le_of_ble_eq_true rfl, Nat.le_of_ble_eq_true rfl⟩⟩ ⟨Nat.zero_le _, Nat.zero_le _⟩ hP hD hS (fun _ => rfl) rfl hl.1 rfl (Nat.le_of_ble_eq_true rfl) dL_turn_170 (fun r_170 u_170 H locs h hP hD hS => ?_)
        refine lv_iadd hx hb dL_turn_173 ?_
        refine kc_Vi0 (As := [.int r_162, .int ((1 : Int32) + r_170)]) (rest := []) S hE (ctX6_setPoint l G cy g a b t vn vf vs vp vq vd vo un uf us up uq ud uo tm tx hc hh ss sv r_162 ((1 : Int32) + r_170) _ h) q_12_14 q_12_15 q_12_16 q_1_2 q_12_17 rfl 0 rfl rfl ydX6_setPoint ⟨⟨rfl, rfl⟩, ⟨Nat.le_of_ble_eq_true rfl, Nat.le_of_ble_eq_true rfl⟩⟩ ⟨Nat.zero_le _, Nat.zero_le _⟩ hP hD hS rfl hl.1 rfl (Nat.le_of_ble_eq_true rfl) dL_turn_174 (fun r_174 u_174 H locs h hP hD hS => ?_)
        exact W.iret (v := r_174) hx hb hr (fun t ht hW => ⟨⟨r_174, (u_174.1, vf, vs, u_174.2.1, u_174.2.2.1, vd, vo, u_174.2.2.2.1, u_174.2.2.2.2), rfl, h, ⟨hp_at ht hP, hD⟩⟩, hS.F ht⟩) hS.2.2 dL_turn_177
      · have h := h.2 c_1_2
        rcases Classical.em (p1 = (3 : Int32)) with c_1_3 | c_1_3
        · have h := h.1 c_1_3
          refine lv_tableIn (tgt := 178) hx hb dL_turn_1 (by rw [c_1_3]; decide) (by rw [c_1_3]; decide) (by rw [c_1_3]; try rfl) (by decide) ?_
          refine lv_aload_n hx hb dL_turn_178 rfl (lv_at hl 0 rfl) ?_
          refine lv_iconst (v := (1 : Int32)) hx hb dL_turn_179 (by decide) ?_
          refine lv_iload_n hx hb dL_turn_180 rfl (lv_at hl 2 rfl) ?_
          refine lv_sipush (v := (9000 : Int32)) hx hb dL_turn_181 (by decide) ?_
          refine kc_SiE (As := [.int p2, .int (9000 : Int32)]) (rest := [.int (1 : Int32), .ref (g 0)]) S hE (ctL_up l G cy   p2 (9000 : Int32) _ h) q_9_21 q_9_22 q_4_8 q_9_23 ydL_up ⟨⟨rfl, rfl⟩, ⟨Nat.le_of_ble_eq_true rfl, Nat.le_of_ble_eq_true rfl⟩⟩ ⟨Nat.zero_le _, Nat.zero_le _⟩ hP hD hS (fun _ => rfl) rfl hl.1 rfl (Nat.le_of_ble_eq_true rfl) dL_turn_184 (fun r_184 u_184 H locs h hP hD hS => ?_)
          refine lv_iadd hx hb dL_turn_187 ?_
          refine kc_Vi0 (As := [.int ((1 : Int32) + r_184)]) (rest := []) S hE (ctX6_addStop l G cy g a b t vn vf vs vp vq vd vo un uf us up uq ud uo tm tx hc hh ss sv ((1 : Int32) + r_184) _ h) q_13_6 q_13_7 q_13_8 q_1_2 q_13_9 rfl 0 rfl rfl ydX6_addStop ⟨⟨rfl, rfl⟩, ⟨Nat.le_of_ble_eq_true rfl, Nat.le_of_ble_eq_true rfl⟩⟩ ⟨Nat.zero_le _, Nat.zero_le _⟩ hP hD hS rfl hl.1 rfl (Nat.le_of_ble_eq_true rfl) dL_turn_188 (fun r_188 u_188 H locs h hP hD hS => ?_)
          exact W.iret (v := r_188) hx hb hr (fun t ht hW => ⟨⟨r_188, (u_188.1, vf, vs, vp, vq, u_188.2.1, u_188.2.2.1, u_188.2.2.2.1, u_188.2.2.2.2), rfl, h, ⟨hp_at ht hP, hD⟩⟩, hS.F ht⟩) hS.2.2 dL_turn_191
        · have h := h.2 c_1_3
          rcases Classical.em (p1 = (4 : Int32)) with c_1_4 | c_1_4
          · have h := h.1 c_1_4
            refine lv_tableIn (tgt := 192) hx hb dL_turn_1 (by rw [c_1_4]; decide) (by rw [c_1_4]; decide) (by rw [c_1_4]; try rfl) (by decide) ?_
            refine lv_aload_n hx hb dL_turn_192 rfl (lv_at hl 0 rfl) ?_
            refine lv_iload_n hx hb dL_turn_193 rfl (lv_at hl 2 rfl) ?_
            refine lv_iconst (v := (1 : Int32)) hx hb dL_turn_194 (by decide) ?_
            refine lv_iand hx hb dL_turn_195 ?_
            refine lv_if_ne (tgt := 203) hx hb dL_turn_196 (by decide) (fun c_196 => ?_) (fun c_196 => ?_)
            · have h := h.1 c_196
              refine lv_iconst (v := (0 : Int32)) hx hb dL_turn_203 (by decide) ?_
              exact J_204 _ _ _ _ _ _ _ _ _ _ _ _ _ _ h _ _ _ hP hD hS (lv_sub hl [2, 3] rfl)
            · have h := h.2 c_196
              refine lv_iconst (v := (1 : Int32)) hx hb dL_turn_199 (by decide) ?_
              refine lv_goto (tgt := 204) hx hb dL_turn_200 (by decide) ?_
              exact J_204 _ _ _ _ _ _ _ _ _ _ _ _ _ _ h _ _ _ hP hD hS (lv_sub hl [2, 3] rfl)
          · have h := h.2 c_1_4
            rcases Classical.em (p1 = (5 : Int32)) with c_1_5 | c_1_5
            · have h := h.1 c_1_5
              refine lv_tableIn (tgt := 241) hx hb dL_turn_1 (by rw [c_1_5]; decide) (by rw [c_1_5]; decide) (by rw [c_1_5]; try rfl) (by decide) ?_
              exact J_241 _ _ _ _ _ _ _ _ _ _ _ h _ _ _ hP hD hS (lv_sub hl [0] rfl)
            · have h := h.2 c_1_5
              rcases Classical.em (p1 = (6 : Int32)) with c_1_6 | c_1_6
              · have h := h.1 c_1_6
                refine lv_tableIn (tgt := 241) hx hb dL_turn_1 (by rw [c_1_6]; decide) (by rw [c_1_6]; decide) (by rw [c_1_6]; try rfl) (by decide) ?_
                exact J_241 _ _ _ _ _ _ _ _ _ _ _ h _ _ _ hP hD hS (lv_sub hl [0] rfl)
              · have h := h.2 c_1_6
                rcases Classical.em (p1 = (7 : Int32)) with c_1_7 | c_1_7
                · have h := h.1 c_1_7
                  refine lv_tableIn (tgt := 241) hx hb dL_turn_1 (by rw [c_1_7]; decide) (by rw [c_1_7]; decide) (by rw [c_1_7]; try rfl) (by decide) ?_
                  exact J_241 _ _ _ _ _ _ _ _ _ _ _ h _ _ _ hP hD hS (lv_sub hl [0] rfl)
                · have h := h.2 c_1_7
                  rcases Classical.em (p1 = (8 : Int32)) with c_1_8 | c_1_8
                  · have h := h.1 c_1_8
                    refine lv_tableIn (tgt := 246) hx hb dL_turn_1 (by rw [c_1_8]; decide) (by rw [c_1_8]; decide) (by rw [c_1_8]; try rfl) (by decide) ?_
                    refine lv_iload_n hx hb dL_turn_246 rfl (lv_at hl 2 rfl) ?_
                    refine lv_iconst (v := (3 : Int32)) hx hb dL_turn_247 (by decide) ?_
                    refine lv_iand hx hb dL_turn_248 ?_
                    refine lv_if_ne (tgt := 259) hx hb dL_turn_249 (by decide) (fun c_249 => ?_) (fun c_249 => ?_)
                    · have h := h.1 c_249
                      refine lv_aload_n hx hb dL_turn_259 rfl (lv_at hl 0 rfl) ?_
                      refine kc_Vi0 (As := []) (rest := []) S hE (ctX6_retreat l G cy g a b t vn vf vs vp vq vd vo un uf us up uq ud uo tm tx hc hh ss sv  _ h) q_17_17 q_17_18 q_17_19 q_1_2 q_17_20 rfl 0 rfl rfl ydX6_retreat ⟨⟨rfl, rfl⟩, ⟨Nat.le_of_ble_eq_true rfl, Nat.le_of_ble_eq_true rfl⟩⟩ ⟨Nat.zero_le _, Nat.zero_le _⟩ hP hD hS rfl hl.1 rfl (Nat.le_of_ble_eq_true rfl) dL_turn_260 (fun r_260 u_260 H locs h hP hD hS => ?_)
                      exact W.iret (v := r_260) hx hb hr (fun t ht hW => ⟨⟨r_260, (u_260.1, u_260.2.1, vs, vp, vq, vd, u_260.2.2.1, u_260.2.2.2.1, u_260.2.2.2.2), rfl, h, ⟨hp_at ht hP, hD⟩⟩, hS.F ht⟩) hS.2.2 dL_turn_263
                    · have h := h.2 c_249
                      refine lv_aload_n hx hb dL_turn_252 rfl (lv_at hl 0 rfl) ?_
                      refine kc_Vi0 (As := []) (rest := []) S hE (ctX6_release l G cy g a b t vn vf vs vp vq vd vo un uf us up uq ud uo tm tx hc hh ss sv  _ h) q_17_13 q_17_14 q_17_15 q_1_2 q_17_16 rfl 0 rfl rfl ydX6_release ⟨⟨rfl, rfl⟩, ⟨Nat.le_of_ble_eq_true rfl, Nat.le_of_ble_eq_true rfl⟩⟩ ⟨Nat.zero_le _, Nat.zero_le _⟩ hP hD hS rfl hl.1 rfl (Nat.le_of_ble_eq_true rfl) dL_turn_253 (fun r_253 u_253 H locs h hP hD hS => ?_)
                      refine lv_goto (tgt := 263) hx hb dL_turn_256 (by decide) ?_
                      exact W.iret (v := r_253) hx hb hr (fun t ht hW => ⟨⟨r_253, (u_253.1, u_253.2.1, vs, vp, vq, vd, u_253.2.2.1, u_253.2.2.2.1, u_253.2.2.2.2), rfl, h, ⟨hp_at ht hP, hD⟩⟩, hS.F ht⟩) hS.2.2 dL_turn_263
                  · have h := h.2 c_1_8
                    rcases Classical.em (p1 = (9 : Int32)) with c_1_9 | c_1_9
                    · have h := h.1 c_1_9
                      refine lv_tableIn (tgt := 264) hx hb dL_turn_1 (by rw [c_1_9]; decide) (by rw [c_1_9]; decide) (by rw [c_1_9]; try rfl) (by decide) ?_
                      refine lv_aload_n hx hb dL_turn_264 rfl (lv_at hl 0 rfl) ?_
                      refine lv_iload_n hx hb dL_turn_265 rfl (lv_at hl 2 rfl) ?_
                      refine lv_iconst (v := (4 : Int32)) hx hb dL_turn_266 (by decide) ?_
                      refine kc_SiE (As := [.int p2, .int (4 : Int32)]) (rest := [.ref (g 0)]) S hE (ctL_up l G cy   p2 (4 : Int32) _ h) q_9_21 q_9_22 q_4_8 q_9_23 ydL_up ⟨⟨rfl, rfl⟩, ⟨Nat.le_of_ble_eq_true rfl, Nat.le_of_ble_eq_true rfl⟩⟩ ⟨Nat.zero_le _, Nat.zero_le _⟩ hP hD hS (fun _ => rfl) rfl hl.1 rfl (Nat.le_of_ble_eq_true rfl) dL_turn_267 (fun r_267 u_267 H locs h hP hD hS => ?_)
                      refine kc_Vi0 (As := [.int r_267]) (rest := []) S hE (ctX6_open l G cy g a b t vn vf vs vp vq vd vo un uf us up uq ud uo tm tx hc hh ss sv r_267 _ h) q_17_21 q_17_22 q_17_23 q_1_2 q_18_0 rfl 0 rfl rfl ydX6_open ⟨⟨rfl, rfl⟩, ⟨Nat.le_of_ble_eq_true rfl, Nat.le_of_ble_eq_true rfl⟩⟩ ⟨Nat.zero_le _, Nat.zero_le _⟩ hP hD hS rfl hl.1 rfl (Nat.le_of_ble_eq_true rfl) dL_turn_270 (fun r_270 u_270 H locs h hP hD hS => ?_)
                      exact W.iret (v := r_270) hx hb hr (fun t ht hW => ⟨⟨r_270, (u_270.1, u_270.2.1, vs, vp, vq, vd, u_270.2.2.1, u_270.2.2.2.1, u_270.2.2.2.2), rfl, h, ⟨hp_at ht hP, hD⟩⟩, hS.F ht⟩) hS.2.2 dL_turn_273
                    · have h := h.2 c_1_9
                      rcases Classical.em (p1 = (10 : Int32)) with c_1_10 | c_1_10
                      · have h := h.1 c_1_10
                        refine lv_tableIn (tgt := 274) hx hb dL_turn_1 (by rw [c_1_10]; decide) (by rw [c_1_10]; decide) (by rw [c_1_10]; try rfl) (by decide) ?_
                        exact J_274 _ _ _ _ _ _ _ _ _ _ _ _ _ h _ _ _ hP hD hS (lv_sub hl [0, 2, 3] rfl)
                      · have h := h.2 c_1_10
                        rcases Classical.em (p1 = (11 : Int32)) with c_1_11 | c_1_11
                        · have h := h.1 c_1_11
                          refine lv_tableIn (tgt := 274) hx hb dL_turn_1 (by rw [c_1_11]; decide) (by rw [c_1_11]; decide) (by rw [c_1_11]; try rfl) (by decide) ?_
                          exact J_274 _ _ _ _ _ _ _ _ _ _ _ _ _ h _ _ _ hP hD hS (lv_sub hl [0, 2, 3] rfl)
                        · have h := h.2 c_1_11
                          rcases Classical.em (p1 = (12 : Int32)) with c_1_12 | c_1_12
                          · have h := h.1 c_1_12
                            refine lv_tableIn (tgt := 274) hx hb dL_turn_1 (by rw [c_1_12]; decide) (by rw [c_1_12]; decide) (by rw [c_1_12]; try rfl) (by decide) ?_
                            exact J_274 _ _ _ _ _ _ _ _ _ _ _ _ _ h _ _ _ hP hD hS (lv_sub hl [0, 2, 3] rfl)
                          · have h := h.2 c_1_12
                            rcases Classical.em (p1 = (13 : Int32)) with c_1_13 | c_1_13
                            · have h := h.1 c_1_13
                              refine lv_tableIn (tgt := 274) hx hb dL_turn_1 (by rw [c_1_13]; decide) (by rw [c_1_13]; decide) (by rw [c_1_13]; try rfl) (by decide) ?_
                              exact J_274 _ _ _ _ _ _ _ _ _ _ _ _ _ h _ _ _ hP hD hS (lv_sub hl [0, 2, 3] rfl)
                            · have h := h.2 c_1_13
                              rcases Classical.em (p1 = (14 : Int32)) with c_1_14 | c_1_14
                              · have h := h.1 c_1_14
                                refine lv_tableIn (tgt := 299) hx hb dL_turn_1 (by rw [c_1_14]; decide) (by rw [c_1_14]; decide) (by rw [c_1_14]; try rfl) (by decide) ?_
                                refine lv_aload_n hx hb dL_turn_299 rfl (lv_at hl 0 rfl) ?_
                                refine lv_iload_n hx hb dL_turn_300 rfl (lv_at hl 2 rfl) ?_
                                refine lv_iconst (v := (2 : Int32)) hx hb dL_turn_301 (by decide) ?_
                                refine kc_SiE (As := [.int p2, .int (2 : Int32)]) (rest := [.ref (g 0)]) S hE (ctL_up l G cy   p2 (2 : Int32) _ h) q_9_21 q_9_22 q_4_8 q_9_23 ydL_up ⟨⟨rfl, rfl⟩, ⟨Nat.le_of_ble_eq_true rfl, Nat.le_of_ble_eq_true rfl⟩⟩ ⟨Nat.zero_le _, Nat.zero_le _⟩ hP hD hS (fun _ => rfl) rfl hl.1 rfl (Nat.le_of_ble_eq_true rfl) dL_turn_302 (fun r_302 u_302 H locs h hP hD hS => ?_)
                                refine kc_Vi0 (As := [.int r_302]) (rest := []) S hE (ctX6_open l G cy g a b t vn vf vs vp vq vd vo un uf us up uq ud uo tm tx hc hh ss sv r_302 _ h) q_17_21 q_17_22 q_17_23 q_1_2 q_18_0 rfl 0 rfl rfl ydX6_open ⟨⟨rfl, rfl⟩, ⟨Nat.le_of_ble_eq_true rfl, Nat.le_of_ble_eq_true rfl⟩⟩ ⟨Nat.zero_le _, Nat.zero_le _⟩ hP hD hS rfl hl.1 rfl (Nat.le_of_ble_eq_true rfl) dL_turn_305 (fun r_305 u_305 H locs h hP hD hS => ?_)
                                exact W.iret (v := r_305) hx hb hr (fun t ht hW => ⟨⟨r_305, (u_305.1, u_305.2.1, vs, vp, vq, vd, u_305.2.2.1, u_305.2.2.2.1, u_305.2.2.2.2), rfl, h, ⟨hp_at ht hP, hD⟩⟩, hS.F ht⟩) hS.2.2 dL_turn_308
                              · have h := h.2 c_1_14
                                have n_0 := lv_neT c_1_0 (a := 0) (by decide)
                                have n_1 := lv_neT c_1_1 (a := 1) (by decide)
                                have n_2 := lv_neT c_1_2 (a := 2) (by decide)
                                have n_3 := lv_neT c_1_3 (a := 3) (by decide)
                                have n_4 := lv_neT c_1_4 (a := 4) (by decide)
                                have n_5 := lv_neT c_1_5 (a := 5) (by decide)
                                have n_6 := lv_neT c_1_6 (a := 6) (by decide)
                                have n_7 := lv_neT c_1_7 (a := 7) (by decide)
                                have n_8 := lv_neT c_1_8 (a := 8) (by decide)
                                have n_9 := lv_neT c_1_9 (a := 9) (by decide)
                                have n_10 := lv_neT c_1_10 (a := 10) (by decide)
                                have n_11 := lv_neT c_1_11 (a := 11) (by decide)
                                have n_12 := lv_neT c_1_12 (a := 12) (by decide)
                                have n_13 := lv_neT c_1_13 (a := 13) (by decide)
                                have n_14 := lv_neT c_1_14 (a := 14) (by decide)
                                refine lv_tableOut (tgt := 309) hx hb dL_turn_1 (by omega) (by decide) ?_
                                refine lv_aload_n hx hb dL_turn_309 rfl (lv_at hl 0 rfl) ?_
                                refine lv_iload_n hx hb dL_turn_310 rfl (lv_at hl 2 rfl) ?_
                                refine lv_iload_n hx hb dL_turn_311 rfl (lv_at hl 3 rfl) ?_
                                refine kc_Si0X (As := [.ref (g 0), .int p2, .int p3]) (rest := []) S hE xST_ok (ctL_any l G cy g a b t vn vf vs vp vq vd vo un uf us up uq ud uo tm tx hc hh ss sv p2 p3 _ h) q_18_5 q_18_6 q_4_8 q_18_7 ydL_any ⟨⟨rfl, rfl⟩, ⟨Nat.le_of_ble_eq_true rfl, Nat.le_of_ble_eq_true rfl⟩⟩ ⟨Nat.zero_le _, Nat.zero_le _⟩ hP hD hS (xST_at hEx hS (fx_free hD)) rfl hl.1 rfl (Nat.le_of_ble_eq_true rfl) dL_turn_312 (fun r_312 u_312 H locs h hP hD hS => ?_)
                                exact W.iret (v := r_312) hx hb hr (fun t ht hW => ⟨⟨r_312, (u_312.1, u_312.2.1, u_312.2.2.1, u_312.2.2.2.1, u_312.2.2.2.2.1, u_312.2.2.2.2.2.1, u_312.2.2.2.2.2.2.1, u_312.2.2.2.2.2.2.2.1, u_312.2.2.2.2.2.2.2.2), rfl, h, ⟨hp_at ht hP, hD⟩⟩, hS.F ht⟩) hS.2.2 dL_turn_315
