def vL_isRight_212 (vn : Nat → Int32) (vf : Nat → UInt32) (vs : Nat → Int32) (vp : Nat → Int32) (vq : Nat → Int32) (vd : Nat → Int32) (vo : Nat → Int32) (tm : Nat → Int32) (hc : Nat → Int32) (x1 : Int32) (x4 : Int32) (x5 : Int32) (x6 : Int32) (y0 : Int32) (K : Int32 → Unit → Prop) (B141 : Int32 → Int32 → Int32 → Int32 → Prop) : Prop :=
  B141 y0 x4 x5 (x6 + (1 : Int32))
def vL_isRight_207 (vn : Nat → Int32) (vf : Nat → UInt32) (vs : Nat → Int32) (vp : Nat → Int32) (vq : Nat → Int32) (vd : Nat → Int32) (vo : Nat → Int32) (tm : Nat → Int32) (hc : Nat → Int32) (x1 : Int32) (x4 : Int32) (x5 : Int32) (x6 : Int32) (K : Int32 → Unit → Prop) (B141 : Int32 → Int32 → Int32 → Int32 → Prop) : Prop :=
  vL_isRight_212 vn vf vs vp vq vd vo tm hc x1 x4 x5 x6 (1 : Int32) K B141
def vL_isRight_211 (vn : Nat → Int32) (vf : Nat → UInt32) (vs : Nat → Int32) (vp : Nat → Int32) (vq : Nat → Int32) (vd : Nat → Int32) (vo : Nat → Int32) (tm : Nat → Int32) (hc : Nat → Int32) (x1 : Int32) (x4 : Int32) (x5 : Int32) (x6 : Int32) (K : Int32 → Unit → Prop) (B141 : Int32 → Int32 → Int32 → Int32 → Prop) : Prop :=
  vL_isRight_212 vn vf vs vp vq vd vo tm hc x1 x4 x5 x6 (0 : Int32) K B141
def vL_isRight_291 (vn : Nat → Int32) (vf : Nat → UInt32) (vs : Nat → Int32) (vp : Nat → Int32) (vq : Nat → Int32) (vd : Nat → Int32) (vo : Nat → Int32) (tm : Nat → Int32) (hc : Nat → Int32) (y1 : Int32) (K : Int32 → Unit → Prop)  : Prop :=
  vX6_bits vn vf vp vq y1 (fun r_291 u_291 => vX6_bits vn vf vp vq (4 : Int32) (fun r_296 u_296 => (¬ r_291 = r_296 → K (0 : Int32) ()) ∧ (r_291 = r_296 → vX6_judgement vn vf vs vp vq (fun r_303 u_303 => (r_303 < (0 : Int32) → K (0 : Int32) ()) ∧ (¬ r_303 < (0 : Int32) → vX6_judgement vn vf vs vp vq (fun r_310 u_310 => ((8 : Int32) ≤ r_310 → K (0 : Int32) ()) ∧ (¬ (8 : Int32) ≤ r_310 → K (1 : Int32) ())))))))
def vL_isRight_252 (vn : Nat → Int32) (vf : Nat → UInt32) (vs : Nat → Int32) (vp : Nat → Int32) (vq : Nat → Int32) (vd : Nat → Int32) (vo : Nat → Int32) (tm : Nat → Int32) (hc : Nat → Int32) (x4 : Int32) (x5 : Int32) (y0 : Int32) (K : Int32 → Unit → Prop)  : Prop :=
  (y0 = (0 : Int32) → K (0 : Int32) ()) ∧ (¬ y0 = (0 : Int32) → ((1 : Int32) < x4 → K (0 : Int32) ()) ∧ (¬ (1 : Int32) < x4 → vX6_total vn vf vs vd vo tm hc (8 : Int32) (fun r_268 u_268 => (¬ x5 = r_268 → K (0 : Int32) ()) ∧ (x5 = r_268 → vX6_total vn vf vs vd vo tm hc (4 : Int32) (fun r_277 u_277 => (¬ r_277 = (1 : Int32) → vL_isRight_291 vn vf vs vp vq vd vo tm hc (6 : Int32) K ) ∧ (r_277 = (1 : Int32) → vL_isRight_291 vn vf vs vp vq vd vo tm hc (7 : Int32) K ))))))
def vL_isRight_247 (vn : Nat → Int32) (vf : Nat → UInt32) (vs : Nat → Int32) (vp : Nat → Int32) (vq : Nat → Int32) (vd : Nat → Int32) (vo : Nat → Int32) (tm : Nat → Int32) (hc : Nat → Int32) (x4 : Int32) (x5 : Int32) (K : Int32 → Unit → Prop)  : Prop :=
  vL_isRight_252 vn vf vs vp vq vd vo tm hc x4 x5 (1 : Int32) K 
def vL_isRight_251 (vn : Nat → Int32) (vf : Nat → UInt32) (vs : Nat → Int32) (vp : Nat → Int32) (vq : Nat → Int32) (vd : Nat → Int32) (vo : Nat → Int32) (tm : Nat → Int32) (hc : Nat → Int32) (x4 : Int32) (x5 : Int32) (K : Int32 → Unit → Prop)  : Prop :=
  vL_isRight_252 vn vf vs vp vq vd vo tm hc x4 x5 (0 : Int32) K 
def vL_isRight_141b (vn : Nat → Int32) (vf : Nat → UInt32) (vs : Nat → Int32) (vp : Nat → Int32) (vq : Nat → Int32) (vd : Nat → Int32) (vo : Nat → Int32) (tm : Nat → Int32) (hc : Nat → Int32) (x1 : Int32) (K : Int32 → Unit → Prop)  (B141 : Int32 → Int32 → Int32 → Int32 → Prop) (x3 : Int32) (x4 : Int32) (x5 : Int32) (x6 : Int32) : Prop :=
  vX6_total vn vf vs vd vo tm hc (7 : Int32) (fun r_146 u_146 => (r_146 ≤ x6 → vX6_total vn vf vs vd vo tm hc (5 : Int32) (fun r_221 u_221 => (x3 = (0 : Int32) → vL_isRight_251 vn vf vs vp vq vd vo tm hc x4 x5 K ) ∧ (¬ x3 = (0 : Int32) → (r_221 = (-5 : Int32) → vL_isRight_247 vn vf vs vp vq vd vo tm hc x4 x5 K ) ∧ (¬ r_221 = (-5 : Int32) → vX6_stop vn vd vo r_221 (1 : Int32) (fun r_241 u_241 => (¬ r_241 = (0 : Int32) → vL_isRight_251 vn vf vs vp vq vd vo tm hc x4 x5 K ) ∧ (r_241 = (0 : Int32) → vL_isRight_247 vn vf vs vp vq vd vo tm hc x4 x5 K )))))) ∧ (¬ r_146 ≤ x6 → vX6_stop vn vd vo x6 (2 : Int32) (fun r_158 u_158 => vX6_stop vn vd vo x6 (1 : Int32) (fun r_171 u_171 => (x3 = (0 : Int32) → vL_isRight_211 vn vf vs vp vq vd vo tm hc x1 (x4 + r_158) (x5 + ((1 : Int32) - r_171)) x6 K B141) ∧ (¬ x3 = (0 : Int32) → vX6_stop vn vd vo x6 (2 : Int32) (fun r_186 u_186 => (r_186 = (0 : Int32) → vL_isRight_207 vn vf vs vp vq vd vo tm hc x1 (x4 + r_158) (x5 + ((1 : Int32) - r_171)) x6 K B141) ∧ (¬ r_186 = (0 : Int32) → vX6_stop vn vd vo x6 (1 : Int32) (fun r_196 u_196 => (¬ r_196 = (0 : Int32) → vL_isRight_211 vn vf vs vp vq vd vo tm hc x1 (x4 + r_158) (x5 + ((1 : Int32) - r_171)) x6 K B141) ∧ (r_196 = (0 : Int32) → (¬ x1 = (2 : Int32) → vL_isRight_211 vn vf vs vp vq vd vo tm hc x1 (x4 + r_158) (x5 + ((1 : Int32) - r_171)) x6 K B141) ∧ (x1 = (2 : Int32) → vL_isRight_207 vn vf vs vp vq vd vo tm hc x1 (x4 + r_158) (x5 + ((1 : Int32) - r_171)) x6 K B141))))))))))
def vL_isRight_141F (vn : Nat → Int32) (vf : Nat → UInt32) (vs : Nat → Int32) (vp : Nat → Int32) (vq : Nat → Int32) (vd : Nat → Int32) (vo : Nat → Int32) (tm : Nat → Int32) (hc : Nat → Int32) (x1 : Int32) (K : Int32 → Unit → Prop)  : ((Int32 × Int32 × Int32 × Int32) → Prop) → (Int32 × Int32 × Int32 × Int32) → Prop := fun B z => vL_isRight_141b vn vf vs vp vq vd vo tm hc x1 K  (fun z0 z1 z2 z3 => B (z0, z1, z2, z3)) z.1 z.2.1 z.2.2.1 z.2.2.2
def vL_isRight_131 (vn : Nat → Int32) (vf : Nat → UInt32) (vs : Nat → Int32) (vp : Nat → Int32) (vq : Nat → Int32) (vd : Nat → Int32) (vo : Nat → Int32) (tm : Nat → Int32) (hc : Nat → Int32) (x1 : Int32) (y0 : Int32) (K : Int32 → Unit → Prop)  : Prop :=
  ∃ k, lp (vL_isRight_141F vn vf vs vp vq vd vo tm hc x1 K ) k (y0, (0 : Int32), (0 : Int32), (0 : Int32))
def vL_isRight_126 (vn : Nat → Int32) (vf : Nat → UInt32) (vs : Nat → Int32) (vp : Nat → Int32) (vq : Nat → Int32) (vd : Nat → Int32) (vo : Nat → Int32) (tm : Nat → Int32) (hc : Nat → Int32) (x1 : Int32) (K : Int32 → Unit → Prop)  : Prop :=
  vL_isRight_131 vn vf vs vp vq vd vo tm hc x1 (1 : Int32) K 
def vL_isRight_130 (vn : Nat → Int32) (vf : Nat → UInt32) (vs : Nat → Int32) (vp : Nat → Int32) (vq : Nat → Int32) (vd : Nat → Int32) (vo : Nat → Int32) (tm : Nat → Int32) (hc : Nat → Int32) (x1 : Int32) (K : Int32 → Unit → Prop)  : Prop :=
  vL_isRight_131 vn vf vs vp vq vd vo tm hc x1 (0 : Int32) K 
def vL_isRight_71 (vn : Nat → Int32) (vf : Nat → UInt32) (vs : Nat → Int32) (vp : Nat → Int32) (vq : Nat → Int32) (vd : Nat → Int32) (vo : Nat → Int32) (tm : Nat → Int32) (hc : Nat → Int32) (x1 : Int32) (y0 : Int32) (K : Int32 → Unit → Prop)  : Prop :=
  (y0 = (0 : Int32) → vL_isRight_130 vn vf vs vp vq vd vo tm hc x1 K ) ∧ (¬ y0 = (0 : Int32) → vX6_total vn vf vs vd vo tm hc (2 : Int32) (fun r_78 u_78 => (r_78 < (0 : Int32) → vL_isRight_130 vn vf vs vp vq vd vo tm hc x1 K ) ∧ (¬ r_78 < (0 : Int32) → vX6_total vn vf vs vd vo tm hc (2 : Int32) (fun r_86 u_86 => ((2 : Int32) ≤ r_86 → vL_isRight_130 vn vf vs vp vq vd vo tm hc x1 K ) ∧ (¬ (2 : Int32) ≤ r_86 → vX6_total vn vf vs vd vo tm hc (3 : Int32) (fun r_95 u_95 => (r_95 < (0 : Int32) → vL_isRight_130 vn vf vs vp vq vd vo tm hc x1 K ) ∧ (¬ r_95 < (0 : Int32) → vX6_total vn vf vs vd vo tm hc (3 : Int32) (fun r_103 u_103 => ((3 : Int32) ≤ r_103 → vL_isRight_130 vn vf vs vp vq vd vo tm hc x1 K ) ∧ (¬ (3 : Int32) ≤ r_103 → vX6_total vn vf vs vd vo tm hc (4 : Int32) (fun r_112 u_112 => (r_112 = (0 : Int32) → vL_isRight_126 vn vf vs vp vq vd vo tm hc x1 K ) ∧ (¬ r_112 = (0 : Int32) → vX6_total vn vf vs vd vo tm hc (3 : Int32) (fun r_120 u_120 => (¬ r_120 = (0 : Int32) → vL_isRight_130 vn vf vs vp vq vd vo tm hc x1 K ) ∧ (r_120 = (0 : Int32) → vL_isRight_126 vn vf vs vp vq vd vo tm hc x1 K )))))))))))))
def vL_isRight_66 (vn : Nat → Int32) (vf : Nat → UInt32) (vs : Nat → Int32) (vp : Nat → Int32) (vq : Nat → Int32) (vd : Nat → Int32) (vo : Nat → Int32) (tm : Nat → Int32) (hc : Nat → Int32) (x1 : Int32) (K : Int32 → Unit → Prop)  : Prop :=
  vL_isRight_71 vn vf vs vp vq vd vo tm hc x1 (1 : Int32) K 
def vL_isRight_70 (vn : Nat → Int32) (vf : Nat → UInt32) (vs : Nat → Int32) (vp : Nat → Int32) (vq : Nat → Int32) (vd : Nat → Int32) (vo : Nat → Int32) (tm : Nat → Int32) (hc : Nat → Int32) (x1 : Int32) (K : Int32 → Unit → Prop)  : Prop :=
  vL_isRight_71 vn vf vs vp vq vd vo tm hc x1 (0 : Int32) K 
def vL_isRight_16 (vn : Nat → Int32) (vf : Nat → UInt32) (vs : Nat → Int32) (vp : Nat → Int32) (vq : Nat → Int32) (vd : Nat → Int32) (vo : Nat → Int32) (tm : Nat → Int32) (hc : Nat → Int32) (x1 : Int32) (y0 : Int32) (K : Int32 → Unit → Prop)  : Prop :=
  (x1 < (0 : Int32) → vL_isRight_70 vn vf vs vp vq vd vo tm hc x1 K ) ∧ (¬ x1 < (0 : Int32) → ((6 : Int32) ≤ x1 → vL_isRight_70 vn vf vs vp vq vd vo tm hc x1 K ) ∧ (¬ (6 : Int32) ≤ x1 → (y0 = (0 : Int32) → vX6_bits vn vf vp vq (0 : Int32) (fun r_60 u_60 => (r_60 ≤ (0 : Int32) → vL_isRight_70 vn vf vs vp vq vd vo tm hc x1 K ) ∧ (¬ r_60 ≤ (0 : Int32) → vL_isRight_66 vn vf vs vp vq vd vo tm hc x1 K ))) ∧ (¬ y0 = (0 : Int32) → vX6_bits vn vf vp vq (0 : Int32) (fun r_33 u_33 => (¬ r_33 = (0 : Int32) → vL_isRight_70 vn vf vs vp vq vd vo tm hc x1 K ) ∧ (r_33 = (0 : Int32) → vX6_bits vn vf vp vq (2 : Int32) (fun r_41 u_41 => (¬ r_41 = (0 : Int32) → vL_isRight_70 vn vf vs vp vq vd vo tm hc x1 K ) ∧ (r_41 = (0 : Int32) → vX6_bits vn vf vp vq (3 : Int32) (fun r_49 u_49 => (¬ r_49 = (0 : Int32) → vL_isRight_70 vn vf vs vp vq vd vo tm hc x1 K ) ∧ (r_49 = (0 : Int32) → vL_isRight_66 vn vf vs vp vq vd vo tm hc x1 K )))))))))
def vL_isRight (vn : Nat → Int32) (vf : Nat → UInt32) (vs : Nat → Int32) (vp : Nat → Int32) (vq : Nat → Int32) (vd : Nat → Int32) (vo : Nat → Int32) (tm : Nat → Int32) (hc : Nat → Int32) (K : Int32 → Unit → Prop) : Prop :=
  vX6_total vn vf vs vd vo tm hc (0 : Int32) (fun r_2 u_2 => (r_2 ≤ (3 : Int32) → vL_isRight_16 vn vf vs vp vq vd vo tm hc r_2 (0 : Int32) K ) ∧ (¬ r_2 ≤ (3 : Int32) → vL_isRight_16 vn vf vs vp vq vd vo tm hc r_2 (1 : Int32) K ))
set_option maxRecDepth 100000 in
set_option maxHeartbeats 4000000 in
theorem ctL_isRight (l : Launch) (G : va_G) (cy : Nat → ClassId) (g : Nat → Nat) (a : Nat → Nat) (b : Nat → Nat) (t : Nat → Nat) (vn : Nat → Int32) (vf : Nat → UInt32) (vs : Nat → Int32) (vp : Nat → Int32) (vq : Nat → Int32) (vd : Nat → Int32) (vo : Nat → Int32) (un : Nat → Int32) (uf : Nat → UInt32) (us : Nat → Int32) (up : Nat → Int32) (uq : Nat → Int32) (ud : Nat → Int32) (uo : Nat → Int32) (tm : Nat → Int32) (tx : Nat → Int32) (hc : Nat → Int32) (hh : Nat → Sx) (ss : Nat → Sx) (sv : Nat → Int32)  (K : Int32 → Unit → Prop) (h : vL_isRight vn vf vs vp vq vd vo tm hc K) : Met l yL_isRight (ws_ yL_isRight cL_isRight 7 (some .boolean)) ({ frames := 4, cells := 0, slots := 0, locals := 89 } : Room) (CP G cy [.ref (g 0)] (mo_W cy g a b t vn vf vs vp vq vd vo un uf us up uq ud uo tm tx hc hh ss sv)) (RI G K (fun u => mo_W cy g a b t vn vf vs vp vq vd vo un uf us up uq ud uo tm tx hc hh ss sv) (A1 (mo_W cy g a b t vn vf vs vp vq vd vo un uf us up uq ud uo tm tx hc hh ss sv))) 0 0 (A1 (mo_W cy g a b t vn vf vs vp vq vd vo un uf us up uq ud uo tm tx hc hh ss sv)) := by
  refine hd_go (Qf := fun A => (RI G K (fun u => mo_W cy g a b t vn vf vs vp vq vd vo un uf us up uq ud uo tm tx hc hh ss sv) A)) (by decide +kernel) (Nat.le_of_ble_eq_true rfl) ?_
  intro p e s m below meth c ls A hx hb hr hlocks S hE hP hD hS hl
  have hl : lv_has ls 7 [(0, .ref (g 0))] := hl
  unfold vL_isRight at h
  have J_291 : ∀ (vn : Nat → Int32) (vf : Nat → UInt32) (vs : Nat → Int32) (vp : Nat → Int32) (vq : Nat → Int32) (vd : Nat → Int32) (vo : Nat → Int32) (tm : Nat → Int32) (hc : Nat → Int32) (y1 : Int32), vL_isRight_291 vn vf vs vp vq vd vo tm hc y1 K  → ∀ (H : Heap) (locs : List Loc) (ls : Array Slot), va_P G vwCl (mo_W cy g a b t vn vf vs vp vq vd vo un uf us up uq ud uo tm tx hc hh ss sv) H → va_D A (mo_W cy g a b t vn vf vs vp vq vd vo un uf us up uq ud uo tm tx hc hh ss sv) → va_S A s.heap H locs → lv_has ls 7 [(0, .ref (g 0))] → W p l e (headSpec (ws_ yL_isRight cL_isRight 7 (some .boolean)) ({ frames := 4, cells := 0, slots := 0, locals := 89 } : Room)).room s m ([.ref (g 0)] : List Value).toArray below meth c H locs 0 0 (MQ below (RI G K (fun u => mo_W cy g a b t vn vf vs vp vq vd vo un uf us up uq ud uo tm tx hc hh ss sv) A) ([.ref (g 0)] : List Value).toArray s 0 0 A) (F0 m 291 ls [.int y1, .ref (g 0)]) := by
    intro vn vf vs vp vq vd vo tm hc y1 h H locs ls hP hD hS hl
    unfold vL_isRight_291 at h
    refine kc_Vi0 (As := [.int y1]) (rest := []) S hE (ctX6_bits l G cy g a b t vn vf vs vp vq vd vo un uf us up uq ud uo tm tx hc hh ss sv y1 _ h) q_6_6 q_6_7 q_6_8 q_1_2 q_6_9 rfl 0 rfl rfl ydX6_bits ⟨⟨rfl, rfl⟩, ⟨Nat.le_of_ble_eq_true rfl, Nat.le_of_ble_eq_true rfl⟩⟩ ⟨Nat.zero_le _, Nat.zero_le _⟩ hP hD hS rfl hl.1 rfl (Nat.le_of_ble_eq_true rfl) dL_isRight_291 (fun r_291 u_291 H locs h hP hD hS => ?_)
    refine lv_aload_n hx hb dL_isRight_294 rfl (lv_at hl 0 rfl) ?_
    refine lv_iconst (v := (4 : Int32)) hx hb dL_isRight_295 (by decide) ?_
    refine kc_Vi0 (As := [.int (4 : Int32)]) (rest := [.int r_291]) S hE (ctX6_bits l G cy g a b t vn vf vs vp vq vd vo un uf us up uq ud uo tm tx hc hh ss sv (4 : Int32) _ h) q_6_6 q_6_7 q_6_8 q_1_2 q_6_9 rfl 0 rfl rfl ydX6_bits ⟨⟨rfl, rfl⟩, ⟨Nat.le_of_ble_eq_true rfl, Nat.le_of_ble_eq_true rfl⟩⟩ ⟨Nat.zero_le _, Nat.zero_le _⟩ hP hD hS rfl hl.1 rfl (Nat.le_of_ble_eq_true rfl) dL_isRight_296 (fun r_296 u_296 H locs h hP hD hS => ?_)
    refine lv_icmp_ne (tgt := 322) hx hb dL_isRight_299 (by decide) (fun c_299 => ?_) (fun c_299 => ?_)
    · have h := h.1 c_299
      refine lv_iconst (v := (0 : Int32)) hx hb dL_isRight_322 (by decide) ?_
      exact W.zret (v := (0 : Int32)) hx hb hr (by decide +kernel) (fun t ht hW => ⟨⟨(0 : Int32), (), rfl, h, ⟨hp_at ht hP, hD⟩⟩, hS.F ht⟩) hS.2.2 dL_isRight_323
    · have h := h.2 c_299
      refine lv_aload_n hx hb dL_isRight_302 rfl (lv_at hl 0 rfl) ?_
      refine kc_Vi0 (As := []) (rest := []) S hE (ctX6_judgement l G cy g a b t vn vf vs vp vq vd vo un uf us up uq ud uo tm tx hc hh ss sv  _ h) q_8_20 q_8_21 q_8_22 q_1_2 q_8_23 rfl 0 rfl rfl ydX6_judgement ⟨⟨rfl, rfl⟩, ⟨Nat.le_of_ble_eq_true rfl, Nat.le_of_ble_eq_true rfl⟩⟩ ⟨Nat.zero_le _, Nat.zero_le _⟩ hP hD hS rfl hl.1 rfl (Nat.le_of_ble_eq_true rfl) dL_isRight_303 (fun r_303 u_303 H locs h hP hD hS => ?_)
      refine lv_if_lt (tgt := 322) hx hb dL_isRight_306 (by decide) (fun c_306 => ?_) (fun c_306 => ?_)
      · have h := h.1 c_306
        refine lv_iconst (v := (0 : Int32)) hx hb dL_isRight_322 (by decide) ?_
        exact W.zret (v := (0 : Int32)) hx hb hr (by decide +kernel) (fun t ht hW => ⟨⟨(0 : Int32), (), rfl, h, ⟨hp_at ht hP, hD⟩⟩, hS.F ht⟩) hS.2.2 dL_isRight_323
      · have h := h.2 c_306
        refine lv_aload_n hx hb dL_isRight_309 rfl (lv_at hl 0 rfl) ?_
        refine kc_Vi0 (As := []) (rest := []) S hE (ctX6_judgement l G cy g a b t vn vf vs vp vq vd vo un uf us up uq ud uo tm tx hc hh ss sv  _ h) q_8_20 q_8_21 q_8_22 q_1_2 q_8_23 rfl 0 rfl rfl ydX6_judgement ⟨⟨rfl, rfl⟩, ⟨Nat.le_of_ble_eq_true rfl, Nat.le_of_ble_eq_true rfl⟩⟩ ⟨Nat.zero_le _, Nat.zero_le _⟩ hP hD hS rfl hl.1 rfl (Nat.le_of_ble_eq_true rfl) dL_isRight_310 (fun r_310 u_310 H locs h hP hD hS => ?_)
        refine lv_bipush (v := (8 : Int32)) hx hb dL_isRight_313 (by decide) ?_
        refine lv_icmp_ge (tgt := 322) hx hb dL_isRight_315 (by decide) (fun c_315 => ?_) (fun c_315 => ?_)
        · have h := h.1 c_315
          refine lv_iconst (v := (0 : Int32)) hx hb dL_isRight_322 (by decide) ?_
          exact W.zret (v := (0 : Int32)) hx hb hr (by decide +kernel) (fun t ht hW => ⟨⟨(0 : Int32), (), rfl, h, ⟨hp_at ht hP, hD⟩⟩, hS.F ht⟩) hS.2.2 dL_isRight_323
        · have h := h.2 c_315
          refine lv_iconst (v := (1 : Int32)) hx hb dL_isRight_318 (by decide) ?_
          refine lv_goto (tgt := 323) hx hb dL_isRight_319 (by decide) ?_
          exact W.zret (v := (1 : Int32)) hx hb hr (by decide +kernel) (fun t ht hW => ⟨⟨(1 : Int32), (), rfl, h, ⟨hp_at ht hP, hD⟩⟩, hS.F ht⟩) hS.2.2 dL_isRight_323
  have J_252 : ∀ (vn : Nat → Int32) (vf : Nat → UInt32) (vs : Nat → Int32) (vp : Nat → Int32) (vq : Nat → Int32) (vd : Nat → Int32) (vo : Nat → Int32) (tm : Nat → Int32) (hc : Nat → Int32) (x4 : Int32) (x5 : Int32) (y0 : Int32), vL_isRight_252 vn vf vs vp vq vd vo tm hc x4 x5 y0 K  → ∀ (H : Heap) (locs : List Loc) (ls : Array Slot), va_P G vwCl (mo_W cy g a b t vn vf vs vp vq vd vo un uf us up uq ud uo tm tx hc hh ss sv) H → va_D A (mo_W cy g a b t vn vf vs vp vq vd vo un uf us up uq ud uo tm tx hc hh ss sv) → va_S A s.heap H locs → lv_has ls 7 [(0, .ref (g 0)), (4, .int x4), (5, .int x5)] → W p l e (headSpec (ws_ yL_isRight cL_isRight 7 (some .boolean)) ({ frames := 4, cells := 0, slots := 0, locals := 89 } : Room)).room s m ([.ref (g 0)] : List Value).toArray below meth c H locs 0 0 (MQ below (RI G K (fun u => mo_W cy g a b t vn vf vs vp vq vd vo un uf us up uq ud uo tm tx hc hh ss sv) A) ([.ref (g 0)] : List Value).toArray s 0 0 A) (F0 m 252 ls [.int y0]) := by
    intro vn vf vs vp vq vd vo tm hc x4 x5 y0 h H locs ls hP hD hS hl
    unfold vL_isRight_252 at h
    refine lv_istore_n (lv' := [(3, .int y0), (0, .ref (g 0)), (4, .int x4), (5, .int x5)]) hx hb dL_isRight_252 rfl hl (by decide) rfl (fun ls hl => ?_)
    refine lv_iload_n hx hb dL_isRight_253 rfl (lv_at hl 0 rfl) ?_
    refine lv_if_eq (tgt := 322) hx hb dL_isRight_254 (by decide) (fun c_254 => ?_) (fun c_254 => ?_)
    · have h := h.1 c_254
      refine lv_iconst (v := (0 : Int32)) hx hb dL_isRight_322 (by decide) ?_
      exact W.zret (v := (0 : Int32)) hx hb hr (by decide +kernel) (fun t ht hW => ⟨⟨(0 : Int32), (), rfl, h, ⟨hp_at ht hP, hD⟩⟩, hS.F ht⟩) hS.2.2 dL_isRight_323
    · have h := h.2 c_254
      refine lv_iload hx hb dL_isRight_257 (lv_at hl 2 rfl) ?_
      refine lv_iconst (v := (1 : Int32)) hx hb dL_isRight_259 (by decide) ?_
      refine lv_icmp_gt (tgt := 322) hx hb dL_isRight_260 (by decide) (fun c_260 => ?_) (fun c_260 => ?_)
      · have h := h.1 c_260
        refine lv_iconst (v := (0 : Int32)) hx hb dL_isRight_322 (by decide) ?_
        exact W.zret (v := (0 : Int32)) hx hb hr (by decide +kernel) (fun t ht hW => ⟨⟨(0 : Int32), (), rfl, h, ⟨hp_at ht hP, hD⟩⟩, hS.F ht⟩) hS.2.2 dL_isRight_323
      · have h := h.2 c_260
        refine lv_iload hx hb dL_isRight_263 (lv_at hl 3 rfl) ?_
        refine lv_aload_n hx hb dL_isRight_265 rfl (lv_at hl 1 rfl) ?_
        refine lv_bipush (v := (8 : Int32)) hx hb dL_isRight_266 (by decide) ?_
        refine kc_Vi0 (As := [.int (8 : Int32)]) (rest := [.int x5]) S hE (ctX6_total l G cy g a b t vn vf vs vp vq vd vo un uf us up uq ud uo tm tx hc hh ss sv (8 : Int32) _ h) q_4_16 q_4_17 q_4_18 q_1_2 q_4_19 rfl 0 rfl rfl ydX6_total ⟨⟨rfl, rfl⟩, ⟨Nat.le_of_ble_eq_true rfl, Nat.le_of_ble_eq_true rfl⟩⟩ ⟨Nat.zero_le _, Nat.zero_le _⟩ hP hD hS rfl hl.1 rfl (Nat.le_of_ble_eq_true rfl) dL_isRight_268 (fun r_268 u_268 H locs h hP hD hS => ?_)
        refine lv_icmp_ne (tgt := 322) hx hb dL_isRight_271 (by decide) (fun c_271 => ?_) (fun c_271 => ?_)
        · have h := h.1 c_271
          refine lv_iconst (v := (0 : Int32)) hx hb dL_isRight_322 (by decide) ?_
          exact W.zret (v := (0 : Int32)) hx hb hr (by decide +kernel) (fun t ht hW => ⟨⟨(0 : Int32), (), rfl, h, ⟨hp_at ht hP, hD⟩⟩, hS.F ht⟩) hS.2.2 dL_isRight_323
        · have h := h.2 c_271
          refine lv_aload_n hx hb dL_isRight_274 rfl (lv_at hl 1 rfl) ?_
          refine lv_aload_n hx hb dL_isRight_275 rfl (lv_at hl 1 rfl) ?_
          refine lv_iconst (v := (4 : Int32)) hx hb dL_isRight_276 (by decide) ?_
          refine kc_Vi0 (As := [.int (4 : Int32)]) (rest := [.ref (g 0)]) S hE (ctX6_total l G cy g a b t vn vf vs vp vq vd vo un uf us up uq ud uo tm tx hc hh ss sv (4 : Int32) _ h) q_4_16 q_4_17 q_4_18 q_1_2 q_4_19 rfl 0 rfl rfl ydX6_total ⟨⟨rfl, rfl⟩, ⟨Nat.le_of_ble_eq_true rfl, Nat.le_of_ble_eq_true rfl⟩⟩ ⟨Nat.zero_le _, Nat.zero_le _⟩ hP hD hS rfl hl.1 rfl (Nat.le_of_ble_eq_true rfl) dL_isRight_277 (fun r_277 u_277 H locs h hP hD hS => ?_)
          refine lv_iconst (v := (1 : Int32)) hx hb dL_isRight_280 (by decide) ?_
          refine lv_icmp_ne (tgt := 289) hx hb dL_isRight_281 (by decide) (fun c_281 => ?_) (fun c_281 => ?_)
          · have h := h.1 c_281
            refine lv_bipush (v := (6 : Int32)) hx hb dL_isRight_289 (by decide) ?_
            exact J_291 _ _ _ _ _ _ _ _ _ _ h _ _ _ hP hD hS (lv_sub hl [1] rfl)
          · have h := h.2 c_281
            refine lv_bipush (v := (7 : Int32)) hx hb dL_isRight_284 (by decide) ?_
            refine lv_goto (tgt := 291) hx hb dL_isRight_286 (by decide) ?_
            exact J_291 _ _ _ _ _ _ _ _ _ _ h _ _ _ hP hD hS (lv_sub hl [1] rfl)
  have J_247 : ∀ (vn : Nat → Int32) (vf : Nat → UInt32) (vs : Nat → Int32) (vp : Nat → Int32) (vq : Nat → Int32) (vd : Nat → Int32) (vo : Nat → Int32) (tm : Nat → Int32) (hc : Nat → Int32) (x4 : Int32) (x5 : Int32), vL_isRight_247 vn vf vs vp vq vd vo tm hc x4 x5 K  → ∀ (H : Heap) (locs : List Loc) (ls : Array Slot), va_P G vwCl (mo_W cy g a b t vn vf vs vp vq vd vo un uf us up uq ud uo tm tx hc hh ss sv) H → va_D A (mo_W cy g a b t vn vf vs vp vq vd vo un uf us up uq ud uo tm tx hc hh ss sv) → va_S A s.heap H locs → lv_has ls 7 [(0, .ref (g 0)), (4, .int x4), (5, .int x5)] → W p l e (headSpec (ws_ yL_isRight cL_isRight 7 (some .boolean)) ({ frames := 4, cells := 0, slots := 0, locals := 89 } : Room)).room s m ([.ref (g 0)] : List Value).toArray below meth c H locs 0 0 (MQ below (RI G K (fun u => mo_W cy g a b t vn vf vs vp vq vd vo un uf us up uq ud uo tm tx hc hh ss sv) A) ([.ref (g 0)] : List Value).toArray s 0 0 A) (F0 m 247 ls []) := by
    intro vn vf vs vp vq vd vo tm hc x4 x5 h H locs ls hP hD hS hl
    unfold vL_isRight_247 at h
    refine lv_iconst (v := (1 : Int32)) hx hb dL_isRight_247 (by decide) ?_
    refine lv_goto (tgt := 252) hx hb dL_isRight_248 (by decide) ?_
    exact J_252 _ _ _ _ _ _ _ _ _ _ _ _ h _ _ _ hP hD hS (lv_sub hl [0, 1, 2] rfl)
  have J_251 : ∀ (vn : Nat → Int32) (vf : Nat → UInt32) (vs : Nat → Int32) (vp : Nat → Int32) (vq : Nat → Int32) (vd : Nat → Int32) (vo : Nat → Int32) (tm : Nat → Int32) (hc : Nat → Int32) (x4 : Int32) (x5 : Int32), vL_isRight_251 vn vf vs vp vq vd vo tm hc x4 x5 K  → ∀ (H : Heap) (locs : List Loc) (ls : Array Slot), va_P G vwCl (mo_W cy g a b t vn vf vs vp vq vd vo un uf us up uq ud uo tm tx hc hh ss sv) H → va_D A (mo_W cy g a b t vn vf vs vp vq vd vo un uf us up uq ud uo tm tx hc hh ss sv) → va_S A s.heap H locs → lv_has ls 7 [(0, .ref (g 0)), (4, .int x4), (5, .int x5)] → W p l e (headSpec (ws_ yL_isRight cL_isRight 7 (some .boolean)) ({ frames := 4, cells := 0, slots := 0, locals := 89 } : Room)).room s m ([.ref (g 0)] : List Value).toArray below meth c H locs 0 0 (MQ below (RI G K (fun u => mo_W cy g a b t vn vf vs vp vq vd vo un uf us up uq ud uo tm tx hc hh ss sv) A) ([.ref (g 0)] : List Value).toArray s 0 0 A) (F0 m 251 ls []) := by
    intro vn vf vs vp vq vd vo tm hc x4 x5 h H locs ls hP hD hS hl
    unfold vL_isRight_251 at h
    refine lv_iconst (v := (0 : Int32)) hx hb dL_isRight_251 (by decide) ?_
    exact J_252 _ _ _ _ _ _ _ _ _ _ _ _ h _ _ _ hP hD hS (lv_sub hl [0, 1, 2] rfl)
  have L_141 : ∀ (vn : Nat → Int32) (vf : Nat → UInt32) (vs : Nat → Int32) (vp : Nat → Int32) (vq : Nat → Int32) (vd : Nat → Int32) (vo : Nat → Int32) (tm : Nat → Int32) (hc : Nat → Int32) (x1 : Int32) (k_141 : Nat) (x3 : Int32) (x4 : Int32) (x5 : Int32) (x6 : Int32), lp (vL_isRight_141F vn vf vs vp vq vd vo tm hc x1 K ) k_141 (x3, x4, x5, x6) → ∀ (H : Heap) (locs : List Loc) (ls : Array Slot), va_P G vwCl (mo_W cy g a b t vn vf vs vp vq vd vo un uf us up uq ud uo tm tx hc hh ss sv) H → va_D A (mo_W cy g a b t vn vf vs vp vq vd vo un uf us up uq ud uo tm tx hc hh ss sv) → va_S A s.heap H locs → lv_has ls 7 [(0, .ref (g 0)), (1, .int x1), (3, .int x3), (4, .int x4), (5, .int x5), (6, .int x6)] → W p l e (headSpec (ws_ yL_isRight cL_isRight 7 (some .boolean)) ({ frames := 4, cells := 0, slots := 0, locals := 89 } : Room)).room s m ([.ref (g 0)] : List Value).toArray below meth c H locs 0 0 (MQ below (RI G K (fun u => mo_W cy g a b t vn vf vs vp vq vd vo un uf us up uq ud uo tm tx hc hh ss sv) A) ([.ref (g 0)] : List Value).toArray s 0 0 A) (F0 m 141 ls []) := by
    intro vn vf vs vp vq vd vo tm hc x1 k_141
    induction k_141 with
    | zero => intro x3 x4 x5 x6 h; exact h.elim
    | succ k_141 ih_141 =>
      have J_212 : ∀ (x4 : Int32) (x5 : Int32) (x6 : Int32) (y0 : Int32), vL_isRight_212 vn vf vs vp vq vd vo tm hc x1 x4 x5 x6 y0 K (fun z0 z1 z2 z3 => lp (vL_isRight_141F vn vf vs vp vq vd vo tm hc x1 K ) k_141 (z0, z1, z2, z3)) → ∀ (H : Heap) (locs : List Loc) (ls : Array Slot), va_P G vwCl (mo_W cy g a b t vn vf vs vp vq vd vo un uf us up uq ud uo tm tx hc hh ss sv) H → va_D A (mo_W cy g a b t vn vf vs vp vq vd vo un uf us up uq ud uo tm tx hc hh ss sv) → va_S A s.heap H locs → lv_has ls 7 [(0, .ref (g 0)), (1, .int x1), (4, .int x4), (5, .int x5), (6, .int x6)] → W p l e (headSpec (ws_ yL_isRight cL_isRight 7 (some .boolean)) ({ frames := 4, cells := 0, slots := 0, locals := 89 } : Room)).room s m ([.ref (g 0)] : List Value).toArray below meth c H locs 0 0 (MQ below (RI G K (fun u => mo_W cy g a b t vn vf vs vp vq vd vo un uf us up uq ud uo tm tx hc hh ss sv) A) ([.ref (g 0)] : List Value).toArray s 0 0 A) (F0 m 212 ls [.int y0]) := by
        intro x4 x5 x6 y0 h H locs ls hP hD hS hl
        unfold vL_isRight_212 at h
        refine lv_istore_n (lv' := [(3, .int y0), (0, .ref (g 0)), (1, .int x1), (4, .int x4), (5, .int x5), (6, .int x6)]) hx hb dL_isRight_212 rfl hl (by decide) rfl (fun ls hl => ?_)
        refine lv_iinc (v := (x6 + (1 : Int32))) (lv' := [(6, .int (x6 + (1 : Int32))), (3, .int y0), (0, .ref (g 0)), (1, .int x1), (4, .int x4), (5, .int x5)]) hx hb dL_isRight_213 hl (k := 5) rfl (by rfl) (by decide) rfl (fun ls hl => ?_)
        refine lv_goto (tgt := 141) hx hb dL_isRight_216 (by decide) ?_
        exact ih_141 y0 x4 x5 (x6 + (1 : Int32)) h _ _ _ hP hD hS (lv_sub hl [2, 3, 1, 4, 5, 0] rfl)
      have J_207 : ∀ (x4 : Int32) (x5 : Int32) (x6 : Int32), vL_isRight_207 vn vf vs vp vq vd vo tm hc x1 x4 x5 x6 K (fun z0 z1 z2 z3 => lp (vL_isRight_141F vn vf vs vp vq vd vo tm hc x1 K ) k_141 (z0, z1, z2, z3)) → ∀ (H : Heap) (locs : List Loc) (ls : Array Slot), va_P G vwCl (mo_W cy g a b t vn vf vs vp vq vd vo un uf us up uq ud uo tm tx hc hh ss sv) H → va_D A (mo_W cy g a b t vn vf vs vp vq vd vo un uf us up uq ud uo tm tx hc hh ss sv) → va_S A s.heap H locs → lv_has ls 7 [(0, .ref (g 0)), (1, .int x1), (4, .int x4), (5, .int x5), (6, .int x6)] → W p l e (headSpec (ws_ yL_isRight cL_isRight 7 (some .boolean)) ({ frames := 4, cells := 0, slots := 0, locals := 89 } : Room)).room s m ([.ref (g 0)] : List Value).toArray below meth c H locs 0 0 (MQ below (RI G K (fun u => mo_W cy g a b t vn vf vs vp vq vd vo un uf us up uq ud uo tm tx hc hh ss sv) A) ([.ref (g 0)] : List Value).toArray s 0 0 A) (F0 m 207 ls []) := by
        intro x4 x5 x6 h H locs ls hP hD hS hl
        unfold vL_isRight_207 at h
        refine lv_iconst (v := (1 : Int32)) hx hb dL_isRight_207 (by decide) ?_
        refine lv_goto (tgt := 212) hx hb dL_isRight_208 (by decide) ?_
        exact J_212 _ _ _ _ h _ _ _ hP hD hS (lv_sub hl [0, 1, 2, 3, 4] rfl)
      have J_211 : ∀ (x4 : Int32) (x5 : Int32) (x6 : Int32), vL_isRight_211 vn vf vs vp vq vd vo tm hc x1 x4 x5 x6 K (fun z0 z1 z2 z3 => lp (vL_isRight_141F vn vf vs vp vq vd vo tm hc x1 K ) k_141 (z0, z1, z2, z3)) → ∀ (H : Heap) (locs : List Loc) (ls : Array Slot), va_P G vwCl (mo_W cy g a b t vn vf vs vp vq vd vo un uf us up uq ud uo tm tx hc hh ss sv) H → va_D A (mo_W cy g a b t vn vf vs vp vq vd vo un uf us up uq ud uo tm tx hc hh ss sv) → va_S A s.heap H locs → lv_has ls 7 [(0, .ref (g 0)), (1, .int x1), (4, .int x4), (5, .int x5), (6, .int x6)] → W p l e (headSpec (ws_ yL_isRight cL_isRight 7 (some .boolean)) ({ frames := 4, cells := 0, slots := 0, locals := 89 } : Room)).room s m ([.ref (g 0)] : List Value).toArray below meth c H locs 0 0 (MQ below (RI G K (fun u => mo_W cy g a b t vn vf vs vp vq vd vo un uf us up uq ud uo tm tx hc hh ss sv) A) ([.ref (g 0)] : List Value).toArray s 0 0 A) (F0 m 211 ls []) := by
        intro x4 x5 x6 h H locs ls hP hD hS hl
        unfold vL_isRight_211 at h
        refine lv_iconst (v := (0 : Int32)) hx hb dL_isRight_211 (by decide) ?_
        exact J_212 _ _ _ _ h _ _ _ hP hD hS (lv_sub hl [0, 1, 2, 3, 4] rfl)
      intro x3 x4 x5 x6 h H locs ls hP hD hS hl
      have h : vL_isRight_141b vn vf vs vp vq vd vo tm hc x1 K  (fun z0 z1 z2 z3 => lp (vL_isRight_141F vn vf vs vp vq vd vo tm hc x1 K ) k_141 (z0, z1, z2, z3)) x3 x4 x5 x6 := h
      unfold vL_isRight_141b at h
      refine lv_iload hx hb dL_isRight_141 (lv_at hl 5 rfl) ?_
      refine lv_aload_n hx hb dL_isRight_143 rfl (lv_at hl 0 rfl) ?_
      refine lv_bipush (v := (7 : Int32)) hx hb dL_isRight_144 (by decide) ?_
      refine kc_Vi0 (As := [.int (7 : Int32)]) (rest := [.int x6]) S hE (ctX6_total l G cy g a b t vn vf vs vp vq vd vo un uf us up uq ud uo tm tx hc hh ss sv (7 : Int32) _ h) q_4_16 q_4_17 q_4_18 q_1_2 q_4_19 rfl 0 rfl rfl ydX6_total ⟨⟨rfl, rfl⟩, ⟨Nat.le_of_ble_eq_true rfl, Nat.le_of_ble_eq_true rfl⟩⟩ ⟨Nat.zero_le _, Nat.zero_le _⟩ hP hD hS rfl hl.1 rfl (Nat.le_of_ble_eq_true rfl) dL_isRight_146 (fun r_146 u_146 H locs h hP hD hS => ?_)
      refine lv_icmp_ge (tgt := 219) hx hb dL_isRight_149 (by decide) (fun c_149 => ?_) (fun c_149 => ?_)
      · have h := h.1 c_149
        refine lv_aload_n hx hb dL_isRight_219 rfl (lv_at hl 0 rfl) ?_
        refine lv_iconst (v := (5 : Int32)) hx hb dL_isRight_220 (by decide) ?_
        refine kc_Vi0 (As := [.int (5 : Int32)]) (rest := []) S hE (ctX6_total l G cy g a b t vn vf vs vp vq vd vo un uf us up uq ud uo tm tx hc hh ss sv (5 : Int32) _ h) q_4_16 q_4_17 q_4_18 q_1_2 q_4_19 rfl 0 rfl rfl ydX6_total ⟨⟨rfl, rfl⟩, ⟨Nat.le_of_ble_eq_true rfl, Nat.le_of_ble_eq_true rfl⟩⟩ ⟨Nat.zero_le _, Nat.zero_le _⟩ hP hD hS rfl hl.1 rfl (Nat.le_of_ble_eq_true rfl) dL_isRight_221 (fun r_221 u_221 H locs h hP hD hS => ?_)
        refine lv_istore (lv' := [(6, .int r_221), (0, .ref (g 0)), (1, .int x1), (3, .int x3), (4, .int x4), (5, .int x5)]) hx hb dL_isRight_224 hl (by decide) rfl (fun ls hl => ?_)
        refine lv_iload_n hx hb dL_isRight_226 rfl (lv_at hl 3 rfl) ?_
        refine lv_if_eq (tgt := 251) hx hb dL_isRight_227 (by decide) (fun c_227 => ?_) (fun c_227 => ?_)
        · have h := h.1 c_227
          exact J_251 _ _ _ _ _ _ _ _ _ _ _ h _ _ _ hP hD hS (lv_sub hl [1, 4, 5] rfl)
        · have h := h.2 c_227
          refine lv_iload hx hb dL_isRight_230 (lv_at hl 0 rfl) ?_
          refine lv_bipush (v := (-5 : Int32)) hx hb dL_isRight_232 (by decide) ?_
          refine lv_icmp_eq (tgt := 247) hx hb dL_isRight_234 (by decide) (fun c_234 => ?_) (fun c_234 => ?_)
          · have h := h.1 c_234
            exact J_247 _ _ _ _ _ _ _ _ _ _ _ h _ _ _ hP hD hS (lv_sub hl [1, 4, 5] rfl)
          · have h := h.2 c_234
            refine lv_aload_n hx hb dL_isRight_237 rfl (lv_at hl 1 rfl) ?_
            refine lv_iload hx hb dL_isRight_238 (lv_at hl 0 rfl) ?_
            refine lv_iconst (v := (1 : Int32)) hx hb dL_isRight_240 (by decide) ?_
            refine kc_Vi0 (As := [.int r_221, .int (1 : Int32)]) (rest := []) S hE (ctX6_stop l G cy g a b t vn vf vs vp vq vd vo un uf us up uq ud uo tm tx hc hh ss sv r_221 (1 : Int32) _ h) q_8_3 q_8_4 q_8_5 q_1_2 q_8_6 rfl 0 rfl rfl ydX6_stop ⟨⟨rfl, rfl⟩, ⟨Nat.le_of_ble_eq_true rfl, Nat.le_of_ble_eq_true rfl⟩⟩ ⟨Nat.zero_le _, Nat.zero_le _⟩ hP hD hS rfl hl.1 rfl (Nat.le_of_ble_eq_true rfl) dL_isRight_241 (fun r_241 u_241 H locs h hP hD hS => ?_)
            refine lv_if_ne (tgt := 251) hx hb dL_isRight_244 (by decide) (fun c_244 => ?_) (fun c_244 => ?_)
            · have h := h.1 c_244
              exact J_251 _ _ _ _ _ _ _ _ _ _ _ h _ _ _ hP hD hS (lv_sub hl [1, 4, 5] rfl)
            · have h := h.2 c_244
              exact J_247 _ _ _ _ _ _ _ _ _ _ _ h _ _ _ hP hD hS (lv_sub hl [1, 4, 5] rfl)
      · have h := h.2 c_149
        refine lv_iload hx hb dL_isRight_152 (lv_at hl 3 rfl) ?_
        refine lv_aload_n hx hb dL_isRight_154 rfl (lv_at hl 0 rfl) ?_
        refine lv_iload hx hb dL_isRight_155 (lv_at hl 5 rfl) ?_
        refine lv_iconst (v := (2 : Int32)) hx hb dL_isRight_157 (by decide) ?_
        refine kc_Vi0 (As := [.int x6, .int (2 : Int32)]) (rest := [.int x4]) S hE (ctX6_stop l G cy g a b t vn vf vs vp vq vd vo un uf us up uq ud uo tm tx hc hh ss sv x6 (2 : Int32) _ h) q_8_3 q_8_4 q_8_5 q_1_2 q_8_6 rfl 0 rfl rfl ydX6_stop ⟨⟨rfl, rfl⟩, ⟨Nat.le_of_ble_eq_true rfl, Nat.le_of_ble_eq_true rfl⟩⟩ ⟨Nat.zero_le _, Nat.zero_le _⟩ hP hD hS rfl hl.1 rfl (Nat.le_of_ble_eq_true rfl) dL_isRight_158 (fun r_158 u_158 H locs h hP hD hS => ?_)
        refine lv_iadd hx hb dL_isRight_161 ?_
        refine lv_istore (lv' := [(4, .int (x4 + r_158)), (0, .ref (g 0)), (1, .int x1), (3, .int x3), (5, .int x5), (6, .int x6)]) hx hb dL_isRight_162 hl (by decide) rfl (fun ls hl => ?_)
        refine lv_iload hx hb dL_isRight_164 (lv_at hl 4 rfl) ?_
        refine lv_iconst (v := (1 : Int32)) hx hb dL_isRight_166 (by decide) ?_
        refine lv_aload_n hx hb dL_isRight_167 rfl (lv_at hl 1 rfl) ?_
        refine lv_iload hx hb dL_isRight_168 (lv_at hl 5 rfl) ?_
        refine lv_iconst (v := (1 : Int32)) hx hb dL_isRight_170 (by decide) ?_
        refine kc_Vi0 (As := [.int x6, .int (1 : Int32)]) (rest := [.int (1 : Int32), .int x5]) S hE (ctX6_stop l G cy g a b t vn vf vs vp vq vd vo un uf us up uq ud uo tm tx hc hh ss sv x6 (1 : Int32) _ h) q_8_3 q_8_4 q_8_5 q_1_2 q_8_6 rfl 0 rfl rfl ydX6_stop ⟨⟨rfl, rfl⟩, ⟨Nat.le_of_ble_eq_true rfl, Nat.le_of_ble_eq_true rfl⟩⟩ ⟨Nat.zero_le _, Nat.zero_le _⟩ hP hD hS rfl hl.1 rfl (Nat.le_of_ble_eq_true rfl) dL_isRight_171 (fun r_171 u_171 H locs h hP hD hS => ?_)
        refine lv_isub hx hb dL_isRight_174 ?_
        refine lv_iadd hx hb dL_isRight_175 ?_
        refine lv_istore (lv' := [(5, .int (x5 + ((1 : Int32) - r_171))), (4, .int (x4 + r_158)), (0, .ref (g 0)), (1, .int x1), (3, .int x3), (6, .int x6)]) hx hb dL_isRight_176 hl (by decide) rfl (fun ls hl => ?_)
        refine lv_iload_n hx hb dL_isRight_178 rfl (lv_at hl 4 rfl) ?_
        refine lv_if_eq (tgt := 211) hx hb dL_isRight_179 (by decide) (fun c_179 => ?_) (fun c_179 => ?_)
        · have h := h.1 c_179
          exact J_211 _ _ _ h _ _ _ hP hD hS (lv_sub hl [2, 3, 1, 0, 5] rfl)
        · have h := h.2 c_179
          refine lv_aload_n hx hb dL_isRight_182 rfl (lv_at hl 2 rfl) ?_
          refine lv_iload hx hb dL_isRight_183 (lv_at hl 5 rfl) ?_
          refine lv_iconst (v := (2 : Int32)) hx hb dL_isRight_185 (by decide) ?_
          refine kc_Vi0 (As := [.int x6, .int (2 : Int32)]) (rest := []) S hE (ctX6_stop l G cy g a b t vn vf vs vp vq vd vo un uf us up uq ud uo tm tx hc hh ss sv x6 (2 : Int32) _ h) q_8_3 q_8_4 q_8_5 q_1_2 q_8_6 rfl 0 rfl rfl ydX6_stop ⟨⟨rfl, rfl⟩, ⟨Nat.le_of_ble_eq_true rfl, Nat.le_of_ble_eq_true rfl⟩⟩ ⟨Nat.zero_le _, Nat.zero_le _⟩ hP hD hS rfl hl.1 rfl (Nat.le_of_ble_eq_true rfl) dL_isRight_186 (fun r_186 u_186 H locs h hP hD hS => ?_)
          refine lv_if_eq (tgt := 207) hx hb dL_isRight_189 (by decide) (fun c_189 => ?_) (fun c_189 => ?_)
          · have h := h.1 c_189
            exact J_207 _ _ _ h _ _ _ hP hD hS (lv_sub hl [2, 3, 1, 0, 5] rfl)
          · have h := h.2 c_189
            refine lv_aload_n hx hb dL_isRight_192 rfl (lv_at hl 2 rfl) ?_
            refine lv_iload hx hb dL_isRight_193 (lv_at hl 5 rfl) ?_
            refine lv_iconst (v := (1 : Int32)) hx hb dL_isRight_195 (by decide) ?_
            refine kc_Vi0 (As := [.int x6, .int (1 : Int32)]) (rest := []) S hE (ctX6_stop l G cy g a b t vn vf vs vp vq vd vo un uf us up uq ud uo tm tx hc hh ss sv x6 (1 : Int32) _ h) q_8_3 q_8_4 q_8_5 q_1_2 q_8_6 rfl 0 rfl rfl ydX6_stop ⟨⟨rfl, rfl⟩, ⟨Nat.le_of_ble_eq_true rfl, Nat.le_of_ble_eq_true rfl⟩⟩ ⟨Nat.zero_le _, Nat.zero_le _⟩ hP hD hS rfl hl.1 rfl (Nat.le_of_ble_eq_true rfl) dL_isRight_196 (fun r_196 u_196 H locs h hP hD hS => ?_)
            refine lv_if_ne (tgt := 211) hx hb dL_isRight_199 (by decide) (fun c_199 => ?_) (fun c_199 => ?_)
            · have h := h.1 c_199
              exact J_211 _ _ _ h _ _ _ hP hD hS (lv_sub hl [2, 3, 1, 0, 5] rfl)
            · have h := h.2 c_199
              refine lv_iload_n hx hb dL_isRight_202 rfl (lv_at hl 3 rfl) ?_
              refine lv_iconst (v := (2 : Int32)) hx hb dL_isRight_203 (by decide) ?_
              refine lv_icmp_ne (tgt := 211) hx hb dL_isRight_204 (by decide) (fun c_204 => ?_) (fun c_204 => ?_)
              · have h := h.1 c_204
                exact J_211 _ _ _ h _ _ _ hP hD hS (lv_sub hl [2, 3, 1, 0, 5] rfl)
              · have h := h.2 c_204
                exact J_207 _ _ _ h _ _ _ hP hD hS (lv_sub hl [2, 3, 1, 0, 5] rfl)
  have J_131 : ∀ (vn : Nat → Int32) (vf : Nat → UInt32) (vs : Nat → Int32) (vp : Nat → Int32) (vq : Nat → Int32) (vd : Nat → Int32) (vo : Nat → Int32) (tm : Nat → Int32) (hc : Nat → Int32) (x1 : Int32) (y0 : Int32), vL_isRight_131 vn vf vs vp vq vd vo tm hc x1 y0 K  → ∀ (H : Heap) (locs : List Loc) (ls : Array Slot), va_P G vwCl (mo_W cy g a b t vn vf vs vp vq vd vo un uf us up uq ud uo tm tx hc hh ss sv) H → va_D A (mo_W cy g a b t vn vf vs vp vq vd vo un uf us up uq ud uo tm tx hc hh ss sv) → va_S A s.heap H locs → lv_has ls 7 [(0, .ref (g 0)), (1, .int x1)] → W p l e (headSpec (ws_ yL_isRight cL_isRight 7 (some .boolean)) ({ frames := 4, cells := 0, slots := 0, locals := 89 } : Room)).room s m ([.ref (g 0)] : List Value).toArray below meth c H locs 0 0 (MQ below (RI G K (fun u => mo_W cy g a b t vn vf vs vp vq vd vo un uf us up uq ud uo tm tx hc hh ss sv) A) ([.ref (g 0)] : List Value).toArray s 0 0 A) (F0 m 131 ls [.int y0]) := by
    intro vn vf vs vp vq vd vo tm hc x1 y0 h H locs ls hP hD hS hl
    unfold vL_isRight_131 at h
    refine lv_istore_n (lv' := [(3, .int y0), (0, .ref (g 0)), (1, .int x1)]) hx hb dL_isRight_131 rfl hl (by decide) rfl (fun ls hl => ?_)
    refine lv_iconst (v := (0 : Int32)) hx hb dL_isRight_132 (by decide) ?_
    refine lv_istore (lv' := [(4, .int (0 : Int32)), (3, .int y0), (0, .ref (g 0)), (1, .int x1)]) hx hb dL_isRight_133 hl (by decide) rfl (fun ls hl => ?_)
    refine lv_iconst (v := (0 : Int32)) hx hb dL_isRight_135 (by decide) ?_
    refine lv_istore (lv' := [(5, .int (0 : Int32)), (4, .int (0 : Int32)), (3, .int y0), (0, .ref (g 0)), (1, .int x1)]) hx hb dL_isRight_136 hl (by decide) rfl (fun ls hl => ?_)
    refine lv_iconst (v := (0 : Int32)) hx hb dL_isRight_138 (by decide) ?_
    refine lv_istore (lv' := [(6, .int (0 : Int32)), (5, .int (0 : Int32)), (4, .int (0 : Int32)), (3, .int y0), (0, .ref (g 0)), (1, .int x1)]) hx hb dL_isRight_139 hl (by decide) rfl (fun ls hl => ?_)
    obtain ⟨k0, h⟩ := h
    exact L_141 _ _ _ _ _ _ _ _ _ _ k0 _ _ _ _ h _ _ _ hP hD hS (lv_sub hl [4, 5, 3, 2, 1, 0] rfl)
  have J_126 : ∀ (vn : Nat → Int32) (vf : Nat → UInt32) (vs : Nat → Int32) (vp : Nat → Int32) (vq : Nat → Int32) (vd : Nat → Int32) (vo : Nat → Int32) (tm : Nat → Int32) (hc : Nat → Int32) (x1 : Int32), vL_isRight_126 vn vf vs vp vq vd vo tm hc x1 K  → ∀ (H : Heap) (locs : List Loc) (ls : Array Slot), va_P G vwCl (mo_W cy g a b t vn vf vs vp vq vd vo un uf us up uq ud uo tm tx hc hh ss sv) H → va_D A (mo_W cy g a b t vn vf vs vp vq vd vo un uf us up uq ud uo tm tx hc hh ss sv) → va_S A s.heap H locs → lv_has ls 7 [(0, .ref (g 0)), (1, .int x1)] → W p l e (headSpec (ws_ yL_isRight cL_isRight 7 (some .boolean)) ({ frames := 4, cells := 0, slots := 0, locals := 89 } : Room)).room s m ([.ref (g 0)] : List Value).toArray below meth c H locs 0 0 (MQ below (RI G K (fun u => mo_W cy g a b t vn vf vs vp vq vd vo un uf us up uq ud uo tm tx hc hh ss sv) A) ([.ref (g 0)] : List Value).toArray s 0 0 A) (F0 m 126 ls []) := by
    intro vn vf vs vp vq vd vo tm hc x1 h H locs ls hP hD hS hl
    unfold vL_isRight_126 at h
    refine lv_iconst (v := (1 : Int32)) hx hb dL_isRight_126 (by decide) ?_
    refine lv_goto (tgt := 131) hx hb dL_isRight_127 (by decide) ?_
    exact J_131 _ _ _ _ _ _ _ _ _ _ _ h _ _ _ hP hD hS (lv_sub hl [0, 1] rfl)
  have J_130 : ∀ (vn : Nat → Int32) (vf : Nat → UInt32) (vs : Nat → Int32) (vp : Nat → Int32) (vq : Nat → Int32) (vd : Nat → Int32) (vo : Nat → Int32) (tm : Nat → Int32) (hc : Nat → Int32) (x1 : Int32), vL_isRight_130 vn vf vs vp vq vd vo tm hc x1 K  → ∀ (H : Heap) (locs : List Loc) (ls : Array Slot), va_P G vwCl (mo_W cy g a b t vn vf vs vp vq vd vo un uf us up uq ud uo tm tx hc hh ss sv) H → va_D A (mo_W cy g a b t vn vf vs vp vq vd vo un uf us up uq ud uo tm tx hc hh ss sv) → va_S A s.heap H locs → lv_has ls 7 [(0, .ref (g 0)), (1, .int x1)] → W p l e (headSpec (ws_ yL_isRight cL_isRight 7 (some .boolean)) ({ frames := 4, cells := 0, slots := 0, locals := 89 } : Room)).room s m ([.ref (g 0)] : List Value).toArray below meth c H locs 0 0 (MQ below (RI G K (fun u => mo_W cy g a b t vn vf vs vp vq vd vo un uf us up uq ud uo tm tx hc hh ss sv) A) ([.ref (g 0)] : List Value).toArray s 0 0 A) (F0 m 130 ls []) := by
    intro vn vf vs vp vq vd vo tm hc x1 h H locs ls hP hD hS hl
    unfold vL_isRight_130 at h
    refine lv_iconst (v := (0 : Int32)) hx hb dL_isRight_130 (by decide) ?_
    exact J_131 _ _ _ _ _ _ _ _ _ _ _ h _ _ _ hP hD hS (lv_sub hl [0, 1] rfl)
  have J_71 : ∀ (vn : Nat → Int32) (vf : Nat → UInt32) (vs : Nat → Int32) (vp : Nat → Int32) (vq : Nat → Int32) (vd : Nat → Int32) (vo : Nat → Int32) (tm : Nat → Int32) (hc : Nat → Int32) (x1 : Int32) (y0 : Int32), vL_isRight_71 vn vf vs vp vq vd vo tm hc x1 y0 K  → ∀ (H : Heap) (locs : List Loc) (ls : Array Slot), va_P G vwCl (mo_W cy g a b t vn vf vs vp vq vd vo un uf us up uq ud uo tm tx hc hh ss sv) H → va_D A (mo_W cy g a b t vn vf vs vp vq vd vo un uf us up uq ud uo tm tx hc hh ss sv) → va_S A s.heap H locs → lv_has ls 7 [(0, .ref (g 0)), (1, .int x1)] → W p l e (headSpec (ws_ yL_isRight cL_isRight 7 (some .boolean)) ({ frames := 4, cells := 0, slots := 0, locals := 89 } : Room)).room s m ([.ref (g 0)] : List Value).toArray below meth c H locs 0 0 (MQ below (RI G K (fun u => mo_W cy g a b t vn vf vs vp vq vd vo un uf us up uq ud uo tm tx hc hh ss sv) A) ([.ref (g 0)] : List Value).toArray s 0 0 A) (F0 m 71 ls [.int y0]) := by
    intro vn vf vs vp vq vd vo tm hc x1 y0 h H locs ls hP hD hS hl
    unfold vL_isRight_71 at h
    refine lv_istore_n (lv' := [(3, .int y0), (0, .ref (g 0)), (1, .int x1)]) hx hb dL_isRight_71 rfl hl (by decide) rfl (fun ls hl => ?_)
    refine lv_iload_n hx hb dL_isRight_72 rfl (lv_at hl 0 rfl) ?_
    refine lv_if_eq (tgt := 130) hx hb dL_isRight_73 (by decide) (fun c_73 => ?_) (fun c_73 => ?_)
    · have h := h.1 c_73
      exact J_130 _ _ _ _ _ _ _ _ _ _ h _ _ _ hP hD hS (lv_sub hl [1, 2] rfl)
    · have h := h.2 c_73
      refine lv_aload_n hx hb dL_isRight_76 rfl (lv_at hl 1 rfl) ?_
      refine lv_iconst (v := (2 : Int32)) hx hb dL_isRight_77 (by decide) ?_
      refine kc_Vi0 (As := [.int (2 : Int32)]) (rest := []) S hE (ctX6_total l G cy g a b t vn vf vs vp vq vd vo un uf us up uq ud uo tm tx hc hh ss sv (2 : Int32) _ h) q_4_16 q_4_17 q_4_18 q_1_2 q_4_19 rfl 0 rfl rfl ydX6_total ⟨⟨rfl, rfl⟩, ⟨Nat.le_of_ble_eq_true rfl, Nat.le_of_ble_eq_true rfl⟩⟩ ⟨Nat.zero_le _, Nat.zero_le _⟩ hP hD hS rfl hl.1 rfl (Nat.le_of_ble_eq_true rfl) dL_isRight_78 (fun r_78 u_78 H locs h hP hD hS => ?_)
      refine lv_if_lt (tgt := 130) hx hb dL_isRight_81 (by decide) (fun c_81 => ?_) (fun c_81 => ?_)
      · have h := h.1 c_81
        exact J_130 _ _ _ _ _ _ _ _ _ _ h _ _ _ hP hD hS (lv_sub hl [1, 2] rfl)
      · have h := h.2 c_81
        refine lv_aload_n hx hb dL_isRight_84 rfl (lv_at hl 1 rfl) ?_
        refine lv_iconst (v := (2 : Int32)) hx hb dL_isRight_85 (by decide) ?_
        refine kc_Vi0 (As := [.int (2 : Int32)]) (rest := []) S hE (ctX6_total l G cy g a b t vn vf vs vp vq vd vo un uf us up uq ud uo tm tx hc hh ss sv (2 : Int32) _ h) q_4_16 q_4_17 q_4_18 q_1_2 q_4_19 rfl 0 rfl rfl ydX6_total ⟨⟨rfl, rfl⟩, ⟨Nat.le_of_ble_eq_true rfl, Nat.le_of_ble_eq_true rfl⟩⟩ ⟨Nat.zero_le _, Nat.zero_le _⟩ hP hD hS rfl hl.1 rfl (Nat.le_of_ble_eq_true rfl) dL_isRight_86 (fun r_86 u_86 H locs h hP hD hS => ?_)
        refine lv_iconst (v := (2 : Int32)) hx hb dL_isRight_89 (by decide) ?_
        refine lv_icmp_ge (tgt := 130) hx hb dL_isRight_90 (by decide) (fun c_90 => ?_) (fun c_90 => ?_)
        · have h := h.1 c_90
          exact J_130 _ _ _ _ _ _ _ _ _ _ h _ _ _ hP hD hS (lv_sub hl [1, 2] rfl)
        · have h := h.2 c_90
          refine lv_aload_n hx hb dL_isRight_93 rfl (lv_at hl 1 rfl) ?_
          refine lv_iconst (v := (3 : Int32)) hx hb dL_isRight_94 (by decide) ?_
          refine kc_Vi0 (As := [.int (3 : Int32)]) (rest := []) S hE (ctX6_total l G cy g a b t vn vf vs vp vq vd vo un uf us up uq ud uo tm tx hc hh ss sv (3 : Int32) _ h) q_4_16 q_4_17 q_4_18 q_1_2 q_4_19 rfl 0 rfl rfl ydX6_total ⟨⟨rfl, rfl⟩, ⟨Nat.le_of_ble_eq_true rfl, Nat.le_of_ble_eq_true rfl⟩⟩ ⟨Nat.zero_le _, Nat.zero_le _⟩ hP hD hS rfl hl.1 rfl (Nat.le_of_ble_eq_true rfl) dL_isRight_95 (fun r_95 u_95 H locs h hP hD hS => ?_)
          refine lv_if_lt (tgt := 130) hx hb dL_isRight_98 (by decide) (fun c_98 => ?_) (fun c_98 => ?_)
          · have h := h.1 c_98
            exact J_130 _ _ _ _ _ _ _ _ _ _ h _ _ _ hP hD hS (lv_sub hl [1, 2] rfl)
          · have h := h.2 c_98
            refine lv_aload_n hx hb dL_isRight_101 rfl (lv_at hl 1 rfl) ?_
            refine lv_iconst (v := (3 : Int32)) hx hb dL_isRight_102 (by decide) ?_
            refine kc_Vi0 (As := [.int (3 : Int32)]) (rest := []) S hE (ctX6_total l G cy g a b t vn vf vs vp vq vd vo un uf us up uq ud uo tm tx hc hh ss sv (3 : Int32) _ h) q_4_16 q_4_17 q_4_18 q_1_2 q_4_19 rfl 0 rfl rfl ydX6_total ⟨⟨rfl, rfl⟩, ⟨Nat.le_of_ble_eq_true rfl, Nat.le_of_ble_eq_true rfl⟩⟩ ⟨Nat.zero_le _, Nat.zero_le _⟩ hP hD hS rfl hl.1 rfl (Nat.le_of_ble_eq_true rfl) dL_isRight_103 (fun r_103 u_103 H locs h hP hD hS => ?_)
            refine lv_iconst (v := (3 : Int32)) hx hb dL_isRight_106 (by decide) ?_
            refine lv_icmp_ge (tgt := 130) hx hb dL_isRight_107 (by decide) (fun c_107 => ?_) (fun c_107 => ?_)
            · have h := h.1 c_107
              exact J_130 _ _ _ _ _ _ _ _ _ _ h _ _ _ hP hD hS (lv_sub hl [1, 2] rfl)
            · have h := h.2 c_107
              refine lv_aload_n hx hb dL_isRight_110 rfl (lv_at hl 1 rfl) ?_
              refine lv_iconst (v := (4 : Int32)) hx hb dL_isRight_111 (by decide) ?_
              refine kc_Vi0 (As := [.int (4 : Int32)]) (rest := []) S hE (ctX6_total l G cy g a b t vn vf vs vp vq vd vo un uf us up uq ud uo tm tx hc hh ss sv (4 : Int32) _ h) q_4_16 q_4_17 q_4_18 q_1_2 q_4_19 rfl 0 rfl rfl ydX6_total ⟨⟨rfl, rfl⟩, ⟨Nat.le_of_ble_eq_true rfl, Nat.le_of_ble_eq_true rfl⟩⟩ ⟨Nat.zero_le _, Nat.zero_le _⟩ hP hD hS rfl hl.1 rfl (Nat.le_of_ble_eq_true rfl) dL_isRight_112 (fun r_112 u_112 H locs h hP hD hS => ?_)
              refine lv_if_eq (tgt := 126) hx hb dL_isRight_115 (by decide) (fun c_115 => ?_) (fun c_115 => ?_)
              · have h := h.1 c_115
                exact J_126 _ _ _ _ _ _ _ _ _ _ h _ _ _ hP hD hS (lv_sub hl [1, 2] rfl)
              · have h := h.2 c_115
                refine lv_aload_n hx hb dL_isRight_118 rfl (lv_at hl 1 rfl) ?_
                refine lv_iconst (v := (3 : Int32)) hx hb dL_isRight_119 (by decide) ?_
                refine kc_Vi0 (As := [.int (3 : Int32)]) (rest := []) S hE (ctX6_total l G cy g a b t vn vf vs vp vq vd vo un uf us up uq ud uo tm tx hc hh ss sv (3 : Int32) _ h) q_4_16 q_4_17 q_4_18 q_1_2 q_4_19 rfl 0 rfl rfl ydX6_total ⟨⟨rfl, rfl⟩, ⟨Nat.le_of_ble_eq_true rfl, Nat.le_of_ble_eq_true rfl⟩⟩ ⟨Nat.zero_le _, Nat.zero_le _⟩ hP hD hS rfl hl.1 rfl (Nat.le_of_ble_eq_true rfl) dL_isRight_120 (fun r_120 u_120 H locs h hP hD hS => ?_)
                refine lv_if_ne (tgt := 130) hx hb dL_isRight_123 (by decide) (fun c_123 => ?_) (fun c_123 => ?_)
                · have h := h.1 c_123
                  exact J_130 _ _ _ _ _ _ _ _ _ _ h _ _ _ hP hD hS (lv_sub hl [1, 2] rfl)
                · have h := h.2 c_123
                  exact J_126 _ _ _ _ _ _ _ _ _ _ h _ _ _ hP hD hS (lv_sub hl [1, 2] rfl)
  have J_66 : ∀ (vn : Nat → Int32) (vf : Nat → UInt32) (vs : Nat → Int32) (vp : Nat → Int32) (vq : Nat → Int32) (vd : Nat → Int32) (vo : Nat → Int32) (tm : Nat → Int32) (hc : Nat → Int32) (x1 : Int32), vL_isRight_66 vn vf vs vp vq vd vo tm hc x1 K  → ∀ (H : Heap) (locs : List Loc) (ls : Array Slot), va_P G vwCl (mo_W cy g a b t vn vf vs vp vq vd vo un uf us up uq ud uo tm tx hc hh ss sv) H → va_D A (mo_W cy g a b t vn vf vs vp vq vd vo un uf us up uq ud uo tm tx hc hh ss sv) → va_S A s.heap H locs → lv_has ls 7 [(0, .ref (g 0)), (1, .int x1)] → W p l e (headSpec (ws_ yL_isRight cL_isRight 7 (some .boolean)) ({ frames := 4, cells := 0, slots := 0, locals := 89 } : Room)).room s m ([.ref (g 0)] : List Value).toArray below meth c H locs 0 0 (MQ below (RI G K (fun u => mo_W cy g a b t vn vf vs vp vq vd vo un uf us up uq ud uo tm tx hc hh ss sv) A) ([.ref (g 0)] : List Value).toArray s 0 0 A) (F0 m 66 ls []) := by
    intro vn vf vs vp vq vd vo tm hc x1 h H locs ls hP hD hS hl
    unfold vL_isRight_66 at h
    refine lv_iconst (v := (1 : Int32)) hx hb dL_isRight_66 (by decide) ?_
    refine lv_goto (tgt := 71) hx hb dL_isRight_67 (by decide) ?_
    exact J_71 _ _ _ _ _ _ _ _ _ _ _ h _ _ _ hP hD hS (lv_sub hl [0, 1] rfl)
  have J_70 : ∀ (vn : Nat → Int32) (vf : Nat → UInt32) (vs : Nat → Int32) (vp : Nat → Int32) (vq : Nat → Int32) (vd : Nat → Int32) (vo : Nat → Int32) (tm : Nat → Int32) (hc : Nat → Int32) (x1 : Int32), vL_isRight_70 vn vf vs vp vq vd vo tm hc x1 K  → ∀ (H : Heap) (locs : List Loc) (ls : Array Slot), va_P G vwCl (mo_W cy g a b t vn vf vs vp vq vd vo un uf us up uq ud uo tm tx hc hh ss sv) H → va_D A (mo_W cy g a b t vn vf vs vp vq vd vo un uf us up uq ud uo tm tx hc hh ss sv) → va_S A s.heap H locs → lv_has ls 7 [(0, .ref (g 0)), (1, .int x1)] → W p l e (headSpec (ws_ yL_isRight cL_isRight 7 (some .boolean)) ({ frames := 4, cells := 0, slots := 0, locals := 89 } : Room)).room s m ([.ref (g 0)] : List Value).toArray below meth c H locs 0 0 (MQ below (RI G K (fun u => mo_W cy g a b t vn vf vs vp vq vd vo un uf us up uq ud uo tm tx hc hh ss sv) A) ([.ref (g 0)] : List Value).toArray s 0 0 A) (F0 m 70 ls []) := by
    intro vn vf vs vp vq vd vo tm hc x1 h H locs ls hP hD hS hl
    unfold vL_isRight_70 at h
    refine lv_iconst (v := (0 : Int32)) hx hb dL_isRight_70 (by decide) ?_
    exact J_71 _ _ _ _ _ _ _ _ _ _ _ h _ _ _ hP hD hS (lv_sub hl [0, 1] rfl)
  have J_16 : ∀ (vn : Nat → Int32) (vf : Nat → UInt32) (vs : Nat → Int32) (vp : Nat → Int32) (vq : Nat → Int32) (vd : Nat → Int32) (vo : Nat → Int32) (tm : Nat → Int32) (hc : Nat → Int32) (x1 : Int32) (y0 : Int32), vL_isRight_16 vn vf vs vp vq vd vo tm hc x1 y0 K  → ∀ (H : Heap) (locs : List Loc) (ls : Array Slot), va_P G vwCl (mo_W cy g a b t vn vf vs vp vq vd vo un uf us up uq ud uo tm tx hc hh ss sv) H → va_D A (mo_W cy g a b t vn vf vs vp vq vd vo un uf us up uq ud uo tm tx hc hh ss sv) → va_S A s.heap H locs → lv_has ls 7 [(0, .ref (g 0)), (1, .int x1)] → W p l e (headSpec (ws_ yL_isRight cL_isRight 7 (some .boolean)) ({ frames := 4, cells := 0, slots := 0, locals := 89 } : Room)).room s m ([.ref (g 0)] : List Value).toArray below meth c H locs 0 0 (MQ below (RI G K (fun u => mo_W cy g a b t vn vf vs vp vq vd vo un uf us up uq ud uo tm tx hc hh ss sv) A) ([.ref (g 0)] : List Value).toArray s 0 0 A) (F0 m 16 ls [.int y0]) := by
    intro vn vf vs vp vq vd vo tm hc x1 y0 h H locs ls hP hD hS hl
    unfold vL_isRight_16 at h
    refine lv_istore_n (lv' := [(2, .int y0), (0, .ref (g 0)), (1, .int x1)]) hx hb dL_isRight_16 rfl hl (by decide) rfl (fun ls hl => ?_)
    refine lv_iload_n hx hb dL_isRight_17 rfl (lv_at hl 2 rfl) ?_
    refine lv_if_lt (tgt := 70) hx hb dL_isRight_18 (by decide) (fun c_18 => ?_) (fun c_18 => ?_)
    · have h := h.1 c_18
      exact J_70 _ _ _ _ _ _ _ _ _ _ h _ _ _ hP hD hS (lv_sub hl [1, 2] rfl)
    · have h := h.2 c_18
      refine lv_iload_n hx hb dL_isRight_21 rfl (lv_at hl 2 rfl) ?_
      refine lv_bipush (v := (6 : Int32)) hx hb dL_isRight_22 (by decide) ?_
      refine lv_icmp_ge (tgt := 70) hx hb dL_isRight_24 (by decide) (fun c_24 => ?_) (fun c_24 => ?_)
      · have h := h.1 c_24
        exact J_70 _ _ _ _ _ _ _ _ _ _ h _ _ _ hP hD hS (lv_sub hl [1, 2] rfl)
      · have h := h.2 c_24
        refine lv_iload_n hx hb dL_isRight_27 rfl (lv_at hl 0 rfl) ?_
        refine lv_if_eq (tgt := 58) hx hb dL_isRight_28 (by decide) (fun c_28 => ?_) (fun c_28 => ?_)
        · have h := h.1 c_28
          refine lv_aload_n hx hb dL_isRight_58 rfl (lv_at hl 1 rfl) ?_
          refine lv_iconst (v := (0 : Int32)) hx hb dL_isRight_59 (by decide) ?_
          refine kc_Vi0 (As := [.int (0 : Int32)]) (rest := []) S hE (ctX6_bits l G cy g a b t vn vf vs vp vq vd vo un uf us up uq ud uo tm tx hc hh ss sv (0 : Int32) _ h) q_6_6 q_6_7 q_6_8 q_1_2 q_6_9 rfl 0 rfl rfl ydX6_bits ⟨⟨rfl, rfl⟩, ⟨Nat.le_of_ble_eq_true rfl, Nat.le_of_ble_eq_true rfl⟩⟩ ⟨Nat.zero_le _, Nat.zero_le _⟩ hP hD hS rfl hl.1 rfl (Nat.le_of_ble_eq_true rfl) dL_isRight_60 (fun r_60 u_60 H locs h hP hD hS => ?_)
          refine lv_if_le (tgt := 70) hx hb dL_isRight_63 (by decide) (fun c_63 => ?_) (fun c_63 => ?_)
          · have h := h.1 c_63
            exact J_70 _ _ _ _ _ _ _ _ _ _ h _ _ _ hP hD hS (lv_sub hl [1, 2] rfl)
          · have h := h.2 c_63
            exact J_66 _ _ _ _ _ _ _ _ _ _ h _ _ _ hP hD hS (lv_sub hl [1, 2] rfl)
        · have h := h.2 c_28
          refine lv_aload_n hx hb dL_isRight_31 rfl (lv_at hl 1 rfl) ?_
          refine lv_iconst (v := (0 : Int32)) hx hb dL_isRight_32 (by decide) ?_
          refine kc_Vi0 (As := [.int (0 : Int32)]) (rest := []) S hE (ctX6_bits l G cy g a b t vn vf vs vp vq vd vo un uf us up uq ud uo tm tx hc hh ss sv (0 : Int32) _ h) q_6_6 q_6_7 q_6_8 q_1_2 q_6_9 rfl 0 rfl rfl ydX6_bits ⟨⟨rfl, rfl⟩, ⟨Nat.le_of_ble_eq_true rfl, Nat.le_of_ble_eq_true rfl⟩⟩ ⟨Nat.zero_le _, Nat.zero_le _⟩ hP hD hS rfl hl.1 rfl (Nat.le_of_ble_eq_true rfl) dL_isRight_33 (fun r_33 u_33 H locs h hP hD hS => ?_)
          refine lv_if_ne (tgt := 70) hx hb dL_isRight_36 (by decide) (fun c_36 => ?_) (fun c_36 => ?_)
          · have h := h.1 c_36
            exact J_70 _ _ _ _ _ _ _ _ _ _ h _ _ _ hP hD hS (lv_sub hl [1, 2] rfl)
          · have h := h.2 c_36
            refine lv_aload_n hx hb dL_isRight_39 rfl (lv_at hl 1 rfl) ?_
            refine lv_iconst (v := (2 : Int32)) hx hb dL_isRight_40 (by decide) ?_
            refine kc_Vi0 (As := [.int (2 : Int32)]) (rest := []) S hE (ctX6_bits l G cy g a b t vn vf vs vp vq vd vo un uf us up uq ud uo tm tx hc hh ss sv (2 : Int32) _ h) q_6_6 q_6_7 q_6_8 q_1_2 q_6_9 rfl 0 rfl rfl ydX6_bits ⟨⟨rfl, rfl⟩, ⟨Nat.le_of_ble_eq_true rfl, Nat.le_of_ble_eq_true rfl⟩⟩ ⟨Nat.zero_le _, Nat.zero_le _⟩ hP hD hS rfl hl.1 rfl (Nat.le_of_ble_eq_true rfl) dL_isRight_41 (fun r_41 u_41 H locs h hP hD hS => ?_)
            refine lv_if_ne (tgt := 70) hx hb dL_isRight_44 (by decide) (fun c_44 => ?_) (fun c_44 => ?_)
            · have h := h.1 c_44
              exact J_70 _ _ _ _ _ _ _ _ _ _ h _ _ _ hP hD hS (lv_sub hl [1, 2] rfl)
            · have h := h.2 c_44
              refine lv_aload_n hx hb dL_isRight_47 rfl (lv_at hl 1 rfl) ?_
              refine lv_iconst (v := (3 : Int32)) hx hb dL_isRight_48 (by decide) ?_
              refine kc_Vi0 (As := [.int (3 : Int32)]) (rest := []) S hE (ctX6_bits l G cy g a b t vn vf vs vp vq vd vo un uf us up uq ud uo tm tx hc hh ss sv (3 : Int32) _ h) q_6_6 q_6_7 q_6_8 q_1_2 q_6_9 rfl 0 rfl rfl ydX6_bits ⟨⟨rfl, rfl⟩, ⟨Nat.le_of_ble_eq_true rfl, Nat.le_of_ble_eq_true rfl⟩⟩ ⟨Nat.zero_le _, Nat.zero_le _⟩ hP hD hS rfl hl.1 rfl (Nat.le_of_ble_eq_true rfl) dL_isRight_49 (fun r_49 u_49 H locs h hP hD hS => ?_)
              refine lv_if_ne (tgt := 70) hx hb dL_isRight_52 (by decide) (fun c_52 => ?_) (fun c_52 => ?_)
              · have h := h.1 c_52
                exact J_70 _ _ _ _ _ _ _ _ _ _ h _ _ _ hP hD hS (lv_sub hl [1, 2] rfl)
              · have h := h.2 c_52
                refine lv_goto (tgt := 66) hx hb dL_isRight_55 (by decide) ?_
                exact J_66 _ _ _ _ _ _ _ _ _ _ h _ _ _ hP hD hS (lv_sub hl [1, 2] rfl)
  refine lv_aload_n hx hb dL_isRight_0 rfl (lv_at hl 0 rfl) ?_
  refine lv_iconst (v := (0 : Int32)) hx hb dL_isRight_1 (by decide) ?_
  refine kc_Vi0 (As := [.int (0 : Int32)]) (rest := []) S hE (ctX6_total l G cy g a b t vn vf vs vp vq vd vo un uf us up uq ud uo tm tx hc hh ss sv (0 : Int32) _ h) q_4_16 q_4_17 q_4_18 q_1_2 q_4_19 rfl 0 rfl rfl ydX6_total ⟨⟨rfl, rfl⟩, ⟨Nat.le_of_ble_eq_true rfl, Nat.le_of_ble_eq_true rfl⟩⟩ ⟨Nat.zero_le _, Nat.zero_le _⟩ hP hD hS rfl hl.1 rfl (Nat.le_of_ble_eq_true rfl) dL_isRight_2 (fun r_2 u_2 H locs h hP hD hS => ?_)
  refine lv_istore_n (lv' := [(1, .int r_2), (0, .ref (g 0))]) hx hb dL_isRight_5 rfl hl (by decide) rfl (fun ls hl => ?_)
  refine lv_iload_n hx hb dL_isRight_6 rfl (lv_at hl 0 rfl) ?_
  refine lv_iconst (v := (3 : Int32)) hx hb dL_isRight_7 (by decide) ?_
  refine lv_icmp_le (tgt := 15) hx hb dL_isRight_8 (by decide) (fun c_8 => ?_) (fun c_8 => ?_)
  · have h := h.1 c_8
    refine lv_iconst (v := (0 : Int32)) hx hb dL_isRight_15 (by decide) ?_
    exact J_16 _ _ _ _ _ _ _ _ _ _ _ h _ _ _ hP hD hS (lv_sub hl [1, 0] rfl)
  · have h := h.2 c_8
    refine lv_iconst (v := (1 : Int32)) hx hb dL_isRight_11 (by decide) ?_
    refine lv_goto (tgt := 16) hx hb dL_isRight_12 (by decide) ?_
    exact J_16 _ _ _ _ _ _ _ _ _ _ _ h _ _ _ hP hD hS (lv_sub hl [1, 0] rfl)
