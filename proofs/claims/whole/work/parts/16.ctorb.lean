def sAF : Nat → Int32 := fun j => [200, 50, 500, 1000, 50, 10, 30, 50].getD j 0
def in_n : Nat → Int32 := upd (fun _ => 0) 5 (-5)
def in_f : Nat → UInt32 := vf_upd (fun _ => 0) 0 1120403456
def in_s : Nat → Int32 := va_cpy sAF (fun _ => 0) 0 0 8
def zi : Nat → Int32 := fun _ => 0
def zf : Nat → UInt32 := fun _ => 0
def adr (l : List Nat) : Nat → Nat := fun k => l.getD k 0
abbrev ini : Cx := (in_n, in_f, in_s, zi, zi, zi, zi)
/-- the table of the settings at first: the static and the array behind it -/
def xSZ : XT := fun A U => ∃ t : Nat, va_Z RX6 "SETTING_AT_FIRST" "[I" (.ref t) A U U.heap ∧ va_T .int t 8 (fun j => .int (sAF j)) A U U.heap
theorem xSZ_ok : xok xSZ := by
  rintro A U g mk a ⟨t, h1, h2⟩
  exact ⟨t, va_Z.moved (u := U) (U := U.calling g mk a) (Vm.Alike.refl U.vm) h1, va_T.moved (u := U) (U := U.calling g mk a) (Vm.Alike.refl U.vm) h2⟩
theorem xno_ok : xok xno := fun _ _ _ _ _ _ => trivial
theorem xSZ_at {A0 A2 : Nat → Prop} {s : State} {H : Heap} {locs : List Loc} (hx : xSZ A0 s) (hS : va_S A0 s.heap H locs) (hsub : ∀ q, A2 q → A0 q) : ∀ U : State, U.heap = H → s.WarmedH U.vm → xSZ A2 U := by
  obtain ⟨t, h1, h2⟩ := hx
  intro U hU hW
  refine ⟨t, ?_, ?_⟩
  · rw [hU]; exact ((h1.kept hS.2.1).moved hW.alike).narrow hsub
  · rw [hU]; exact ((h2.kept hS.2.1).moved hW.alike).narrow hsub
theorem va_A_sub {A0 : Nat → Prop} {L w0 R' : va_W} {H0 H : Heap} {locs : List Loc} (hD : va_D A0 (L ++ (w0 ++ R'))) (hS : va_S A0 H0 H locs) (hA : ∀ q : Nat, H0.size ≤ q → A0 q) : ∀ q, va_A w0 H.size q → A0 q := fun q h => by
  rcases va_A.cases h with h | h
  · exact fx_free hD.mid q h
  · exact hA q (Nat.le_trans hS.1 h)
section KSC
variable {p : Program} {l : Launch} {e : Env} {R : Room} {s : State} {m : MethodId} {args : Array Value} {below : List Frame} {meth : Method} {c : Code} {H : Heap} {locs : List Loc} {cells slots : Nat} {Q : State → Prop}
variable {G : va_G} {cy : Nat → ClassId} {own : String} {nL : Nat} {cc : ByteArray} {rest : List Value} {pc : Nat} {ls : Array Slot} {ws : va_W} {A : Nat → Prop} {a : Nat}
/-- k ints out of a static table, from its start to the start of a row of ours -/
theorem ks_copy (S : CallFix p m c cc nL s args wsL_law own) (hE : EV G cy s) (hP : va_P G vwCl ws H) (hD : va_D A ws) (hS : va_S A s.heap H locs) (hsz : ls.size = nL) {index : Nat} (hlink : Cond.methodLink own index arraycopyName ∈ wsL_law) {t n0 : Nat} {f : Nat → Int32} (hT : va_T .int t n0 (fun j => .int (f j)) A s s.heap) (q1 : Nat) {n1 : Nat} {g : Nat → Int32} (ha1 : ws[q1]? = some (a, .inl (cy 0, n1, .inl g))) {x : Int32} {k : Nat} (hx0 : ¬ x < 0) (hxk : x.toInt = (k : Int)) (hk : x.toNatClampNeg = k) (hk0 : k ≤ n0) (hk1 : k ≤ n1) (hframes : 1 ≤ R.frames) (hlocals : (rest.map fun v => v.category).sum + (nativeFrameWords "java/lang/System" "arraycopy" 5 + 11) ≤ R.locals) (hdg : decode cc pc = .ok (.invokestatic index, 3))
    (kk : ∀ (H1 : Heap) (locs1 : List Loc), va_P G vwCl (ws.set q1 (a, .inl (cy 0, n1, .inl (va_cpy f g 0 0 k)))) H1 → va_D A (ws.set q1 (a, .inl (cy 0, n1, .inl (va_cpy f g 0 0 k)))) → va_S A s.heap H1 locs1 → W p l e R s m args below meth c H1 locs1 cells slots Q (F0 m (pc + 3) ls rest)) : W p l e R s m args below meth c H locs cells slots Q (F0 m pc ls (.int x :: .int 0 :: .ref a :: .int 0 :: .ref t :: rest)) := by
  obtain ⟨tc, ht1, ⟨ht2, k0, hk2, cm0, hk3⟩, ht4, ht5, -, ht6, ht7⟩ := hT
  have hsrc : H[t]? = some tc := (hS.2.1 t (Array.getElem?_eq_some_iff.mp ht1).1 ht7).trans ht1
  have hdst : H[a]? = some (vp_cell (cy 0) (n1, .inl g)) := hP q1 _ ha1
  have hlt : a < H.size := (Array.getElem?_eq_some_iff.mp hdst).1
  obtain ⟨-, k1, hk4, cm1, hk5⟩ := (hE.1.2 0 _ rfl).1 n1 (fun j => .int (g j))
  have c0 : Int32.toNatClampNeg 0 = 0 := by decide +kernel
  have i0 : (0 : Int32).toInt = 0 := by decide +kernel
  have n0' : ¬ (0 : Int32) < 0 := by decide +kernel
  intro T hT0 X
  subst hT0
  obtain ⟨vm', X', step⟩ := X.arraycopy S.1 S.2.2.2.1 (S.2.2.2.2 _ hlink) (S.2.2.2.2 _ q_2_14) (S.2.2.2.2 _ q_2_15) (S.2.2.2.2 _ q_2_16) (src := t) (dst := a) (cs := tc) (cd := vp_cell (cy 0) (n1, .inl g)) (srcPos := 0) (destPos := 0) (n := x) hsrc hdst ht2 (fun _ h => by cases h) ht4 (fun h => by cases h) hk2 hk4 hk3 hk5 (by simp [refKind]) n0' n0' hx0
    (by rw [i0, hxk]; omega) (by rw [i0, hxk]; show ¬ _ > ((arrV (cy 0) n1 (fun j => .int (g j))).slots.size : Int); rw [arrV_size]; omega)
    (fun vm₁ _ i hi => by
      have e : tc.slots.getD ((0 : Int32).toNatClampNeg + i) .null = .int (f i) := by
        rw [Array.getD_eq_getD_getElem?, c0, Nat.zero_add, ht6 i (by omega)]
        rfl
      rw [e]
      exact ⟨rfl, trivial⟩)
    (g := F0 m pc ls (.int x :: .int 0 :: .ref a :: .int 0 :: .ref t :: rest)) rfl (by rw [S.2.2.1]; exact hsz) (rest := rest) rfl (by rw [S.2.1]; exact hdg) hframes (by show 2 * 0 + _ + _ ≤ _; omega)
  have e1 : copied tc (vp_cell (cy 0) (n1, .inl g)) 0 0 x = vp_cell (cy 0) (n1, .inl (va_cpy f g 0 0 k)) := by
    have := va_copiedX (fun z => .int z) tc (cy 0) (n1 := n1) (sp := 0) (dp := 0) (n := k) f g ht6 (by omega)
    rw [← hk] at this ⊢
    rw [← c0] at this ⊢
    exact this
  rw [e1] at X' step
  generalize hN : (vp_cell (cy 0) (n1, .inl (va_cpy f g 0 0 k))) = N at X' step
  have he : (T.heap.setIfInBounds a N)[a]? = some N := by simp [Array.getElem?_setIfInBounds, hlt]
  have ho : ∀ q : Nat, q ≠ a → (T.heap.setIfInBounds a N)[q]? = T.heap[q]? := fun q hq => by simp [Array.getElem?_setIfInBounds, Ne.symm hq]
  have hAa := hD.2 q1 _ ha1
  obtain ⟨t2, a1, b1⟩ := kk _ _ (hP.set hD ha1 (by show _ = some (vp_cell _ _); rw [hN]; exact he) ho) (hD.set ha1) ⟨by simp; exact hS.1, fun q g1 g2 => by
      rw [ho q (fun z => g2 (by rw [z]; exact hAa))]
      exact hS.2.1 q g1 g2, fun q hq => by
      rcases List.mem_append.mp hq with h | h
      · exact hS.2.2 q h
      · obtain ⟨z, -, hz⟩ := List.mem_map.mp h
        rw [← hz]
        exact hAa⟩ ((T.setVm vm').setCell a N) rfl X'
  exact ⟨t2, step t2 a1, b1⟩
end KSC
set_option maxRecDepth 100000 in
set_option maxHeartbeats 4000000 in
theorem ctX3_init (l : Launch) (G : va_G) (cy : Nat → ClassId) (h sz : Nat) : Met l yX3_init (ws_ yX3_init cX3_init 1 none) ({ frames := 1, cells := 0, slots := 0, locals := 12 } : Room) (CN G cy xno [.ref h] ([(h, .inr (3, [.int 0, .int 0, .int 0, .int 0, .int 0]))]) sz) (RN G (fun u : Unit => True) (fun u => [(h, .inr (3, [.int 0, .int 0, .int 0, .int 0, .int 0]))]) (va_A ([(h, .inr (3, [.int 0, .int 0, .int 0, .int 0, .int 0]))]) sz)) 0 0 (va_A ([(h, .inr (3, [.int 0, .int 0, .int 0, .int 0, .int 0]))]) sz) := by
  refine hd_goN (Qf := fun A => RN G (fun u : Unit => True) (fun u => [(h, .inr (3, [.int 0, .int 0, .int 0, .int 0, .int 0]))]) A) (by decide +kernel) (Nat.le_of_ble_eq_true rfl) ?_
  intro p e s m below meth c ls A hx hb hr hlocks hin S hE hEx hA hP hD hS hl
  have hl : lv_has ls 1 [(0, .ref h)] := hl
  refine lv_aload_n hx hb dX3_init_0 rfl (lv_at hl 0 rfl) ?_
  refine ki S q_3_19 hl.1 (Nat.le_of_ble_eq_true rfl) (Nat.le_of_ble_eq_true rfl) dX3_init_1 ?_
  refine W.widen (k := 0) (n := 0) (Nat.le_of_ble_eq_true rfl) (Nat.le_of_ble_eq_true rfl) ?_
  exact W.vret hx hb hr (fun t ht hW => ⟨⟨(), rfl, trivial, ⟨hp_at ht hP, hD⟩⟩, hS.F ht⟩) hS.2.2 dX3_init_4
set_option maxRecDepth 100000 in
set_option maxHeartbeats 4000000 in
theorem ctX0_init (l : Launch) (G : va_G) (cy : Nat → ClassId) (h sz : Nat) : Met l yX0_init (ws_ yX0_init cX0_init 1 none) ({ frames := 1, cells := 1, slots := 80, locals := 12 } : Room) (CN G cy xno [.ref h] ([(h, .inr (0, [.int 0, .null]))]) sz) (RN G (fun u : Nat → Nat => u 0 = h) (fun u => tx_W cy u zi zi) (va_A ([(h, .inr (0, [.int 0, .null]))]) sz)) 1 80 (va_A ([(h, .inr (0, [.int 0, .null]))]) sz) := by
  refine hd_goN (Qf := fun A => RN G (fun u : Nat → Nat => u 0 = h) (fun u => tx_W cy u zi zi) A) (by decide +kernel) (Nat.le_of_ble_eq_true rfl) ?_
  intro p e s m below meth c ls A hx hb hr hlocks hin S hE hEx hA hP hD hS hl
  have hl : lv_has ls 1 [(0, .ref h)] := hl
  refine lv_aload_n hx hb dX0_init_0 rfl (lv_at hl 0 rfl) ?_
  refine ki S q_4_6 hl.1 (Nat.le_of_ble_eq_true rfl) (Nat.le_of_ble_eq_true rfl) dX0_init_1 ?_
  refine lv_aload_n hx hb dX0_init_4 rfl (lv_at hl 0 rfl) ?_
  refine lv_bipush (v := 80) hx hb dX0_init_5 (by decide) ?_
  refine kn S hE (atype := .byte) (ty := .byte) (j := 2) (a0 := (80, .inl (fun _ => 0))) rfl q_4_7 rfl (fun _ h => h) hP hD hS hA (fun _ => rfl) (by decide +kernel) tc_80 (by decide) (Nat.le_of_ble_eq_true rfl) (Nat.le_of_ble_eq_true rfl) dX0_init_7 (fun q H hP hD hS => ?_)
  have hP : va_P G vwCl ([(h, .inr (0, [.int 0, .null])), (q, .inl (cy 2, 80, .inl (fun _ => 0)))]) H := hP
  have hD : va_D A ([(h, .inr (0, [.int 0, .null])), (q, .inl (cy 2, 80, .inl (fun _ => 0)))]) := hD
  refine kpF S hE hin hP hD hS 0 rfl rfl 1 (by decide) q_4_8 rfl rfl tyX0_ok nmX0 inlX0 rfl rfl (Nat.le_of_ble_eq_true rfl) dX0_init_9 (fun H locs hP hD hS => ?_)
  have hP : va_P G vwCl ([(h, .inr (0, [.int 0, .ref q])), (q, .inl (cy 2, 80, .inl (fun _ => 0)))]) H := hP
  have hD : va_D A ([(h, .inr (0, [.int 0, .ref q])), (q, .inl (cy 2, 80, .inl (fun _ => 0)))]) := hD
  refine W.widen (k := 1) (n := 80) (Nat.le_of_ble_eq_true rfl) (Nat.le_of_ble_eq_true rfl) ?_
  exact W.vret hx hb hr (fun t ht hW => ⟨⟨adr [h, q], rfl, rfl, ⟨hp_at ht hP, hD⟩⟩, hS.F ht⟩) hS.2.2 dX0_init_12
set_option maxRecDepth 100000 in
set_option maxHeartbeats 4000000 in
theorem ctX2_init (l : Launch) (G : va_G) (cy : Nat → ClassId) (h sz : Nat) : Met l yX2_init (ws_ yX2_init cX2_init 1 none) ({ frames := 1, cells := 2, slots := 12, locals := 12 } : Room) (CN G cy xno [.ref h] ([(h, .inr (2, [.int 0, .null, .null]))]) sz) (RN G (fun u : Nat × Nat => True) (fun u => [(h, .inr (2, [.int 0, .ref u.1, .ref u.2])), (u.1, .inl (cy 0, 6, .inl (fun _ => 0))), (u.2, .inl (cy 0, 6, .inl (fun _ => 0)))]) (va_A ([(h, .inr (2, [.int 0, .null, .null]))]) sz)) 2 12 (va_A ([(h, .inr (2, [.int 0, .null, .null]))]) sz) := by
  refine hd_goN (Qf := fun A => RN G (fun u : Nat × Nat => True) (fun u => [(h, .inr (2, [.int 0, .ref u.1, .ref u.2])), (u.1, .inl (cy 0, 6, .inl (fun _ => 0))), (u.2, .inl (cy 0, 6, .inl (fun _ => 0)))]) A) (by decide +kernel) (Nat.le_of_ble_eq_true rfl) ?_
  intro p e s m below meth c ls A hx hb hr hlocks hin S hE hEx hA hP hD hS hl
  have hl : lv_has ls 1 [(0, .ref h)] := hl
  refine lv_aload_n hx hb dX2_init_0 rfl (lv_at hl 0 rfl) ?_
  refine ki S q_3_8 hl.1 (Nat.le_of_ble_eq_true rfl) (Nat.le_of_ble_eq_true rfl) dX2_init_1 ?_
  refine lv_aload_n hx hb dX2_init_4 rfl (lv_at hl 0 rfl) ?_
  refine lv_bipush (v := 6) hx hb dX2_init_5 (by decide) ?_
  refine kn S hE (atype := .int) (ty := .int) (j := 0) (a0 := (6, .inl (fun _ => 0))) rfl q_2_11 rfl (fun _ h => h) hP hD hS hA (fun _ => rfl) (by decide +kernel) tc_6 (by decide) (Nat.le_of_ble_eq_true rfl) (Nat.le_of_ble_eq_true rfl) dX2_init_7 (fun q1 H hP hD hS => ?_)
  have hP : va_P G vwCl ([(h, .inr (2, [.int 0, .null, .null])), (q1, .inl (cy 0, 6, .inl (fun _ => 0)))]) H := hP
  have hD : va_D A ([(h, .inr (2, [.int 0, .null, .null])), (q1, .inl (cy 0, 6, .inl (fun _ => 0)))]) := hD
  refine kpF S hE hin hP hD hS 0 rfl rfl 1 (by decide) q_3_9 rfl rfl tyX2_ok nmX2 inlX2 rfl rfl (Nat.le_of_ble_eq_true rfl) dX2_init_9 (fun H locs hP hD hS => ?_)
  have hP : va_P G vwCl ([(h, .inr (2, [.int 0, .ref q1, .null])), (q1, .inl (cy 0, 6, .inl (fun _ => 0)))]) H := hP
  have hD : va_D A ([(h, .inr (2, [.int 0, .ref q1, .null])), (q1, .inl (cy 0, 6, .inl (fun _ => 0)))]) := hD
  refine lv_aload_n hx hb dX2_init_12 rfl (lv_at hl 0 rfl) ?_
  refine lv_bipush (v := 6) hx hb dX2_init_13 (by decide) ?_
  refine kn S hE (atype := .int) (ty := .int) (j := 0) (a0 := (6, .inl (fun _ => 0))) rfl q_2_11 rfl (fun _ h => h) hP hD hS hA (fun _ => rfl) (by decide +kernel) tc_6 (by decide) (Nat.le_of_ble_eq_true rfl) (Nat.le_of_ble_eq_true rfl) dX2_init_15 (fun q2 H hP hD hS => ?_)
  have hP : va_P G vwCl ([(h, .inr (2, [.int 0, .ref q1, .null])), (q1, .inl (cy 0, 6, .inl (fun _ => 0))), (q2, .inl (cy 0, 6, .inl (fun _ => 0)))]) H := hP
  have hD : va_D A ([(h, .inr (2, [.int 0, .ref q1, .null])), (q1, .inl (cy 0, 6, .inl (fun _ => 0))), (q2, .inl (cy 0, 6, .inl (fun _ => 0)))]) := hD
  refine kpF S hE hin hP hD hS 0 rfl rfl 2 (by decide) q_3_10 rfl rfl tyX2_ok nmX2 inlX2 rfl rfl (Nat.le_of_ble_eq_true rfl) dX2_init_17 (fun H locs hP hD hS => ?_)
  have hP : va_P G vwCl ([(h, .inr (2, [.int 0, .ref q1, .ref q2])), (q1, .inl (cy 0, 6, .inl (fun _ => 0))), (q2, .inl (cy 0, 6, .inl (fun _ => 0)))]) H := hP
  have hD : va_D A ([(h, .inr (2, [.int 0, .ref q1, .ref q2])), (q1, .inl (cy 0, 6, .inl (fun _ => 0))), (q2, .inl (cy 0, 6, .inl (fun _ => 0)))]) := hD
  refine W.widen (k := 2) (n := 12) (Nat.le_of_ble_eq_true rfl) (Nat.le_of_ble_eq_true rfl) ?_
  exact W.vret hx hb hr (fun t ht hW => ⟨⟨(q1, q2), rfl, trivial, ⟨hp_at ht hP, hD⟩⟩, hS.F ht⟩) hS.2.2 dX2_init_20
set_option maxRecDepth 100000 in
set_option maxHeartbeats 4000000 in
theorem ctX5_init (l : Launch) (G : va_G) (cy : Nat → ClassId) (h sz : Nat) : Met l yX5_init (ws_ yX5_init cX5_init 1 none) ({ frames := 1, cells := 2, slots := 8, locals := 12 } : Room) (CN G cy xno [.ref h] ([(h, .inr (5, [.int 0, .null, .null]))]) sz) (RN G (fun u : Nat × Nat => True) (fun u => [(h, .inr (5, [.int 0, .ref u.1, .ref u.2])), (u.1, .inl (cy 0, 4, .inl (fun _ => 0))), (u.2, .inl (cy 3, 4, .inl (fun _ => 0)))]) (va_A ([(h, .inr (5, [.int 0, .null, .null]))]) sz)) 2 8 (va_A ([(h, .inr (5, [.int 0, .null, .null]))]) sz) := by
  refine hd_goN (Qf := fun A => RN G (fun u : Nat × Nat => True) (fun u => [(h, .inr (5, [.int 0, .ref u.1, .ref u.2])), (u.1, .inl (cy 0, 4, .inl (fun _ => 0))), (u.2, .inl (cy 3, 4, .inl (fun _ => 0)))]) A) (by decide +kernel) (Nat.le_of_ble_eq_true rfl) ?_
  intro p e s m below meth c ls A hx hb hr hlocks hin S hE hEx hA hP hD hS hl
  have hl : lv_has ls 1 [(0, .ref h)] := hl
  refine lv_aload_n hx hb dX5_init_0 rfl (lv_at hl 0 rfl) ?_
  refine ki S q_3_14 hl.1 (Nat.le_of_ble_eq_true rfl) (Nat.le_of_ble_eq_true rfl) dX5_init_1 ?_
  refine lv_aload_n hx hb dX5_init_4 rfl (lv_at hl 0 rfl) ?_
  refine lv_iconst (v := 4) hx hb dX5_init_5 (by decide) ?_
  refine kn S hE (atype := .int) (ty := .int) (j := 0) (a0 := (4, .inl (fun _ => 0))) rfl q_2_11 rfl (fun _ h => h) hP hD hS hA (fun _ => rfl) (by decide +kernel) tc_4 (by decide) (Nat.le_of_ble_eq_true rfl) (Nat.le_of_ble_eq_true rfl) dX5_init_6 (fun q1 H hP hD hS => ?_)
  have hP : va_P G vwCl ([(h, .inr (5, [.int 0, .null, .null])), (q1, .inl (cy 0, 4, .inl (fun _ => 0)))]) H := hP
  have hD : va_D A ([(h, .inr (5, [.int 0, .null, .null])), (q1, .inl (cy 0, 4, .inl (fun _ => 0)))]) := hD
  refine kpF S hE hin hP hD hS 0 rfl rfl 1 (by decide) q_3_15 rfl rfl tyX5_ok nmX5 inlX5 rfl rfl (Nat.le_of_ble_eq_true rfl) dX5_init_8 (fun H locs hP hD hS => ?_)
  have hP : va_P G vwCl ([(h, .inr (5, [.int 0, .ref q1, .null])), (q1, .inl (cy 0, 4, .inl (fun _ => 0)))]) H := hP
  have hD : va_D A ([(h, .inr (5, [.int 0, .ref q1, .null])), (q1, .inl (cy 0, 4, .inl (fun _ => 0)))]) := hD
  refine lv_aload_n hx hb dX5_init_11 rfl (lv_at hl 0 rfl) ?_
  refine lv_iconst (v := 4) hx hb dX5_init_12 (by decide) ?_
  refine kn S hE (atype := .boolean) (ty := .boolean) (j := 3) (a0 := (4, .inl (fun _ => 0))) rfl q_1_22 rfl (fun _ h => h) hP hD hS hA (fun _ => rfl) (by decide +kernel) tc_4 (by decide) (Nat.le_of_ble_eq_true rfl) (Nat.le_of_ble_eq_true rfl) dX5_init_13 (fun q2 H hP hD hS => ?_)
  have hP : va_P G vwCl ([(h, .inr (5, [.int 0, .ref q1, .null])), (q1, .inl (cy 0, 4, .inl (fun _ => 0))), (q2, .inl (cy 3, 4, .inl (fun _ => 0)))]) H := hP
  have hD : va_D A ([(h, .inr (5, [.int 0, .ref q1, .null])), (q1, .inl (cy 0, 4, .inl (fun _ => 0))), (q2, .inl (cy 3, 4, .inl (fun _ => 0)))]) := hD
  refine kpF S hE hin hP hD hS 0 rfl rfl 2 (by decide) q_3_16 rfl rfl tyX5_ok nmX5 inlX5 rfl rfl (Nat.le_of_ble_eq_true rfl) dX5_init_15 (fun H locs hP hD hS => ?_)
  have hP : va_P G vwCl ([(h, .inr (5, [.int 0, .ref q1, .ref q2])), (q1, .inl (cy 0, 4, .inl (fun _ => 0))), (q2, .inl (cy 3, 4, .inl (fun _ => 0)))]) H := hP
  have hD : va_D A ([(h, .inr (5, [.int 0, .ref q1, .ref q2])), (q1, .inl (cy 0, 4, .inl (fun _ => 0))), (q2, .inl (cy 3, 4, .inl (fun _ => 0)))]) := hD
  refine W.widen (k := 2) (n := 8) (Nat.le_of_ble_eq_true rfl) (Nat.le_of_ble_eq_true rfl) ?_
  exact W.vret hx hb hr (fun t ht hW => ⟨⟨(q1, q2), rfl, trivial, ⟨hp_at ht hP, hD⟩⟩, hS.F ht⟩) hS.2.2 dX5_init_18
set_option maxRecDepth 100000 in
set_option maxHeartbeats 4000000 in
theorem ctX4_init (l : Launch) (G : va_G) (cy : Nat → ClassId) (h sz : Nat) : Met l yX4_init (ws_ yX4_init cX4_init 1 none) ({ frames := 2, cells := 8, slots := 39, locals := 40 } : Room) (CN G cy xSZ [.ref h] ([(h, .inr (4, [.float 0, .float 0, .float 0, .float 0, .int 0, .int 0, .float 0, .int 0, .int 0, .int 0, .null, .null, .null, .null]))]) sz) (RN G (fun u : Nat → Nat => u 0 = h) (fun u => st_W cy u in_n in_f in_s zi zi zi zi) (va_A ([(h, .inr (4, [.float 0, .float 0, .float 0, .float 0, .int 0, .int 0, .float 0, .int 0, .int 0, .int 0, .null, .null, .null, .null]))]) sz)) 8 39 (va_A ([(h, .inr (4, [.float 0, .float 0, .float 0, .float 0, .int 0, .int 0, .float 0, .int 0, .int 0, .int 0, .null, .null, .null, .null]))]) sz) := by
  refine hd_goN (Qf := fun A => RN G (fun u : Nat → Nat => u 0 = h) (fun u => st_W cy u in_n in_f in_s zi zi zi zi) A) (by decide +kernel) (Nat.le_of_ble_eq_true rfl) ?_
  intro p e s m below meth c ls A hx hb hr hlocks hin S hE hEx hA hP hD hS hl
  have hl : lv_has ls 1 [(0, .ref h)] := hl
  refine lv_aload_n hx hb dX4_init_0 rfl (lv_at hl 0 rfl) ?_
  refine ki S q_2_7 hl.1 (Nat.le_of_ble_eq_true rfl) (Nat.le_of_ble_eq_true rfl) dX4_init_1 ?_
  refine lv_aload_n hx hb dX4_init_4 rfl (lv_at hl 0 rfl) ?_
  refine lv_ldcf hx hb S.2.2.2.1 (S.2.2.2.2 _ q_2_8) dX4_init_5 ?_
  refine kp S hE hP hD hS 0 rfl rfl 0 (by decide) q_2_9 rfl rfl tyX4_ok nmX4 inlX4 rfl rfl (Nat.le_of_ble_eq_true rfl) dX4_init_7 (fun H locs hP hD hS => ?_)
  have hP : va_P G vwCl ([(h, .inr (4, [.float 1120403456, .float 0, .float 0, .float 0, .int 0, .int 0, .float 0, .int 0, .int 0, .int 0, .null, .null, .null, .null]))]) H := hP
  have hD : va_D A ([(h, .inr (4, [.float 1120403456, .float 0, .float 0, .float 0, .int 0, .int 0, .float 0, .int 0, .int 0, .int 0, .null, .null, .null, .null]))]) := hD
  refine lv_aload_n hx hb dX4_init_10 rfl (lv_at hl 0 rfl) ?_
  refine lv_bipush (v := -5) hx hb dX4_init_11 (by decide) ?_
  refine kp S hE hP hD hS 0 rfl rfl 5 (by decide) q_2_10 rfl rfl tyX4_ok nmX4 inlX4 rfl rfl (Nat.le_of_ble_eq_true rfl) dX4_init_13 (fun H locs hP hD hS => ?_)
  have hP : va_P G vwCl ([(h, .inr (4, [.float 1120403456, .float 0, .float 0, .float 0, .int 0, .int (-5), .float 0, .int 0, .int 0, .int 0, .null, .null, .null, .null]))]) H := hP
  have hD : va_D A ([(h, .inr (4, [.float 1120403456, .float 0, .float 0, .float 0, .int 0, .int (-5), .float 0, .int 0, .int 0, .int 0, .null, .null, .null, .null]))]) := hD
  refine lv_aload_n hx hb dX4_init_16 rfl (lv_at hl 0 rfl) ?_
  refine lv_bipush (v := 8) hx hb dX4_init_17 (by decide) ?_
  refine kn S hE (atype := .int) (ty := .int) (j := 0) (a0 := (8, .inl (fun _ => 0))) rfl q_2_11 rfl (fun _ h => h) hP hD hS hA (fun _ => rfl) (by decide +kernel) tc_8 (by decide) (Nat.le_of_ble_eq_true rfl) (Nat.le_of_ble_eq_true rfl) dX4_init_19 (fun q1 H hP hD hS => ?_)
  have hP : va_P G vwCl ([(h, .inr (4, [.float 1120403456, .float 0, .float 0, .float 0, .int 0, .int (-5), .float 0, .int 0, .int 0, .int 0, .null, .null, .null, .null])), (q1, .inl (cy 0, 8, .inl (fun _ => 0)))]) H := hP
  have hD : va_D A ([(h, .inr (4, [.float 1120403456, .float 0, .float 0, .float 0, .int 0, .int (-5), .float 0, .int 0, .int 0, .int 0, .null, .null, .null, .null])), (q1, .inl (cy 0, 8, .inl (fun _ => 0)))]) := hD
  refine kpF S hE hin hP hD hS 0 rfl rfl 10 (by decide) q_2_12 rfl rfl tyX4_ok nmX4 inlX4 rfl rfl (Nat.le_of_ble_eq_true rfl) dX4_init_21 (fun H locs hP hD hS => ?_)
  have hP : va_P G vwCl ([(h, .inr (4, [.float 1120403456, .float 0, .float 0, .float 0, .int 0, .int (-5), .float 0, .int 0, .int 0, .int 0, .ref q1, .null, .null, .null])), (q1, .inl (cy 0, 8, .inl (fun _ => 0)))]) H := hP
  have hD : va_D A ([(h, .inr (4, [.float 1120403456, .float 0, .float 0, .float 0, .int 0, .int (-5), .float 0, .int 0, .int 0, .int 0, .ref q1, .null, .null, .null])), (q1, .inl (cy 0, 8, .inl (fun _ => 0)))]) := hD
  obtain ⟨tb, hZ, hT⟩ := id hEx
  refine va_getsN hx hb hZ hS S.2.2.2.1 (va_Nw.use rfl hE.2.2.2.2.2.1) (fun _ h => h) dX4_init_24 ?_
  refine lv_iconst (v := 0) hx hb dX4_init_27 (by decide) ?_
  refine lv_aload_n hx hb dX4_init_28 rfl (lv_at hl 0 rfl) ?_
  refine kg (v := .ref q1) S hE hP 0 rfl rfl 10 (by decide) q_2_12 rfl rfl inlX4 dX4_init_29 ?_
  refine lv_iconst (v := 0) hx hb dX4_init_32 (by decide) ?_
  refine lv_bipush (v := 8) hx hb dX4_init_33 (by decide) ?_
  refine ks_copy S hE hP hD hS hl.1 q_2_13 hT 1 rfl (k := 8) (by decide +kernel) (by decide +kernel) tc_8 (by decide) (by decide) (Nat.le_of_ble_eq_true rfl) (Nat.le_of_ble_eq_true rfl) dX4_init_35 (fun H locs hP hD hS => ?_)
  have hP : va_P G vwCl ([(h, .inr (4, [.float 1120403456, .float 0, .float 0, .float 0, .int 0, .int (-5), .float 0, .int 0, .int 0, .int 0, .ref q1, .null, .null, .null])), (q1, .inl (cy 0, 8, .inl in_s))]) H := hP
  have hD : va_D A ([(h, .inr (4, [.float 1120403456, .float 0, .float 0, .float 0, .int 0, .int (-5), .float 0, .int 0, .int 0, .int 0, .ref q1, .null, .null, .null])), (q1, .inl (cy 0, 8, .inl in_s))]) := hD
  refine lv_aload_n hx hb dX4_init_38 rfl (lv_at hl 0 rfl) ?_
  refine kw (ci := 2) (fs := [.int 0, .null, .null]) S hE inlX2 tyX2_ok q_2_17 q_2_18 q_2_19 hP hD hS hA rfl (fun j hj => by rcases (show j = 0 ∨ j = 1 ∨ j = 2 by omega) with rfl | rfl | rfl <;> rfl) (Nat.le_of_ble_eq_true rfl) (Nat.le_of_ble_eq_true rfl) dX4_init_39 (fun q2 H hP hD hS => ?_)
  have hP : va_P G vwCl ([(h, .inr (4, [.float 1120403456, .float 0, .float 0, .float 0, .int 0, .int (-5), .float 0, .int 0, .int 0, .int 0, .ref q1, .null, .null, .null])), (q1, .inl (cy 0, 8, .inl in_s)), (q2, .inr (2, [.int 0, .null, .null]))]) H := hP
  have hD : va_D A ([(h, .inr (4, [.float 1120403456, .float 0, .float 0, .float 0, .int 0, .int (-5), .float 0, .int 0, .int 0, .int 0, .ref q1, .null, .null, .null])), (q1, .inl (cy 0, 8, .inl in_s)), (q2, .inr (2, [.int 0, .null, .null]))]) := hD
  refine lv_dup hx hb dX4_init_42 rfl ?_
  refine kc_I (L := [(h, .inr (4, [.float 1120403456, .float 0, .float 0, .float 0, .int 0, .int (-5), .float 0, .int 0, .int 0, .int 0, .ref q1, .null, .null, .null])), (q1, .inl (cy 0, 8, .inl in_s))]) (w0 := [(q2, .inr (2, [.int 0, .null, .null]))]) (R' := []) (Ex := xno) S hE xno_ok (ctX2_init l G cy q2 H.size) q_3_5 q_3_6 q_2_19 q_3_7 rfl ydX2_init ⟨⟨rfl, rfl⟩, ⟨Nat.le_of_ble_eq_true rfl, Nat.le_of_ble_eq_true rfl⟩⟩ ⟨Nat.le_of_ble_eq_true rfl, Nat.le_of_ble_eq_true rfl⟩ hP hD hS hA (fun _ _ _ => trivial) hl.1 (Nat.le_of_ble_eq_true rfl) dX4_init_43 (fun u38 H locs hk_43 hP hD hS => ?_)
  have hP : va_P G vwCl ([(h, .inr (4, [.float 1120403456, .float 0, .float 0, .float 0, .int 0, .int (-5), .float 0, .int 0, .int 0, .int 0, .ref q1, .null, .null, .null])), (q1, .inl (cy 0, 8, .inl in_s)), (q2, .inr (2, [.int 0, .ref u38.1, .ref u38.2])), (u38.1, .inl (cy 0, 6, .inl (fun _ => 0))), (u38.2, .inl (cy 0, 6, .inl (fun _ => 0)))]) H := hP
  have hD : va_D A ([(h, .inr (4, [.float 1120403456, .float 0, .float 0, .float 0, .int 0, .int (-5), .float 0, .int 0, .int 0, .int 0, .ref q1, .null, .null, .null])), (q1, .inl (cy 0, 8, .inl in_s)), (q2, .inr (2, [.int 0, .ref u38.1, .ref u38.2])), (u38.1, .inl (cy 0, 6, .inl (fun _ => 0))), (u38.2, .inl (cy 0, 6, .inl (fun _ => 0)))]) := hD
  refine kpF S hE hin hP hD hS 0 rfl rfl 11 (by decide) q_2_20 rfl rfl tyX4_ok nmX4 inlX4 rfl rfl (Nat.le_of_ble_eq_true rfl) dX4_init_46 (fun H locs hP hD hS => ?_)
  have hP : va_P G vwCl ([(h, .inr (4, [.float 1120403456, .float 0, .float 0, .float 0, .int 0, .int (-5), .float 0, .int 0, .int 0, .int 0, .ref q1, .ref q2, .null, .null])), (q1, .inl (cy 0, 8, .inl in_s)), (q2, .inr (2, [.int 0, .ref u38.1, .ref u38.2])), (u38.1, .inl (cy 0, 6, .inl (fun _ => 0))), (u38.2, .inl (cy 0, 6, .inl (fun _ => 0)))]) H := hP
  have hD : va_D A ([(h, .inr (4, [.float 1120403456, .float 0, .float 0, .float 0, .int 0, .int (-5), .float 0, .int 0, .int 0, .int 0, .ref q1, .ref q2, .null, .null])), (q1, .inl (cy 0, 8, .inl in_s)), (q2, .inr (2, [.int 0, .ref u38.1, .ref u38.2])), (u38.1, .inl (cy 0, 6, .inl (fun _ => 0))), (u38.2, .inl (cy 0, 6, .inl (fun _ => 0)))]) := hD
  refine lv_aload_n hx hb dX4_init_49 rfl (lv_at hl 0 rfl) ?_
  refine kw (ci := 5) (fs := [.int 0, .null, .null]) S hE inlX5 tyX5_ok q_2_21 q_2_22 q_2_23 hP hD hS hA rfl (fun j hj => by rcases (show j = 0 ∨ j = 1 ∨ j = 2 by omega) with rfl | rfl | rfl <;> rfl) (Nat.le_of_ble_eq_true rfl) (Nat.le_of_ble_eq_true rfl) dX4_init_50 (fun q5 H hP hD hS => ?_)
  have hP : va_P G vwCl ([(h, .inr (4, [.float 1120403456, .float 0, .float 0, .float 0, .int 0, .int (-5), .float 0, .int 0, .int 0, .int 0, .ref q1, .ref q2, .null, .null])), (q1, .inl (cy 0, 8, .inl in_s)), (q2, .inr (2, [.int 0, .ref u38.1, .ref u38.2])), (u38.1, .inl (cy 0, 6, .inl (fun _ => 0))), (u38.2, .inl (cy 0, 6, .inl (fun _ => 0))), (q5, .inr (5, [.int 0, .null, .null]))]) H := hP
  have hD : va_D A ([(h, .inr (4, [.float 1120403456, .float 0, .float 0, .float 0, .int 0, .int (-5), .float 0, .int 0, .int 0, .int 0, .ref q1, .ref q2, .null, .null])), (q1, .inl (cy 0, 8, .inl in_s)), (q2, .inr (2, [.int 0, .ref u38.1, .ref u38.2])), (u38.1, .inl (cy 0, 6, .inl (fun _ => 0))), (u38.2, .inl (cy 0, 6, .inl (fun _ => 0))), (q5, .inr (5, [.int 0, .null, .null]))]) := hD
  refine lv_dup hx hb dX4_init_53 rfl ?_
  refine kc_I (L := [(h, .inr (4, [.float 1120403456, .float 0, .float 0, .float 0, .int 0, .int (-5), .float 0, .int 0, .int 0, .int 0, .ref q1, .ref q2, .null, .null])), (q1, .inl (cy 0, 8, .inl in_s)), (q2, .inr (2, [.int 0, .ref u38.1, .ref u38.2])), (u38.1, .inl (cy 0, 6, .inl (fun _ => 0))), (u38.2, .inl (cy 0, 6, .inl (fun _ => 0)))]) (w0 := [(q5, .inr (5, [.int 0, .null, .null]))]) (R' := []) (Ex := xno) S hE xno_ok (ctX5_init l G cy q5 H.size) q_3_11 q_3_12 q_2_23 q_3_13 rfl ydX5_init ⟨⟨rfl, rfl⟩, ⟨Nat.le_of_ble_eq_true rfl, Nat.le_of_ble_eq_true rfl⟩⟩ ⟨Nat.le_of_ble_eq_true rfl, Nat.le_of_ble_eq_true rfl⟩ hP hD hS hA (fun _ _ _ => trivial) hl.1 (Nat.le_of_ble_eq_true rfl) dX4_init_54 (fun u49 H locs hk_54 hP hD hS => ?_)
  have hP : va_P G vwCl ([(h, .inr (4, [.float 1120403456, .float 0, .float 0, .float 0, .int 0, .int (-5), .float 0, .int 0, .int 0, .int 0, .ref q1, .ref q2, .null, .null])), (q1, .inl (cy 0, 8, .inl in_s)), (q2, .inr (2, [.int 0, .ref u38.1, .ref u38.2])), (u38.1, .inl (cy 0, 6, .inl (fun _ => 0))), (u38.2, .inl (cy 0, 6, .inl (fun _ => 0))), (q5, .inr (5, [.int 0, .ref u49.1, .ref u49.2])), (u49.1, .inl (cy 0, 4, .inl (fun _ => 0))), (u49.2, .inl (cy 3, 4, .inl (fun _ => 0)))]) H := hP
  have hD : va_D A ([(h, .inr (4, [.float 1120403456, .float 0, .float 0, .float 0, .int 0, .int (-5), .float 0, .int 0, .int 0, .int 0, .ref q1, .ref q2, .null, .null])), (q1, .inl (cy 0, 8, .inl in_s)), (q2, .inr (2, [.int 0, .ref u38.1, .ref u38.2])), (u38.1, .inl (cy 0, 6, .inl (fun _ => 0))), (u38.2, .inl (cy 0, 6, .inl (fun _ => 0))), (q5, .inr (5, [.int 0, .ref u49.1, .ref u49.2])), (u49.1, .inl (cy 0, 4, .inl (fun _ => 0))), (u49.2, .inl (cy 3, 4, .inl (fun _ => 0)))]) := hD
  refine kpF S hE hin hP hD hS 0 rfl rfl 12 (by decide) q_3_0 rfl rfl tyX4_ok nmX4 inlX4 rfl rfl (Nat.le_of_ble_eq_true rfl) dX4_init_57 (fun H locs hP hD hS => ?_)
  have hP : va_P G vwCl ([(h, .inr (4, [.float 1120403456, .float 0, .float 0, .float 0, .int 0, .int (-5), .float 0, .int 0, .int 0, .int 0, .ref q1, .ref q2, .ref q5, .null])), (q1, .inl (cy 0, 8, .inl in_s)), (q2, .inr (2, [.int 0, .ref u38.1, .ref u38.2])), (u38.1, .inl (cy 0, 6, .inl (fun _ => 0))), (u38.2, .inl (cy 0, 6, .inl (fun _ => 0))), (q5, .inr (5, [.int 0, .ref u49.1, .ref u49.2])), (u49.1, .inl (cy 0, 4, .inl (fun _ => 0))), (u49.2, .inl (cy 3, 4, .inl (fun _ => 0)))]) H := hP
  have hD : va_D A ([(h, .inr (4, [.float 1120403456, .float 0, .float 0, .float 0, .int 0, .int (-5), .float 0, .int 0, .int 0, .int 0, .ref q1, .ref q2, .ref q5, .null])), (q1, .inl (cy 0, 8, .inl in_s)), (q2, .inr (2, [.int 0, .ref u38.1, .ref u38.2])), (u38.1, .inl (cy 0, 6, .inl (fun _ => 0))), (u38.2, .inl (cy 0, 6, .inl (fun _ => 0))), (q5, .inr (5, [.int 0, .ref u49.1, .ref u49.2])), (u49.1, .inl (cy 0, 4, .inl (fun _ => 0))), (u49.2, .inl (cy 3, 4, .inl (fun _ => 0)))]) := hD
  refine lv_aload_n hx hb dX4_init_60 rfl (lv_at hl 0 rfl) ?_
  refine kw (ci := 3) (fs := [.int 0, .int 0, .int 0, .int 0, .int 0]) S hE inlX3 tyX3_ok q_3_1 q_3_2 q_3_3 hP hD hS hA rfl (fun j hj => by rcases (show j = 0 ∨ j = 1 ∨ j = 2 ∨ j = 3 ∨ j = 4 by omega) with rfl | rfl | rfl | rfl | rfl <;> rfl) (Nat.le_of_ble_eq_true rfl) (Nat.le_of_ble_eq_true rfl) dX4_init_61 (fun q8 H hP hD hS => ?_)
  have hP : va_P G vwCl ([(h, .inr (4, [.float 1120403456, .float 0, .float 0, .float 0, .int 0, .int (-5), .float 0, .int 0, .int 0, .int 0, .ref q1, .ref q2, .ref q5, .null])), (q1, .inl (cy 0, 8, .inl in_s)), (q2, .inr (2, [.int 0, .ref u38.1, .ref u38.2])), (u38.1, .inl (cy 0, 6, .inl (fun _ => 0))), (u38.2, .inl (cy 0, 6, .inl (fun _ => 0))), (q5, .inr (5, [.int 0, .ref u49.1, .ref u49.2])), (u49.1, .inl (cy 0, 4, .inl (fun _ => 0))), (u49.2, .inl (cy 3, 4, .inl (fun _ => 0))), (q8, .inr (3, [.int 0, .int 0, .int 0, .int 0, .int 0]))]) H := hP
  have hD : va_D A ([(h, .inr (4, [.float 1120403456, .float 0, .float 0, .float 0, .int 0, .int (-5), .float 0, .int 0, .int 0, .int 0, .ref q1, .ref q2, .ref q5, .null])), (q1, .inl (cy 0, 8, .inl in_s)), (q2, .inr (2, [.int 0, .ref u38.1, .ref u38.2])), (u38.1, .inl (cy 0, 6, .inl (fun _ => 0))), (u38.2, .inl (cy 0, 6, .inl (fun _ => 0))), (q5, .inr (5, [.int 0, .ref u49.1, .ref u49.2])), (u49.1, .inl (cy 0, 4, .inl (fun _ => 0))), (u49.2, .inl (cy 3, 4, .inl (fun _ => 0))), (q8, .inr (3, [.int 0, .int 0, .int 0, .int 0, .int 0]))]) := hD
  refine lv_dup hx hb dX4_init_64 rfl ?_
  refine kc_IN (L := [(h, .inr (4, [.float 1120403456, .float 0, .float 0, .float 0, .int 0, .int (-5), .float 0, .int 0, .int 0, .int 0, .ref q1, .ref q2, .ref q5, .null])), (q1, .inl (cy 0, 8, .inl in_s)), (q2, .inr (2, [.int 0, .ref u38.1, .ref u38.2])), (u38.1, .inl (cy 0, 6, .inl (fun _ => 0))), (u38.2, .inl (cy 0, 6, .inl (fun _ => 0))), (q5, .inr (5, [.int 0, .ref u49.1, .ref u49.2])), (u49.1, .inl (cy 0, 4, .inl (fun _ => 0))), (u49.2, .inl (cy 3, 4, .inl (fun _ => 0)))]) (w0 := [(q8, .inr (3, [.int 0, .int 0, .int 0, .int 0, .int 0]))]) (R' := []) (Ex := xno) S hE xno_ok (ctX3_init l G cy q8 H.size) hE.2.2.2.2.1 q_3_17 q_3_3 q_3_18 rfl ydX3_init ⟨⟨rfl, rfl⟩, ⟨Nat.le_of_ble_eq_true rfl, Nat.le_of_ble_eq_true rfl⟩⟩ ⟨Nat.le_of_ble_eq_true rfl, Nat.le_of_ble_eq_true rfl⟩ hP hD hS hA (fun _ _ _ => trivial) hl.1 (Nat.le_of_ble_eq_true rfl) dX4_init_65 (fun u60 H locs hk_65 hP hD hS => ?_)
  have hP : va_P G vwCl ([(h, .inr (4, [.float 1120403456, .float 0, .float 0, .float 0, .int 0, .int (-5), .float 0, .int 0, .int 0, .int 0, .ref q1, .ref q2, .ref q5, .null])), (q1, .inl (cy 0, 8, .inl in_s)), (q2, .inr (2, [.int 0, .ref u38.1, .ref u38.2])), (u38.1, .inl (cy 0, 6, .inl (fun _ => 0))), (u38.2, .inl (cy 0, 6, .inl (fun _ => 0))), (q5, .inr (5, [.int 0, .ref u49.1, .ref u49.2])), (u49.1, .inl (cy 0, 4, .inl (fun _ => 0))), (u49.2, .inl (cy 3, 4, .inl (fun _ => 0))), (q8, .inr (3, [.int 0, .int 0, .int 0, .int 0, .int 0]))]) H := hP
  have hD : va_D A ([(h, .inr (4, [.float 1120403456, .float 0, .float 0, .float 0, .int 0, .int (-5), .float 0, .int 0, .int 0, .int 0, .ref q1, .ref q2, .ref q5, .null])), (q1, .inl (cy 0, 8, .inl in_s)), (q2, .inr (2, [.int 0, .ref u38.1, .ref u38.2])), (u38.1, .inl (cy 0, 6, .inl (fun _ => 0))), (u38.2, .inl (cy 0, 6, .inl (fun _ => 0))), (q5, .inr (5, [.int 0, .ref u49.1, .ref u49.2])), (u49.1, .inl (cy 0, 4, .inl (fun _ => 0))), (u49.2, .inl (cy 3, 4, .inl (fun _ => 0))), (q8, .inr (3, [.int 0, .int 0, .int 0, .int 0, .int 0]))]) := hD
  refine kpF S hE hin hP hD hS 0 rfl rfl 13 (by decide) q_3_4 rfl rfl tyX4_ok nmX4 inlX4 rfl rfl (Nat.le_of_ble_eq_true rfl) dX4_init_68 (fun H locs hP hD hS => ?_)
  have hP : va_P G vwCl ([(h, .inr (4, [.float 1120403456, .float 0, .float 0, .float 0, .int 0, .int (-5), .float 0, .int 0, .int 0, .int 0, .ref q1, .ref q2, .ref q5, .ref q8])), (q1, .inl (cy 0, 8, .inl in_s)), (q2, .inr (2, [.int 0, .ref u38.1, .ref u38.2])), (u38.1, .inl (cy 0, 6, .inl (fun _ => 0))), (u38.2, .inl (cy 0, 6, .inl (fun _ => 0))), (q5, .inr (5, [.int 0, .ref u49.1, .ref u49.2])), (u49.1, .inl (cy 0, 4, .inl (fun _ => 0))), (u49.2, .inl (cy 3, 4, .inl (fun _ => 0))), (q8, .inr (3, [.int 0, .int 0, .int 0, .int 0, .int 0]))]) H := hP
  have hD : va_D A ([(h, .inr (4, [.float 1120403456, .float 0, .float 0, .float 0, .int 0, .int (-5), .float 0, .int 0, .int 0, .int 0, .ref q1, .ref q2, .ref q5, .ref q8])), (q1, .inl (cy 0, 8, .inl in_s)), (q2, .inr (2, [.int 0, .ref u38.1, .ref u38.2])), (u38.1, .inl (cy 0, 6, .inl (fun _ => 0))), (u38.2, .inl (cy 0, 6, .inl (fun _ => 0))), (q5, .inr (5, [.int 0, .ref u49.1, .ref u49.2])), (u49.1, .inl (cy 0, 4, .inl (fun _ => 0))), (u49.2, .inl (cy 3, 4, .inl (fun _ => 0))), (q8, .inr (3, [.int 0, .int 0, .int 0, .int 0, .int 0]))]) := hD
  refine W.widen (k := 8) (n := 39) (Nat.le_of_ble_eq_true rfl) (Nat.le_of_ble_eq_true rfl) ?_
  exact W.vret hx hb hr (fun t ht hW => ⟨⟨adr [h, q1, q2, u38.1, u38.2, q5, u49.1, u49.2, q8], rfl, rfl, ⟨hp_at ht hP, hD⟩⟩, hS.F ht⟩) hS.2.2 dX4_init_71
def md_n : Nat → Int32 := (upd (upd (upd (upd (upd (upd (upd (upd (upd (fun _ => 0) 5 (-5)) 12 200) 13 50) 14 500) 15 1000) 16 50) 17 10) 18 30) 19 50)
set_option maxRecDepth 100000 in
set_option maxHeartbeats 4000000 in
theorem ctX7_init (l : Launch) (G : va_G) (cy : Nat → ClassId) (h sz : Nat) : Met l yX7_init (ws_ yX7_init cX7_init 1 none) ({ frames := 1, cells := 6, slots := 487, locals := 12 } : Room) (CN G cy xno [.ref h] ([(h, .inr (7, [.null, .null, .null, .null, .null, .int 0, .null, .int 0, .int 0, .int 0, .int 0]))]) sz) (RN G (fun u : Nat → Nat => u 0 = h) (fun u => md_W cy u md_n in_f zi zf zi zi zi) (va_A ([(h, .inr (7, [.null, .null, .null, .null, .null, .int 0, .null, .int 0, .int 0, .int 0, .int 0]))]) sz)) 6 487 (va_A ([(h, .inr (7, [.null, .null, .null, .null, .null, .int 0, .null, .int 0, .int 0, .int 0, .int 0]))]) sz) := by
  refine hd_goN (Qf := fun A => RN G (fun u : Nat → Nat => u 0 = h) (fun u => md_W cy u md_n in_f zi zf zi zi zi) A) (by decide +kernel) (Nat.le_of_ble_eq_true rfl) ?_
  intro p e s m below meth c ls A hx hb hr hlocks hin S hE hEx hA hP hD hS hl
  have hl : lv_has ls 1 [(0, .ref h)] := hl
  refine lv_aload_n hx hb dX7_init_0 rfl (lv_at hl 0 rfl) ?_
  refine ki S q_4_12 hl.1 (Nat.le_of_ble_eq_true rfl) (Nat.le_of_ble_eq_true rfl) dX7_init_1 ?_
  refine lv_aload_n hx hb dX7_init_4 rfl (lv_at hl 0 rfl) ?_
  refine lv_bipush (v := 40) hx hb dX7_init_5 (by decide) ?_
  refine kn S hE (atype := .int) (ty := .int) (j := 0) (a0 := (40, .inl (fun _ => 0))) rfl q_2_11 rfl (fun _ h => h) hP hD hS hA (fun _ => rfl) (by decide +kernel) tc_40 (by decide) (Nat.le_of_ble_eq_true rfl) (Nat.le_of_ble_eq_true rfl) dX7_init_7 (fun q1 H hP hD hS => ?_)
  have hP : va_P G vwCl ([(h, .inr (7, [.null, .null, .null, .null, .null, .int 0, .null, .int 0, .int 0, .int 0, .int 0])), (q1, .inl (cy 0, 40, .inl (fun _ => 0)))]) H := hP
  have hD : va_D A ([(h, .inr (7, [.null, .null, .null, .null, .null, .int 0, .null, .int 0, .int 0, .int 0, .int 0])), (q1, .inl (cy 0, 40, .inl (fun _ => 0)))]) := hD
  refine kpF S hE hin hP hD hS 0 rfl rfl 0 (by decide) q_4_13 rfl rfl tyX7_ok nmX7 inlX7 rfl rfl (Nat.le_of_ble_eq_true rfl) dX7_init_9 (fun H locs hP hD hS => ?_)
  have hP : va_P G vwCl ([(h, .inr (7, [.ref q1, .null, .null, .null, .null, .int 0, .null, .int 0, .int 0, .int 0, .int 0])), (q1, .inl (cy 0, 40, .inl (fun _ => 0)))]) H := hP
  have hD : va_D A ([(h, .inr (7, [.ref q1, .null, .null, .null, .null, .int 0, .null, .int 0, .int 0, .int 0, .int 0])), (q1, .inl (cy 0, 40, .inl (fun _ => 0)))]) := hD
  refine lv_aload_n hx hb dX7_init_12 rfl (lv_at hl 0 rfl) ?_
  refine lv_iconst (v := 5) hx hb dX7_init_13 (by decide) ?_
  refine kn S hE (atype := .float) (ty := .float) (j := 1) (a0 := (5, .inr (.inr (.inl (fun _ => 0))))) rfl q_4_14 rfl (fun _ h => h) hP hD hS hA (fun _ => rfl) (by decide +kernel) tc_5 (by decide) (Nat.le_of_ble_eq_true rfl) (Nat.le_of_ble_eq_true rfl) dX7_init_14 (fun q2 H hP hD hS => ?_)
  have hP : va_P G vwCl ([(h, .inr (7, [.ref q1, .null, .null, .null, .null, .int 0, .null, .int 0, .int 0, .int 0, .int 0])), (q1, .inl (cy 0, 40, .inl (fun _ => 0))), (q2, .inl (cy 1, 5, .inr (.inr (.inl (fun _ => 0)))))]) H := hP
  have hD : va_D A ([(h, .inr (7, [.ref q1, .null, .null, .null, .null, .int 0, .null, .int 0, .int 0, .int 0, .int 0])), (q1, .inl (cy 0, 40, .inl (fun _ => 0))), (q2, .inl (cy 1, 5, .inr (.inr (.inl (fun _ => 0)))))]) := hD
  refine kpF S hE hin hP hD hS 0 rfl rfl 1 (by decide) q_4_15 rfl rfl tyX7_ok nmX7 inlX7 rfl rfl (Nat.le_of_ble_eq_true rfl) dX7_init_16 (fun H locs hP hD hS => ?_)
  have hP : va_P G vwCl ([(h, .inr (7, [.ref q1, .ref q2, .null, .null, .null, .int 0, .null, .int 0, .int 0, .int 0, .int 0])), (q1, .inl (cy 0, 40, .inl (fun _ => 0))), (q2, .inl (cy 1, 5, .inr (.inr (.inl (fun _ => 0)))))]) H := hP
  have hD : va_D A ([(h, .inr (7, [.ref q1, .ref q2, .null, .null, .null, .int 0, .null, .int 0, .int 0, .int 0, .int 0])), (q1, .inl (cy 0, 40, .inl (fun _ => 0))), (q2, .inl (cy 1, 5, .inr (.inr (.inl (fun _ => 0)))))]) := hD
  refine lv_aload_n hx hb dX7_init_19 rfl (lv_at hl 0 rfl) ?_
  refine lv_sipush (v := 320) hx hb dX7_init_20 (by decide) ?_
  refine kn S hE (atype := .int) (ty := .int) (j := 0) (a0 := (320, .inl (fun _ => 0))) rfl q_2_11 rfl (fun _ h => h) hP hD hS hA (fun _ => rfl) (by decide +kernel) tc_320 (by decide) (Nat.le_of_ble_eq_true rfl) (Nat.le_of_ble_eq_true rfl) dX7_init_23 (fun q3 H hP hD hS => ?_)
  have hP : va_P G vwCl ([(h, .inr (7, [.ref q1, .ref q2, .null, .null, .null, .int 0, .null, .int 0, .int 0, .int 0, .int 0])), (q1, .inl (cy 0, 40, .inl (fun _ => 0))), (q2, .inl (cy 1, 5, .inr (.inr (.inl (fun _ => 0))))), (q3, .inl (cy 0, 320, .inl (fun _ => 0)))]) H := hP
  have hD : va_D A ([(h, .inr (7, [.ref q1, .ref q2, .null, .null, .null, .int 0, .null, .int 0, .int 0, .int 0, .int 0])), (q1, .inl (cy 0, 40, .inl (fun _ => 0))), (q2, .inl (cy 1, 5, .inr (.inr (.inl (fun _ => 0))))), (q3, .inl (cy 0, 320, .inl (fun _ => 0)))]) := hD
  refine kpF S hE hin hP hD hS 0 rfl rfl 2 (by decide) q_4_16 rfl rfl tyX7_ok nmX7 inlX7 rfl rfl (Nat.le_of_ble_eq_true rfl) dX7_init_25 (fun H locs hP hD hS => ?_)
  have hP : va_P G vwCl ([(h, .inr (7, [.ref q1, .ref q2, .ref q3, .null, .null, .int 0, .null, .int 0, .int 0, .int 0, .int 0])), (q1, .inl (cy 0, 40, .inl (fun _ => 0))), (q2, .inl (cy 1, 5, .inr (.inr (.inl (fun _ => 0))))), (q3, .inl (cy 0, 320, .inl (fun _ => 0)))]) H := hP
  have hD : va_D A ([(h, .inr (7, [.ref q1, .ref q2, .ref q3, .null, .null, .int 0, .null, .int 0, .int 0, .int 0, .int 0])), (q1, .inl (cy 0, 40, .inl (fun _ => 0))), (q2, .inl (cy 1, 5, .inr (.inr (.inl (fun _ => 0))))), (q3, .inl (cy 0, 320, .inl (fun _ => 0)))]) := hD
  refine lv_aload_n hx hb dX7_init_28 rfl (lv_at hl 0 rfl) ?_
  refine lv_bipush (v := 40) hx hb dX7_init_29 (by decide) ?_
  refine kn S hE (atype := .float) (ty := .float) (j := 1) (a0 := (40, .inr (.inr (.inl (fun _ => 0))))) rfl q_4_14 rfl (fun _ h => h) hP hD hS hA (fun _ => rfl) (by decide +kernel) tc_40 (by decide) (Nat.le_of_ble_eq_true rfl) (Nat.le_of_ble_eq_true rfl) dX7_init_31 (fun q4 H hP hD hS => ?_)
  have hP : va_P G vwCl ([(h, .inr (7, [.ref q1, .ref q2, .ref q3, .null, .null, .int 0, .null, .int 0, .int 0, .int 0, .int 0])), (q1, .inl (cy 0, 40, .inl (fun _ => 0))), (q2, .inl (cy 1, 5, .inr (.inr (.inl (fun _ => 0))))), (q3, .inl (cy 0, 320, .inl (fun _ => 0))), (q4, .inl (cy 1, 40, .inr (.inr (.inl (fun _ => 0)))))]) H := hP
  have hD : va_D A ([(h, .inr (7, [.ref q1, .ref q2, .ref q3, .null, .null, .int 0, .null, .int 0, .int 0, .int 0, .int 0])), (q1, .inl (cy 0, 40, .inl (fun _ => 0))), (q2, .inl (cy 1, 5, .inr (.inr (.inl (fun _ => 0))))), (q3, .inl (cy 0, 320, .inl (fun _ => 0))), (q4, .inl (cy 1, 40, .inr (.inr (.inl (fun _ => 0)))))]) := hD
  refine kpF S hE hin hP hD hS 0 rfl rfl 3 (by decide) q_4_17 rfl rfl tyX7_ok nmX7 inlX7 rfl rfl (Nat.le_of_ble_eq_true rfl) dX7_init_33 (fun H locs hP hD hS => ?_)
  have hP : va_P G vwCl ([(h, .inr (7, [.ref q1, .ref q2, .ref q3, .ref q4, .null, .int 0, .null, .int 0, .int 0, .int 0, .int 0])), (q1, .inl (cy 0, 40, .inl (fun _ => 0))), (q2, .inl (cy 1, 5, .inr (.inr (.inl (fun _ => 0))))), (q3, .inl (cy 0, 320, .inl (fun _ => 0))), (q4, .inl (cy 1, 40, .inr (.inr (.inl (fun _ => 0)))))]) H := hP
  have hD : va_D A ([(h, .inr (7, [.ref q1, .ref q2, .ref q3, .ref q4, .null, .int 0, .null, .int 0, .int 0, .int 0, .int 0])), (q1, .inl (cy 0, 40, .inl (fun _ => 0))), (q2, .inl (cy 1, 5, .inr (.inr (.inl (fun _ => 0))))), (q3, .inl (cy 0, 320, .inl (fun _ => 0))), (q4, .inl (cy 1, 40, .inr (.inr (.inl (fun _ => 0)))))]) := hD
  refine lv_aload_n hx hb dX7_init_36 rfl (lv_at hl 0 rfl) ?_
  refine lv_iconst (v := 2) hx hb dX7_init_37 (by decide) ?_
  refine kn S hE (atype := .int) (ty := .int) (j := 0) (a0 := (2, .inl (fun _ => 0))) rfl q_2_11 rfl (fun _ h => h) hP hD hS hA (fun _ => rfl) (by decide +kernel) tc_2 (by decide) (Nat.le_of_ble_eq_true rfl) (Nat.le_of_ble_eq_true rfl) dX7_init_38 (fun q5 H hP hD hS => ?_)
  have hP : va_P G vwCl ([(h, .inr (7, [.ref q1, .ref q2, .ref q3, .ref q4, .null, .int 0, .null, .int 0, .int 0, .int 0, .int 0])), (q1, .inl (cy 0, 40, .inl (fun _ => 0))), (q2, .inl (cy 1, 5, .inr (.inr (.inl (fun _ => 0))))), (q3, .inl (cy 0, 320, .inl (fun _ => 0))), (q4, .inl (cy 1, 40, .inr (.inr (.inl (fun _ => 0))))), (q5, .inl (cy 0, 2, .inl (fun _ => 0)))]) H := hP
  have hD : va_D A ([(h, .inr (7, [.ref q1, .ref q2, .ref q3, .ref q4, .null, .int 0, .null, .int 0, .int 0, .int 0, .int 0])), (q1, .inl (cy 0, 40, .inl (fun _ => 0))), (q2, .inl (cy 1, 5, .inr (.inr (.inl (fun _ => 0))))), (q3, .inl (cy 0, 320, .inl (fun _ => 0))), (q4, .inl (cy 1, 40, .inr (.inr (.inl (fun _ => 0))))), (q5, .inl (cy 0, 2, .inl (fun _ => 0)))]) := hD
  refine kpF S hE hin hP hD hS 0 rfl rfl 4 (by decide) q_4_18 rfl rfl tyX7_ok nmX7 inlX7 rfl rfl (Nat.le_of_ble_eq_true rfl) dX7_init_40 (fun H locs hP hD hS => ?_)
  have hP : va_P G vwCl ([(h, .inr (7, [.ref q1, .ref q2, .ref q3, .ref q4, .ref q5, .int 0, .null, .int 0, .int 0, .int 0, .int 0])), (q1, .inl (cy 0, 40, .inl (fun _ => 0))), (q2, .inl (cy 1, 5, .inr (.inr (.inl (fun _ => 0))))), (q3, .inl (cy 0, 320, .inl (fun _ => 0))), (q4, .inl (cy 1, 40, .inr (.inr (.inl (fun _ => 0))))), (q5, .inl (cy 0, 2, .inl (fun _ => 0)))]) H := hP
  have hD : va_D A ([(h, .inr (7, [.ref q1, .ref q2, .ref q3, .ref q4, .ref q5, .int 0, .null, .int 0, .int 0, .int 0, .int 0])), (q1, .inl (cy 0, 40, .inl (fun _ => 0))), (q2, .inl (cy 1, 5, .inr (.inr (.inl (fun _ => 0))))), (q3, .inl (cy 0, 320, .inl (fun _ => 0))), (q4, .inl (cy 1, 40, .inr (.inr (.inl (fun _ => 0))))), (q5, .inl (cy 0, 2, .inl (fun _ => 0)))]) := hD
  refine lv_aload_n hx hb dX7_init_43 rfl (lv_at hl 0 rfl) ?_
  refine lv_bipush (v := 80) hx hb dX7_init_44 (by decide) ?_
  refine kn S hE (atype := .int) (ty := .int) (j := 0) (a0 := (80, .inl (fun _ => 0))) rfl q_2_11 rfl (fun _ h => h) hP hD hS hA (fun _ => rfl) (by decide +kernel) tc_80 (by decide) (Nat.le_of_ble_eq_true rfl) (Nat.le_of_ble_eq_true rfl) dX7_init_46 (fun q6 H hP hD hS => ?_)
  have hP : va_P G vwCl ([(h, .inr (7, [.ref q1, .ref q2, .ref q3, .ref q4, .ref q5, .int 0, .null, .int 0, .int 0, .int 0, .int 0])), (q1, .inl (cy 0, 40, .inl (fun _ => 0))), (q2, .inl (cy 1, 5, .inr (.inr (.inl (fun _ => 0))))), (q3, .inl (cy 0, 320, .inl (fun _ => 0))), (q4, .inl (cy 1, 40, .inr (.inr (.inl (fun _ => 0))))), (q5, .inl (cy 0, 2, .inl (fun _ => 0))), (q6, .inl (cy 0, 80, .inl (fun _ => 0)))]) H := hP
  have hD : va_D A ([(h, .inr (7, [.ref q1, .ref q2, .ref q3, .ref q4, .ref q5, .int 0, .null, .int 0, .int 0, .int 0, .int 0])), (q1, .inl (cy 0, 40, .inl (fun _ => 0))), (q2, .inl (cy 1, 5, .inr (.inr (.inl (fun _ => 0))))), (q3, .inl (cy 0, 320, .inl (fun _ => 0))), (q4, .inl (cy 1, 40, .inr (.inr (.inl (fun _ => 0))))), (q5, .inl (cy 0, 2, .inl (fun _ => 0))), (q6, .inl (cy 0, 80, .inl (fun _ => 0)))]) := hD
  refine kpF S hE hin hP hD hS 0 rfl rfl 6 (by decide) q_4_19 rfl rfl tyX7_ok nmX7 inlX7 rfl rfl (Nat.le_of_ble_eq_true rfl) dX7_init_48 (fun H locs hP hD hS => ?_)
  have hP : va_P G vwCl ([(h, .inr (7, [.ref q1, .ref q2, .ref q3, .ref q4, .ref q5, .int 0, .ref q6, .int 0, .int 0, .int 0, .int 0])), (q1, .inl (cy 0, 40, .inl (fun _ => 0))), (q2, .inl (cy 1, 5, .inr (.inr (.inl (fun _ => 0))))), (q3, .inl (cy 0, 320, .inl (fun _ => 0))), (q4, .inl (cy 1, 40, .inr (.inr (.inl (fun _ => 0))))), (q5, .inl (cy 0, 2, .inl (fun _ => 0))), (q6, .inl (cy 0, 80, .inl (fun _ => 0)))]) H := hP
  have hD : va_D A ([(h, .inr (7, [.ref q1, .ref q2, .ref q3, .ref q4, .ref q5, .int 0, .ref q6, .int 0, .int 0, .int 0, .int 0])), (q1, .inl (cy 0, 40, .inl (fun _ => 0))), (q2, .inl (cy 1, 5, .inr (.inr (.inl (fun _ => 0))))), (q3, .inl (cy 0, 320, .inl (fun _ => 0))), (q4, .inl (cy 1, 40, .inr (.inr (.inl (fun _ => 0))))), (q5, .inl (cy 0, 2, .inl (fun _ => 0))), (q6, .inl (cy 0, 80, .inl (fun _ => 0)))]) := hD
  refine lv_aload_n hx hb dX7_init_51 rfl (lv_at hl 0 rfl) ?_
  refine kg (v := .ref q2) S hE hP 0 rfl rfl 1 (by decide) q_4_15 rfl rfl inlX7 dX7_init_52 ?_
  refine lv_iconst (v := 0) hx hb dX7_init_55 (by decide) ?_
  refine lv_ldcf hx hb S.2.2.2.1 (S.2.2.2.2 _ q_4_20) dX7_init_56 ?_
  refine kafs S hE hP hD hS 2 rfl (vi_0 (by decide)) tc_0 dX7_init_58 (fun H locs hP hD hS => ?_)
  have hP : va_P G vwCl ([(h, .inr (7, [.ref q1, .ref q2, .ref q3, .ref q4, .ref q5, .int 0, .ref q6, .int 0, .int 0, .int 0, .int 0])), (q1, .inl (cy 0, 40, .inl (fun _ => 0))), (q2, .inl (cy 1, 5, .inr (.inr (.inl in_f)))), (q3, .inl (cy 0, 320, .inl (fun _ => 0))), (q4, .inl (cy 1, 40, .inr (.inr (.inl (fun _ => 0))))), (q5, .inl (cy 0, 2, .inl (fun _ => 0))), (q6, .inl (cy 0, 80, .inl (fun _ => 0)))]) H := hP
  have hD : va_D A ([(h, .inr (7, [.ref q1, .ref q2, .ref q3, .ref q4, .ref q5, .int 0, .ref q6, .int 0, .int 0, .int 0, .int 0])), (q1, .inl (cy 0, 40, .inl (fun _ => 0))), (q2, .inl (cy 1, 5, .inr (.inr (.inl in_f)))), (q3, .inl (cy 0, 320, .inl (fun _ => 0))), (q4, .inl (cy 1, 40, .inr (.inr (.inl (fun _ => 0))))), (q5, .inl (cy 0, 2, .inl (fun _ => 0))), (q6, .inl (cy 0, 80, .inl (fun _ => 0)))]) := hD
  refine lv_aload_n hx hb dX7_init_59 rfl (lv_at hl 0 rfl) ?_
  refine kg (v := .ref q1) S hE hP 0 rfl rfl 0 (by decide) q_4_13 rfl rfl inlX7 dX7_init_60 ?_
  refine lv_iconst (v := 5) hx hb dX7_init_63 (by decide) ?_
  refine lv_bipush (v := (-5)) hx hb dX7_init_64 (by decide) ?_
  refine kais S hE hP hD hS 1 rfl (vi_5 (by decide)) tc_5 dX7_init_66 (fun H locs hP hD hS => ?_)
  have hP : va_P G vwCl ([(h, .inr (7, [.ref q1, .ref q2, .ref q3, .ref q4, .ref q5, .int 0, .ref q6, .int 0, .int 0, .int 0, .int 0])), (q1, .inl (cy 0, 40, .inl (upd (fun _ => 0) 5 (-5)))), (q2, .inl (cy 1, 5, .inr (.inr (.inl in_f)))), (q3, .inl (cy 0, 320, .inl (fun _ => 0))), (q4, .inl (cy 1, 40, .inr (.inr (.inl (fun _ => 0))))), (q5, .inl (cy 0, 2, .inl (fun _ => 0))), (q6, .inl (cy 0, 80, .inl (fun _ => 0)))]) H := hP
  have hD : va_D A ([(h, .inr (7, [.ref q1, .ref q2, .ref q3, .ref q4, .ref q5, .int 0, .ref q6, .int 0, .int 0, .int 0, .int 0])), (q1, .inl (cy 0, 40, .inl (upd (fun _ => 0) 5 (-5)))), (q2, .inl (cy 1, 5, .inr (.inr (.inl in_f)))), (q3, .inl (cy 0, 320, .inl (fun _ => 0))), (q4, .inl (cy 1, 40, .inr (.inr (.inl (fun _ => 0))))), (q5, .inl (cy 0, 2, .inl (fun _ => 0))), (q6, .inl (cy 0, 80, .inl (fun _ => 0)))]) := hD
  refine lv_aload_n hx hb dX7_init_67 rfl (lv_at hl 0 rfl) ?_
  refine kg (v := .ref q1) S hE hP 0 rfl rfl 0 (by decide) q_4_13 rfl rfl inlX7 dX7_init_68 ?_
  refine lv_bipush (v := 12) hx hb dX7_init_71 (by decide) ?_
  refine lv_sipush (v := 200) hx hb dX7_init_73 (by decide) ?_
  refine kais S hE hP hD hS 1 rfl (vi_12 (by decide)) tc_12 dX7_init_76 (fun H locs hP hD hS => ?_)
  have hP : va_P G vwCl ([(h, .inr (7, [.ref q1, .ref q2, .ref q3, .ref q4, .ref q5, .int 0, .ref q6, .int 0, .int 0, .int 0, .int 0])), (q1, .inl (cy 0, 40, .inl (upd (upd (fun _ => 0) 5 (-5)) 12 200))), (q2, .inl (cy 1, 5, .inr (.inr (.inl in_f)))), (q3, .inl (cy 0, 320, .inl (fun _ => 0))), (q4, .inl (cy 1, 40, .inr (.inr (.inl (fun _ => 0))))), (q5, .inl (cy 0, 2, .inl (fun _ => 0))), (q6, .inl (cy 0, 80, .inl (fun _ => 0)))]) H := hP
  have hD : va_D A ([(h, .inr (7, [.ref q1, .ref q2, .ref q3, .ref q4, .ref q5, .int 0, .ref q6, .int 0, .int 0, .int 0, .int 0])), (q1, .inl (cy 0, 40, .inl (upd (upd (fun _ => 0) 5 (-5)) 12 200))), (q2, .inl (cy 1, 5, .inr (.inr (.inl in_f)))), (q3, .inl (cy 0, 320, .inl (fun _ => 0))), (q4, .inl (cy 1, 40, .inr (.inr (.inl (fun _ => 0))))), (q5, .inl (cy 0, 2, .inl (fun _ => 0))), (q6, .inl (cy 0, 80, .inl (fun _ => 0)))]) := hD
  refine lv_aload_n hx hb dX7_init_77 rfl (lv_at hl 0 rfl) ?_
  refine kg (v := .ref q1) S hE hP 0 rfl rfl 0 (by decide) q_4_13 rfl rfl inlX7 dX7_init_78 ?_
  refine lv_bipush (v := 13) hx hb dX7_init_81 (by decide) ?_
  refine lv_bipush (v := 50) hx hb dX7_init_83 (by decide) ?_
  refine kais S hE hP hD hS 1 rfl (vi_13 (by decide)) tc_13 dX7_init_85 (fun H locs hP hD hS => ?_)
  have hP : va_P G vwCl ([(h, .inr (7, [.ref q1, .ref q2, .ref q3, .ref q4, .ref q5, .int 0, .ref q6, .int 0, .int 0, .int 0, .int 0])), (q1, .inl (cy 0, 40, .inl (upd (upd (upd (fun _ => 0) 5 (-5)) 12 200) 13 50))), (q2, .inl (cy 1, 5, .inr (.inr (.inl in_f)))), (q3, .inl (cy 0, 320, .inl (fun _ => 0))), (q4, .inl (cy 1, 40, .inr (.inr (.inl (fun _ => 0))))), (q5, .inl (cy 0, 2, .inl (fun _ => 0))), (q6, .inl (cy 0, 80, .inl (fun _ => 0)))]) H := hP
  have hD : va_D A ([(h, .inr (7, [.ref q1, .ref q2, .ref q3, .ref q4, .ref q5, .int 0, .ref q6, .int 0, .int 0, .int 0, .int 0])), (q1, .inl (cy 0, 40, .inl (upd (upd (upd (fun _ => 0) 5 (-5)) 12 200) 13 50))), (q2, .inl (cy 1, 5, .inr (.inr (.inl in_f)))), (q3, .inl (cy 0, 320, .inl (fun _ => 0))), (q4, .inl (cy 1, 40, .inr (.inr (.inl (fun _ => 0))))), (q5, .inl (cy 0, 2, .inl (fun _ => 0))), (q6, .inl (cy 0, 80, .inl (fun _ => 0)))]) := hD
  refine lv_aload_n hx hb dX7_init_86 rfl (lv_at hl 0 rfl) ?_
  refine kg (v := .ref q1) S hE hP 0 rfl rfl 0 (by decide) q_4_13 rfl rfl inlX7 dX7_init_87 ?_
  refine lv_bipush (v := 14) hx hb dX7_init_90 (by decide) ?_
  refine lv_sipush (v := 500) hx hb dX7_init_92 (by decide) ?_
  refine kais S hE hP hD hS 1 rfl (vi_14 (by decide)) tc_14 dX7_init_95 (fun H locs hP hD hS => ?_)
  have hP : va_P G vwCl ([(h, .inr (7, [.ref q1, .ref q2, .ref q3, .ref q4, .ref q5, .int 0, .ref q6, .int 0, .int 0, .int 0, .int 0])), (q1, .inl (cy 0, 40, .inl (upd (upd (upd (upd (fun _ => 0) 5 (-5)) 12 200) 13 50) 14 500))), (q2, .inl (cy 1, 5, .inr (.inr (.inl in_f)))), (q3, .inl (cy 0, 320, .inl (fun _ => 0))), (q4, .inl (cy 1, 40, .inr (.inr (.inl (fun _ => 0))))), (q5, .inl (cy 0, 2, .inl (fun _ => 0))), (q6, .inl (cy 0, 80, .inl (fun _ => 0)))]) H := hP
  have hD : va_D A ([(h, .inr (7, [.ref q1, .ref q2, .ref q3, .ref q4, .ref q5, .int 0, .ref q6, .int 0, .int 0, .int 0, .int 0])), (q1, .inl (cy 0, 40, .inl (upd (upd (upd (upd (fun _ => 0) 5 (-5)) 12 200) 13 50) 14 500))), (q2, .inl (cy 1, 5, .inr (.inr (.inl in_f)))), (q3, .inl (cy 0, 320, .inl (fun _ => 0))), (q4, .inl (cy 1, 40, .inr (.inr (.inl (fun _ => 0))))), (q5, .inl (cy 0, 2, .inl (fun _ => 0))), (q6, .inl (cy 0, 80, .inl (fun _ => 0)))]) := hD
  refine lv_aload_n hx hb dX7_init_96 rfl (lv_at hl 0 rfl) ?_
  refine kg (v := .ref q1) S hE hP 0 rfl rfl 0 (by decide) q_4_13 rfl rfl inlX7 dX7_init_97 ?_
  refine lv_bipush (v := 15) hx hb dX7_init_100 (by decide) ?_
  refine lv_sipush (v := 1000) hx hb dX7_init_102 (by decide) ?_
  refine kais S hE hP hD hS 1 rfl (vi_15 (by decide)) tc_15 dX7_init_105 (fun H locs hP hD hS => ?_)
  have hP : va_P G vwCl ([(h, .inr (7, [.ref q1, .ref q2, .ref q3, .ref q4, .ref q5, .int 0, .ref q6, .int 0, .int 0, .int 0, .int 0])), (q1, .inl (cy 0, 40, .inl (upd (upd (upd (upd (upd (fun _ => 0) 5 (-5)) 12 200) 13 50) 14 500) 15 1000))), (q2, .inl (cy 1, 5, .inr (.inr (.inl in_f)))), (q3, .inl (cy 0, 320, .inl (fun _ => 0))), (q4, .inl (cy 1, 40, .inr (.inr (.inl (fun _ => 0))))), (q5, .inl (cy 0, 2, .inl (fun _ => 0))), (q6, .inl (cy 0, 80, .inl (fun _ => 0)))]) H := hP
  have hD : va_D A ([(h, .inr (7, [.ref q1, .ref q2, .ref q3, .ref q4, .ref q5, .int 0, .ref q6, .int 0, .int 0, .int 0, .int 0])), (q1, .inl (cy 0, 40, .inl (upd (upd (upd (upd (upd (fun _ => 0) 5 (-5)) 12 200) 13 50) 14 500) 15 1000))), (q2, .inl (cy 1, 5, .inr (.inr (.inl in_f)))), (q3, .inl (cy 0, 320, .inl (fun _ => 0))), (q4, .inl (cy 1, 40, .inr (.inr (.inl (fun _ => 0))))), (q5, .inl (cy 0, 2, .inl (fun _ => 0))), (q6, .inl (cy 0, 80, .inl (fun _ => 0)))]) := hD
  refine lv_aload_n hx hb dX7_init_106 rfl (lv_at hl 0 rfl) ?_
  refine kg (v := .ref q1) S hE hP 0 rfl rfl 0 (by decide) q_4_13 rfl rfl inlX7 dX7_init_107 ?_
  refine lv_bipush (v := 16) hx hb dX7_init_110 (by decide) ?_
  refine lv_bipush (v := 50) hx hb dX7_init_112 (by decide) ?_
  refine kais S hE hP hD hS 1 rfl (vi_16 (by decide)) tc_16 dX7_init_114 (fun H locs hP hD hS => ?_)
  have hP : va_P G vwCl ([(h, .inr (7, [.ref q1, .ref q2, .ref q3, .ref q4, .ref q5, .int 0, .ref q6, .int 0, .int 0, .int 0, .int 0])), (q1, .inl (cy 0, 40, .inl (upd (upd (upd (upd (upd (upd (fun _ => 0) 5 (-5)) 12 200) 13 50) 14 500) 15 1000) 16 50))), (q2, .inl (cy 1, 5, .inr (.inr (.inl in_f)))), (q3, .inl (cy 0, 320, .inl (fun _ => 0))), (q4, .inl (cy 1, 40, .inr (.inr (.inl (fun _ => 0))))), (q5, .inl (cy 0, 2, .inl (fun _ => 0))), (q6, .inl (cy 0, 80, .inl (fun _ => 0)))]) H := hP
  have hD : va_D A ([(h, .inr (7, [.ref q1, .ref q2, .ref q3, .ref q4, .ref q5, .int 0, .ref q6, .int 0, .int 0, .int 0, .int 0])), (q1, .inl (cy 0, 40, .inl (upd (upd (upd (upd (upd (upd (fun _ => 0) 5 (-5)) 12 200) 13 50) 14 500) 15 1000) 16 50))), (q2, .inl (cy 1, 5, .inr (.inr (.inl in_f)))), (q3, .inl (cy 0, 320, .inl (fun _ => 0))), (q4, .inl (cy 1, 40, .inr (.inr (.inl (fun _ => 0))))), (q5, .inl (cy 0, 2, .inl (fun _ => 0))), (q6, .inl (cy 0, 80, .inl (fun _ => 0)))]) := hD
  refine lv_aload_n hx hb dX7_init_115 rfl (lv_at hl 0 rfl) ?_
  refine kg (v := .ref q1) S hE hP 0 rfl rfl 0 (by decide) q_4_13 rfl rfl inlX7 dX7_init_116 ?_
  refine lv_bipush (v := 17) hx hb dX7_init_119 (by decide) ?_
  refine lv_bipush (v := 10) hx hb dX7_init_121 (by decide) ?_
  refine kais S hE hP hD hS 1 rfl (vi_17 (by decide)) tc_17 dX7_init_123 (fun H locs hP hD hS => ?_)
  have hP : va_P G vwCl ([(h, .inr (7, [.ref q1, .ref q2, .ref q3, .ref q4, .ref q5, .int 0, .ref q6, .int 0, .int 0, .int 0, .int 0])), (q1, .inl (cy 0, 40, .inl (upd (upd (upd (upd (upd (upd (upd (fun _ => 0) 5 (-5)) 12 200) 13 50) 14 500) 15 1000) 16 50) 17 10))), (q2, .inl (cy 1, 5, .inr (.inr (.inl in_f)))), (q3, .inl (cy 0, 320, .inl (fun _ => 0))), (q4, .inl (cy 1, 40, .inr (.inr (.inl (fun _ => 0))))), (q5, .inl (cy 0, 2, .inl (fun _ => 0))), (q6, .inl (cy 0, 80, .inl (fun _ => 0)))]) H := hP
  have hD : va_D A ([(h, .inr (7, [.ref q1, .ref q2, .ref q3, .ref q4, .ref q5, .int 0, .ref q6, .int 0, .int 0, .int 0, .int 0])), (q1, .inl (cy 0, 40, .inl (upd (upd (upd (upd (upd (upd (upd (fun _ => 0) 5 (-5)) 12 200) 13 50) 14 500) 15 1000) 16 50) 17 10))), (q2, .inl (cy 1, 5, .inr (.inr (.inl in_f)))), (q3, .inl (cy 0, 320, .inl (fun _ => 0))), (q4, .inl (cy 1, 40, .inr (.inr (.inl (fun _ => 0))))), (q5, .inl (cy 0, 2, .inl (fun _ => 0))), (q6, .inl (cy 0, 80, .inl (fun _ => 0)))]) := hD
  refine lv_aload_n hx hb dX7_init_124 rfl (lv_at hl 0 rfl) ?_
  refine kg (v := .ref q1) S hE hP 0 rfl rfl 0 (by decide) q_4_13 rfl rfl inlX7 dX7_init_125 ?_
  refine lv_bipush (v := 18) hx hb dX7_init_128 (by decide) ?_
  refine lv_bipush (v := 30) hx hb dX7_init_130 (by decide) ?_
  refine kais S hE hP hD hS 1 rfl (vi_18 (by decide)) tc_18 dX7_init_132 (fun H locs hP hD hS => ?_)
  have hP : va_P G vwCl ([(h, .inr (7, [.ref q1, .ref q2, .ref q3, .ref q4, .ref q5, .int 0, .ref q6, .int 0, .int 0, .int 0, .int 0])), (q1, .inl (cy 0, 40, .inl (upd (upd (upd (upd (upd (upd (upd (upd (fun _ => 0) 5 (-5)) 12 200) 13 50) 14 500) 15 1000) 16 50) 17 10) 18 30))), (q2, .inl (cy 1, 5, .inr (.inr (.inl in_f)))), (q3, .inl (cy 0, 320, .inl (fun _ => 0))), (q4, .inl (cy 1, 40, .inr (.inr (.inl (fun _ => 0))))), (q5, .inl (cy 0, 2, .inl (fun _ => 0))), (q6, .inl (cy 0, 80, .inl (fun _ => 0)))]) H := hP
  have hD : va_D A ([(h, .inr (7, [.ref q1, .ref q2, .ref q3, .ref q4, .ref q5, .int 0, .ref q6, .int 0, .int 0, .int 0, .int 0])), (q1, .inl (cy 0, 40, .inl (upd (upd (upd (upd (upd (upd (upd (upd (fun _ => 0) 5 (-5)) 12 200) 13 50) 14 500) 15 1000) 16 50) 17 10) 18 30))), (q2, .inl (cy 1, 5, .inr (.inr (.inl in_f)))), (q3, .inl (cy 0, 320, .inl (fun _ => 0))), (q4, .inl (cy 1, 40, .inr (.inr (.inl (fun _ => 0))))), (q5, .inl (cy 0, 2, .inl (fun _ => 0))), (q6, .inl (cy 0, 80, .inl (fun _ => 0)))]) := hD
  refine lv_aload_n hx hb dX7_init_133 rfl (lv_at hl 0 rfl) ?_
  refine kg (v := .ref q1) S hE hP 0 rfl rfl 0 (by decide) q_4_13 rfl rfl inlX7 dX7_init_134 ?_
  refine lv_bipush (v := 19) hx hb dX7_init_137 (by decide) ?_
  refine lv_bipush (v := 50) hx hb dX7_init_139 (by decide) ?_
  refine kais S hE hP hD hS 1 rfl (vi_19 (by decide)) tc_19 dX7_init_141 (fun H locs hP hD hS => ?_)
  have hP : va_P G vwCl ([(h, .inr (7, [.ref q1, .ref q2, .ref q3, .ref q4, .ref q5, .int 0, .ref q6, .int 0, .int 0, .int 0, .int 0])), (q1, .inl (cy 0, 40, .inl (upd (upd (upd (upd (upd (upd (upd (upd (upd (fun _ => 0) 5 (-5)) 12 200) 13 50) 14 500) 15 1000) 16 50) 17 10) 18 30) 19 50))), (q2, .inl (cy 1, 5, .inr (.inr (.inl in_f)))), (q3, .inl (cy 0, 320, .inl (fun _ => 0))), (q4, .inl (cy 1, 40, .inr (.inr (.inl (fun _ => 0))))), (q5, .inl (cy 0, 2, .inl (fun _ => 0))), (q6, .inl (cy 0, 80, .inl (fun _ => 0)))]) H := hP
  have hD : va_D A ([(h, .inr (7, [.ref q1, .ref q2, .ref q3, .ref q4, .ref q5, .int 0, .ref q6, .int 0, .int 0, .int 0, .int 0])), (q1, .inl (cy 0, 40, .inl (upd (upd (upd (upd (upd (upd (upd (upd (upd (fun _ => 0) 5 (-5)) 12 200) 13 50) 14 500) 15 1000) 16 50) 17 10) 18 30) 19 50))), (q2, .inl (cy 1, 5, .inr (.inr (.inl in_f)))), (q3, .inl (cy 0, 320, .inl (fun _ => 0))), (q4, .inl (cy 1, 40, .inr (.inr (.inl (fun _ => 0))))), (q5, .inl (cy 0, 2, .inl (fun _ => 0))), (q6, .inl (cy 0, 80, .inl (fun _ => 0)))]) := hD
  refine W.widen (k := 6) (n := 487) (Nat.le_of_ble_eq_true rfl) (Nat.le_of_ble_eq_true rfl) ?_
  exact W.vret hx hb hr (fun t ht hW => ⟨⟨adr [h, q1, q2, q3, q4, q5, q6], rfl, rfl, ⟨hp_at ht hP, hD⟩⟩, hS.F ht⟩) hS.2.2 dX7_init_142
