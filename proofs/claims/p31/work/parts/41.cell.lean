section KCX
variable {p : Program} {l : Launch} {e : Env} {R : Room} {s : State} {m : MethodId} {args : Array Value} {below : List Frame} {meth : Method} {c : Code} {H : Heap} {locs : List Loc} {cells slots : Nat} {Q : State → Prop}
variable {G : va_G} {cy : Nat → ClassId} {own C : String} {T : u_T} {N ci index mL nL n : Nat} {y : MethodName} {bc cc : ByteArray} {ret : Option FieldType} {rm : Room} {As fs rest st0 : List Value} {b pc : Nat} {ls : Array Slot} {L w0 R' ws : va_W} {H0 : Heap} {A0 A : Nat → Prop} {a : Nat} {Ex : XT}
theorem kc_SiEX {σ : Type} {K : Int32 → σ → Prop} {Wd : σ → va_W} (S : CallFix p m c cc nL s args wsL_law own) (hE : EV G cy s) (hxo : xok Ex) (hM : Met l y (ws_ y bc mL ret) rm (CX G cy Ex As []) (RI G K Wd (A1 [])) 0 0 (A1 [])) (g1 : Cond.methodLink own index y ∈ wsL_law) (g2 : Cond.static y ∈ wsL_law) (g4 : Cond.initialized y.cls ∈ wsL_law) (g5 : Cond.code y bc mL ret ∈ wsL_law) (hd : y.cls ≠ "java/lang/invoke/MethodHandle" ∧ y.cls ≠ "java/lang/invoke/VarHandle" ∧ (parseMethodDescriptor y.desc).map (fun d => d.parameters.length) = some n) (hR : (rm.cells = 0 ∧ rm.slots = 0) ∧ (rm.frames + 1 ≤ R.frames ∧ 8 + (mL + 11) + rm.locals ≤ R.locals)) (hcs : cells ≤ R.cells ∧ slots ≤ R.slots) (hP : va_P G vwCl ws H) (hD : va_D A0 ws) (hS : va_S A0 H0 H locs) (hEx : ∀ U : State, U.heap = H → s.WarmedH U.vm → Ex (A1 []) U) (ha : ∀ u, Wd u = []) (hn : As.length = n) (hsz : ls.size = nL) (hst : st0 = As.reverse ++ rest) (hw8 : (rest.map fun v => v.category).sum ≤ 8) (hdg : decode cc pc = .ok (.invokestatic index, 3))
    (kk : ∀ (r : Int32) (u : σ) (H1 : Heap) (locs1 : List Loc), K r u → va_P G vwCl ws H1 → va_D A0 ws → va_S A0 H0 H1 locs1 → W p l e R s m args below meth c H1 locs1 cells slots Q (F0 m (pc + 3) ls (.int r :: rest))) : W p l e R s m args below meth c H locs cells slots Q (F0 m pc ls st0) := by
  have hP' : va_P G vwCl ([] ++ ([] ++ ws)) H := hP
  have hD' : va_D A0 ([] ++ ([] ++ ws)) := hD
  have hP0 := hP'.mid
  have hD0 := hD'.mid
  have hF := fx_free hD0
  refine va_calli (va_runS (As := As) (rest := rest) S hM (va_cwS n S.2.2.2.2 (go_S g1 g2 g4 g5) rfl hR.1.1 hR.1.2 hd hR.2) ⟨CX.blind hxo, fun U hU hW => ⟨rfl, by rw [hU]; exact hP0, hE.warm hW, hD0.any, hEx U hU hW⟩⟩ rfl hn hsz hst (lv_room hw8) hdg ⟨hcs.1, hcs.2⟩) hS (fun q _ h => hF q h) hF (fun r u t H1 locs1 ht hvm hk hB hz hkp hS1 => ?_)
  rw [ht] at hB
  obtain ⟨hP1, hD1⟩ := fx_join hP' hD' hkp hB.1 hB.2
  rw [ha u] at hP1 hD1
  exact kk r u H1 locs1 hk hP1 hD1 hS1
end KCX
def vL_cell (p : Int32) (K : Int32 → Unit → Prop) : Prop := ¬ p < 0 ∧ ∀ r, K r ()
/-- the script, as a call of the law's may read it -/
def xSC (b L : Nat) (xs : Nat → Int32) : XT := fun A U => va_X b L xs U U.heap ∧ b < U.heap.size ∧ ¬ A b
theorem xSC_ok (b L : Nat) (xs : Nat → Int32) : xok (xSC b L xs) := fun A U g mk a h => ⟨va_X.moved (u := U) (U := U.calling g mk a) (Vm.Alike.refl U.vm) h.1, h.2.1, h.2.2⟩
theorem xSC_at {b L : Nat} {xs : Nat → Int32} {A0 : Nat → Prop} {s : State} {H : Heap} {locs : List Loc} (hX : va_X b L xs s s.heap) (hbl : b < s.heap.size) (hbA : ¬ A0 b) (hS : va_S A0 s.heap H locs) : ∀ U : State, U.heap = H → s.WarmedH U.vm → xSC b L xs (A1 []) U := fun U hU hW => ⟨by rw [hU]; exact (hX.kept (hS.2.1 b hbl hbA)).moved hW.alike, by rw [hU]; exact Nat.lt_of_lt_of_le hbl hS.1, fun q => by obtain ⟨k, e, h⟩ := q; simp at h⟩
set_option maxRecDepth 100000 in
set_option maxHeartbeats 4000000 in
theorem ctL_cell (l : Launch) (G : va_G) (cy : Nat → ClassId) (b L : Nat) (xs : Nat → Int32) (p1 : Int32) (K : Int32 → Unit → Prop) (hL : L < 2 ^ 31) (h : vL_cell p1 K) : Met l yL_cell (ws_ yL_cell cL_cell 2 (some .int)) ({ frames := 0, cells := 0, slots := 0, locals := 0 } : Room) (CX G cy (xSC b L xs) [.ref b, .int p1] []) (RI G K (fun _ => []) (A1 [])) 0 0 (A1 []) := by
  refine hd_goX (Qf := fun A => RI G K (fun _ => []) A) (by decide +kernel) (Nat.le_of_ble_eq_true rfl) ?_
  intro p e s m below meth c ls A hx hb hr hlocks S hE hEx hP hD hS hl
  obtain ⟨hX, hbl, hbA⟩ := hEx
  have hl : lv_has ls 2 [(0, .ref b), (1, .int p1)] := hl
  refine lv_iload_n hx hb dL_cell_0 rfl (lv_at hl 1 rfl) ?_
  refine lv_aload_n hx hb dL_cell_1 rfl (lv_at hl 0 rfl) ?_
  refine va_slen hx hb hX hbl hbA hS dL_cell_2 ?_
  refine lv_icmp_ge (tgt := 12) hx hb dL_cell_3 (by decide) (fun c_3 => ?_) (fun c_3 => ?_)
  · refine lv_ldc hx hb S.2.2.2.1 (S.2.2.2.2 _ q_4_10) dL_cell_12 ?_
    refine lv_iload_n hx hb dL_cell_14 rfl (lv_at hl 1 rfl) ?_
    refine lv_iconst (v := 3) hx hb dL_cell_15 (by decide) ?_
    refine lv_iadd hx hb dL_cell_16 ?_
    refine lv_imul hx hb dL_cell_17 ?_
    exact W.iret hx hb hr (fun t ht hW => ⟨⟨_, (), rfl, h.2 _, ⟨hp_at ht hP, hD⟩⟩, hS.F ht⟩) hS.2.2 dL_cell_18
  · have hin : vp_in p1 L := by
      rintro (q | q)
      · exact h.1 q
      · refine c_3 ?_
        have h0 : 0 ≤ p1.toInt := by
          have := h.1
          rw [Int32.lt_iff_toInt_lt] at this
          simpa using this
        have e1 : (Int32.ofNat L).toInt = (L : Int) := nI_toInt (by omega)
        rw [Int32.le_iff_toInt_le, e1]
        have q' : L ≤ p1.toInt.toNat := q
        omega
    refine lv_aload_n hx hb dL_cell_6 rfl (lv_at hl 0 rfl) ?_
    refine lv_iload_n hx hb dL_cell_7 rfl (lv_at hl 1 rfl) ?_
    refine va_sld hx hb hX hbl hbA hS hin dL_cell_8 ?_
    refine lv_goto (tgt := 18) hx hb dL_cell_9 (by decide) ?_
    exact W.iret hx hb hr (fun t ht hW => ⟨⟨_, (), rfl, h.2 _, ⟨hp_at ht hP, hD⟩⟩, hS.F ht⟩) hS.2.2 dL_cell_18
