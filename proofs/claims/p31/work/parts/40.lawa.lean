theorem arr_known {s : State} {args : Array Value} {ty : FieldType} (h : (Cond.arrayClass ty).before args s = true) : ∃ cA : ClassId, ArrOfT s cA ty ∧ s.vm.findClass ("[" ++ ty.toString) = some cA := by
  obtain ⟨cA, kA, comp, h1, h2, h3⟩ := Cond.arrayClass_spec h
  exact ⟨cA, fun n z => ⟨(fun k h => by cases h), kA, h2, comp, h3⟩, h1⟩
theorem arr_knownQ {s : State} {args : Array Value} {C : String} (h : (Cond.arrayOver (.object C)).before args s = true) : ∃ cA : ClassId, ArrOfT s cA (.object C) ∧ va_RA s cA (.object C) := by
  obtain ⟨comp, c, k, h1, h2, h3, h4, h5⟩ := Cond.arrayOver_spec h
  exact ⟨c, fun n z => ⟨(fun k h => by cases h), k, h3, comp, h4⟩, k, comp, h3, h4, h1, h5⟩
set_option maxRecDepth 100000 in
set_option maxHeartbeats 4000000 in
theorem law_env {s : State} {b : Nat} (hts : ∀ w ∈ lw_tbl, w.before #[Value.ref b] s = true) : ∃ (G : va_G) (cy : Nat → ClassId), EV G cy s := by
  obtain ⟨c0, i0, hk0⟩ := u_known (C := RX0) (T := TX0) (N := 2) (n := 2) hts tuX0 (hts _ (wsL_law_in _ q_1_22))
  obtain ⟨c1, i1, hk1⟩ := u_known (C := RX1) (T := TX1) (N := 2) (n := 2) hts tuX1 (hts _ (wsL_law_in _ q_1_15))
  obtain ⟨c2, i2, hk2⟩ := u_known (C := RX2) (T := TX2) (N := 3) (n := 3) hts tuX2 (hts _ (wsL_law_in _ q_2_15))
  obtain ⟨c3, i3, hk3⟩ := u_known (C := RX3) (T := TX3) (N := 5) (n := 5) hts tuX3 (hts _ (wsL_law_in _ q_2_23))
  obtain ⟨c4, i4, hk4⟩ := u_known (C := RX4) (T := TX4) (N := 14) (n := 14) hts tuX4 (hts _ (wsL_law_in _ q_1_10))
  obtain ⟨c5, i5, hk5⟩ := u_known (C := RX5) (T := TX5) (N := 3) (n := 3) hts tuX5 (hts _ (wsL_law_in _ q_2_19))
  obtain ⟨c6, i6, hk6⟩ := u_known (C := RX6) (T := TX6) (N := 6) (n := 6) hts tuX6 (hts _ (wsL_law_in _ q_1_1))
  obtain ⟨a0, ha0, hb0⟩ := arr_known (hts _ (wsL_law_in _ q_2_8))
  obtain ⟨a1, ha1, hb1⟩ := arr_known (hts _ (wsL_law_in _ q_2_8))
  obtain ⟨a2, ha2, hb2⟩ := arr_known (hts _ (wsL_law_in _ q_4_4))
  obtain ⟨a3, ha3, hb3⟩ := arr_known (hts _ (wsL_law_in _ q_1_19))
  have hao : (Cond.arrayOver (.object RX4)).before #[Value.ref b] s = true := hts _ (tb_1 (List.mem_of_getElem? (i := 159) rfl))
  obtain ⟨a4, ha4, hb4⟩ := arr_knownQ hao
  refine ⟨(fun k => [c0, c1, c2, c3, c4, c5, c6].getD k 0, fun k => [i0, i1, i2, i3, i4, i5, i6].getD k (fun _ => 0)), fun k => [a0, a1, a2, a3, a4].getD k 0, ⟨?_, ?_⟩, ?_, ?_, ?_, ?_, ?_, ?_⟩
  · intro k q hq
    match k, hq with
    | 0, hq => cases hq; exact hk0
    | 1, hq => cases hq; exact hk1
    | 2, hq => cases hq; exact hk2
    | 3, hq => cases hq; exact hk3
    | 4, hq => cases hq; exact hk4
    | 5, hq => cases hq; exact hk5
    | 6, hq => cases hq; exact hk6
    | k + 7, hq => simp [vwCl] at hq
  · intro k q hq
    match k, hq with
    | 0, hq => cases hq; exact ⟨ha0, hb0⟩
    | 1, hq => cases hq; exact ⟨ha1, hb1⟩
    | 2, hq => cases hq; exact ⟨ha2, hb2⟩
    | 3, hq => cases hq; exact ⟨ha3, hb3⟩
    | 4, hq => cases hq; exact ⟨ha4, hb4⟩
    | k + 5, hq => simp at hq
  · exact va_Nw.of rfl (hts _ (tb_2 (List.mem_of_getElem? (i := 222) rfl)))
  · exact va_Nw.of rfl (hts _ (tb_2 (List.mem_of_getElem? (i := 54) rfl)))
  · exact va_Nw.of rfl (hts _ (tb_2 (List.mem_of_getElem? (i := 232) rfl)))
  · exact va_Nw.of rfl (hts _ (tb_1 (List.mem_of_getElem? (i := 71) rfl)))
  · exact va_Nw.of rfl (hts _ (tb_1 (List.mem_of_getElem? (i := 24) rfl)))
  · exact va_AO.of hao
theorem law_tab {s : State} {b : Nat} {nm : String} {f : Nat → Int32} (hl : (Cond.laysStatic RX6 nm "[I").before #[Value.ref b] s = true) (hini : (Cond.initialized RX6).before #[Value.ref b] s = true) (harr : (Cond.arrayOf (.static RX6 nm "[I") .int).before #[Value.ref b] s = true) (hlen : (Cond.eq (.length (.static RX6 nm "[I")) (.int 8)).before #[Value.ref b] s = true) (hel : ∀ j, j < 8 → (Cond.eq (.elem (.static RX6 nm "[I") (.int (Int32.ofNat j))) (.int (f j))).before #[Value.ref b] s = true) : xSL nm f (fun q => s.heap.size ≤ q) s := by
  have hA : ∀ a : Nat, a < s.heap.size → ¬ s.heap.size ≤ a := fun a h => by omega
  obtain ⟨t, ht, hT⟩ := va_Tof (f := fun j => .int (f j)) (N := 8) (A := fun q => s.heap.size ≤ q) (by decide) harr (va_eqt hlen) (fun j hj => va_eqt (hel j hj)) hA
  exact ⟨t, va_Zof hl hini ht hA, hT⟩
set_option maxRecDepth 100000 in
set_option maxHeartbeats 4000000 in
theorem law_tabs {s : State} {b : Nat} (hts : ∀ w ∈ lw_tbl, w.before #[Value.ref b] s = true) (hgv : (Jvm.Cond.and given_1 narrow_1).before #[Value.ref b] s = true) : xSZ (fun q => s.heap.size ≤ q) s ∧ xST (fun q => s.heap.size ≤ q) s := by
  have hs := flat_of_before _ hgv
  have hini : (Cond.initialized RX6).before #[Value.ref b] s = true := hts _ (wsL_law_in _ q_1_2)
  exact ⟨law_tab (nm := "SETTING_AT_FIRST") (f := sAF) (hts _ (tb_1 (List.mem_of_getElem? (i := 25) rfl))) hini (hs _ (by decide +kernel)) (hs _ (by decide +kernel)) (fun j hj => by rcases (show j = 0 ∨ j = 1 ∨ j = 2 ∨ j = 3 ∨ j = 4 ∨ j = 5 ∨ j = 6 ∨ j = 7 by omega) with rfl | rfl | rfl | rfl | rfl | rfl | rfl | rfl <;> exact hs _ (by decide +kernel)), law_tab (nm := "SETTING_LEAST") (f := sLE) (hts _ (tb_2 (List.mem_of_getElem? (i := 121) rfl))) hini (hs _ (by decide +kernel)) (hs _ (by decide +kernel)) (fun j hj => by rcases (show j = 0 ∨ j = 1 ∨ j = 2 ∨ j = 3 ∨ j = 4 ∨ j = 5 ∨ j = 6 ∨ j = 7 by omega) with rfl | rfl | rfl | rfl | rfl | rfl | rfl | rfl <;> exact hs _ (by decide +kernel)), law_tab (nm := "SETTING_GREATEST") (f := sGR) (hts _ (tb_2 (List.mem_of_getElem? (i := 123) rfl))) hini (hs _ (by decide +kernel)) (hs _ (by decide +kernel)) (fun j hj => by rcases (show j = 0 ∨ j = 1 ∨ j = 2 ∨ j = 3 ∨ j = 4 ∨ j = 5 ∨ j = 6 ∨ j = 7 by omega) with rfl | rfl | rfl | rfl | rfl | rfl | rfl | rfl <;> exact hs _ (by decide +kernel))⟩
