def law_go : Prop := ∀ (e1 e2 : Nat → Nat → Nat) (k : Nat), k ≤ 30 → vL_law in_n in_f in_s zi zi zi zi in_n in_f in_s zi zi zi zi zi zi (fun i => (e1 i, ini)) (fun i => (e2 i, ini)) zi (nI k) 0 (fun r _ => r = 1)
set_option maxRecDepth 100000 in
set_option maxHeartbeats 8000000 in
theorem law_start (hgo : law_go) {p : Program} {e : Env} {s : State} {m : MethodId} {below : List Frame} {meth : Method} {c : Code} (l : Launch) {b L : Nat} {xs : Nat → Int32} (hL : L ≤ 260) (C0 : lw_At p s m meth c b L xs) : W p l e room_1 s m #[Value.ref b] below meth c s.heap [] 0 0 (lw_Z below #[Value.ref b] s) (entryFrame m ([Value.ref b] : List Value).toArray 14) := by
  obtain ⟨hx, hb, hr, hml, hown, hts0, hX, hbl, hlocks, hgv⟩ := id C0
  have hts : ∀ w ∈ wsL_law, w.before #[Value.ref b] s = true := fun w h => hts0 w (wsL_law_in w h)
  obtain ⟨G, cy, hE⟩ := law_env hts0
  obtain ⟨hZ, hEx⟩ := law_tabs hts0 hgv
  have hA : ∀ q : Nat, s.heap.size ≤ q → (fun q : Nat => s.heap.size ≤ q) q := fun _ h => h
  have hbA : ¬ (fun q : Nat => s.heap.size ≤ q) b := Nat.not_le.mpr hbl
  have S : CallFix p m c cL_law 14 s #[Value.ref b] wsL_law RL := ⟨hx, hb, hml, hown, hts⟩
  have hS : va_S (fun q : Nat => s.heap.size ≤ q) s.heap s.heap [] := va_S.rf
  have hP : va_P G vwCl [] s.heap := fun k q h => by simp at h
  have hD : va_D (fun q : Nat => s.heap.size ≤ q) [] := ⟨fun i j p q h => by simp at h, fun k q h => by simp at h⟩
  have hl := lv_entry ([.ref b]) (n := 14) (Nat.le_of_ble_eq_true rfl)
  rw [lg_entry_eq]
  generalize (lg_sl ([.ref b]) ++ List.replicate (14 - (lg_sl ([.ref b])).length) Slot.unset).toArray = ls at hl ⊢
  have hl : lv_has ls 14 [(0, .ref b)] := hl
  refine kw (ci := 6) (fs := [.null, .null, .null, .null, .null, .null]) S hE inlX6 tyX6_ok q_1_0 q_1_1 q_1_2 hP hD hS hA rfl (fun j hj => by rcases (show j = 0 ∨ j = 1 ∨ j = 2 ∨ j = 3 ∨ j = 4 ∨ j = 5 by omega) with rfl | rfl | rfl | rfl | rfl | rfl <;> rfl) (Nat.le_of_ble_eq_true rfl) (Nat.le_of_ble_eq_true rfl) dL_law_0 (fun q0 H hP hD hS => ?_)
  refine lv_dup hx hb dL_law_3 rfl ?_
  refine kc_I (L := []) (w0 := [(q0, .inr (6, [.null, .null, .null, .null, .null, .null]))]) (R' := []) (Ex := xSZ) S hE xSZ_ok (ctX6_init l G cy q0 H.size) q_1_3 q_1_4 q_1_2 q_1_5 rfl ydX6_init ⟨⟨rfl, rfl⟩, ⟨Nat.le_of_ble_eq_true rfl, Nat.le_of_ble_eq_true rfl⟩⟩ ⟨Nat.le_of_ble_eq_true rfl, Nat.le_of_ble_eq_true rfl⟩ hP hD hS hA (xSZ_at hZ hS (va_A_sub (L := []) (w0 := [(q0, .inr (6, [.null, .null, .null, .null, .null, .null]))]) (R' := []) hD hS hA)) hl.1 (Nat.le_of_ble_eq_true rfl) dL_law_4 (fun u H locs hu hP hD hS => ?_)
  have hP : va_P G vwCl (mo_W cy u.1 u.2.1 u.2.2.1 u.2.2.2.1 in_n in_f in_s zi zi zi zi in_n in_f in_s zi zi zi zi zi zi zi (fun i => (u.2.2.2.2.1 i, ini)) (fun i => (u.2.2.2.2.2 i, ini)) zi) H := by simpa only [List.append_nil, List.nil_append] using hP
  have hD : va_D (fun q : Nat => s.heap.size ≤ q) (mo_W cy u.1 u.2.1 u.2.2.1 u.2.2.2.1 in_n in_f in_s zi zi zi zi in_n in_f in_s zi zi zi zi zi zi zi (fun i => (u.2.2.2.2.1 i, ini)) (fun i => (u.2.2.2.2.2 i, ini)) zi) := by simpa only [List.append_nil, List.nil_append] using hD
  refine W.widen (k := 709475) (n := 6973823) (Nat.le_of_ble_eq_true rfl) (Nat.le_of_ble_eq_true rfl) ?_
  refine lv_astore_n (lv' := [(1, .ref q0), (0, .ref b)]) hx hb dL_law_7 rfl hl (by decide) rfl (fun ls hl => ?_)
  have J : ∀ k : Nat, k ≤ 30 → W p l e room_1 s m #[Value.ref b] below meth c H locs 709475 6973823 (lw_Z below #[Value.ref b] s) (F0 m 26 ls [.int (nI k)]) := by
    intro k hk
    refine lv_istore_n (lv' := [(2, .int (nI k)), (1, .ref q0), (0, .ref b)]) hx hb dL_law_26 rfl hl (by decide) rfl (fun ls hl => ?_)
    refine lv_iconst (v := 0) hx hb dL_law_27 (by decide) ?_
    refine lv_istore_n (lv' := [(3, .int 0), (2, .int (nI k)), (1, .ref q0), (0, .ref b)]) hx hb dL_law_28 rfl hl (by decide) rfl (fun ls hl => ?_)
    rw [← hu] at hl
    exact law_loop (by omega) hx hb hr hlocks S hX hbl hbA (fun _ h => h) hE hEx u.1 u.2.1 u.2.2.1 u.2.2.2.1 _ _ _ _ _ _ _ _ _ _ _ _ _ _ _ _ _ _ _ _ (nI k) 0 (fun r _ => r = 1) (fun _ _ h => h) (hgo u.2.2.2.2.1 u.2.2.2.2.2 k hk) hP hD hS (lv_sub hl [3, 2, 1, 0] rfl)
  have e3 : Int32.ofNat L / 3 = nI (L / 3) := pk_div (a := L) (d := 3) (by omega) (by decide) (by decide)
  refine lv_aload_n hx hb dL_law_8 rfl (lv_at hl 1 rfl) ?_
  refine va_slen hx hb hX hbl hbA hS dL_law_9 ?_
  refine lv_iconst (v := 3) hx hb dL_law_10 (by decide) ?_
  refine lv_idiv hx hb dL_law_11 (by decide) ?_
  refine lv_bipush (v := 30) hx hb dL_law_12 (by decide) ?_
  rw [e3]
  refine lv_icmp_ge (tgt := 24) hx hb dL_law_14 (by decide) (fun c_14 => ?_) (fun c_14 => ?_)
  · refine lv_bipush (v := 30) hx hb dL_law_24 (by decide) ?_
    exact J 30 (by decide)
  · refine lv_aload_n hx hb dL_law_17 rfl (lv_at hl 1 rfl) ?_
    refine va_slen hx hb hX hbl hbA hS dL_law_18 ?_
    refine lv_iconst (v := 3) hx hb dL_law_19 (by decide) ?_
    refine lv_idiv hx hb dL_law_20 (by decide) ?_
    refine lv_goto (tgt := 26) hx hb dL_law_21 (by decide) ?_
    rw [e3]
    refine J (L / 3) ?_
    have h30 : ¬ (30 ≤ L / 3) := fun q => c_14 ((nI_leI (a := 30) (b := L / 3) (by decide) (by omega)).mpr q)
    omega
