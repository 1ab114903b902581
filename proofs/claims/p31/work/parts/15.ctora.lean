/-! constructors: methods that make cells -/
abbrev XT : Type := (Nat → Prop) → State → Prop
def xno : XT := fun _ _ => True
/-- what a constructor may take of the launch besides: it must bear a call, and stay while what isn't ours stays -/
def xok (Ex : XT) : Prop := ∀ (A : Nat → Prop) (U : State) (g : JFrame) (mk : MethodId) (a : Array Value), Ex A U → Ex A (U.calling g mk a)
def CN (G : va_G) (cy : Nat → ClassId) (Ex : XT) (av : List Value) (w0 : va_W) (sz : Nat) : Array Value → State → Prop := va_Pc av (fun U => U.heap.size = sz ∧ va_P G vwCl w0 U.heap ∧ EV G cy U ∧ va_D (fun _ => True) w0 ∧ Ex (va_A w0 sz) U)
theorem CN.blind {G : va_G} {cy : Nat → ClassId} {Ex : XT} (hx : xok Ex) {av : List Value} {w0 : va_W} {sz : Nat} : FrameBlind (CN G cy Ex av w0 sz) := fun _ _ _ _ q => ⟨q.1, q.2.1, q.2.2.1, EV.calling q.2.2.2.1, q.2.2.2.2.1, hx _ _ _ _ _ q.2.2.2.2.2⟩
theorem hd_goN {l : Launch} {G : va_G} {cy : Nat → ClassId} {Ex : XT} {y : MethodName} {cc : ByteArray} {mL : Nat} {ret : Option FieldType} {rm : Room} {av : List Value} {w0 : va_W} {sz mc ms : Nat} {Qf : (Nat → Prop) → Array Value → State → Outcome → State → Prop}
    (hy : plainName y.cls = true) (hn : (lg_sl av).length ≤ mL)
    (body : ∀ (p : Program) (e : Env) (s : State) (m : MethodId) (below : List Frame) (meth : Method) (c : Code) (ls : Array Slot) (A : Nat → Prop), p.tables.exec = Jvm.exec → c.code = cc → meth.sig.returnType = ret → meth.locks = false → meth.name = y.name → CallFix p m c cc mL s av.toArray wsL_law y.cls → EV G cy s → Ex A s → (∀ q : Nat, s.heap.size ≤ q → A q) → va_P G vwCl w0 s.heap → va_D A w0 → va_S A s.heap s.heap [] → lv_has ls mL (lv_args 0 av) →
      W p l e (headSpec (ws_ y cc mL ret) rm).room s m av.toArray below meth c s.heap [] 0 0 (MQ below (Qf A) av.toArray s mc ms A) (F0 m 0 ls [])) :
    Met l y (ws_ y cc mL ret) rm (CN G cy Ex av w0 sz) (Qf (va_A w0 sz)) mc ms (va_A w0 sz) := by
  refine Met.ofW (cc := cc) (maxL := mL) (ret := ret) hy rfl ?_
  intro p e s m args below meth c s₁ B hml hv
  obtain ⟨rfl, hsz, hP, hE, hD0, hEx⟩ := hv
  subst hsz
  have hts0 := atoms_spec (ws := ws_ y cc mL ret) B.pre
  have hts : ∀ w ∈ wsL_law, w.before av.toArray s = true := fun w hw => hts0 w (List.mem_cons_of_mem _ hw)
  have hown : s.vm.findClass y.cls = some m.cls := findClass_of_methodNamed B.named
  have hl := lv_entry av (n := mL) hn
  rw [lg_entry_eq]
  exact body p e s m below meth c _ (va_A w0 s.heap.size) B.exec B.bytes B.returns B.notSynchronized (name_of_methodNamed B.named B.method).1 ⟨B.exec, B.bytes, hml, hown, hts⟩ hE hEx (fun q h => Or.inr h) hP hD0.self va_S.rf hl
/-- behind a call that made cells -/
theorem fx_joinN {A0 A2 : Nat → Prop} {G : va_G} {L w0 R w1 : va_W} {H H1 : Heap} (hP : va_P G vwCl (L ++ (w0 ++ R)) H) (hD : va_D A0 (L ++ (w0 ++ R))) (hin : ∀ q, A2 q → A1 w0 q ∨ H.size ≤ q) (hk : ∀ q : Nat, q < H.size → ¬ A2 q → H1[q]? = H[q]?) (hP1 : va_P G vwCl w1 H1) (hD1 : va_D A2 w1) (hA : ∀ q, A2 q → A0 q) : va_P G vwCl (L ++ (w1 ++ R)) H1 ∧ va_D A0 (L ++ (w1 ++ R)) := by
  have hD' := va_D.nodup.mp hD
  have hD1' := va_D.nodup.mp hD1
  rw [List.map_append, List.map_append, List.nodup_append, List.nodup_append] at hD'
  obtain ⟨⟨n1, ⟨n2, n3, n4⟩, n5⟩, hA0⟩ := hD'
  have inw : ∀ q, A1 w0 q → q ∈ w0.map Prod.fst := by
    rintro q ⟨k, e, h⟩
    exact List.mem_map.mpr ⟨(q, e), List.mem_of_getElem? h, rfl⟩
  have mem : ∀ q, q ∈ L ∨ q ∈ R → q ∈ L ++ (w0 ++ R) := by
    intro q hq
    rcases hq with h | h
    · exact List.mem_append_left _ h
    · exact List.mem_append_right _ (List.mem_append_right _ h)
  have small : ∀ q, q ∈ L ∨ q ∈ R → q.1 < H.size := by
    intro q hq
    obtain ⟨i, hi⟩ := List.getElem?_of_mem (mem q hq)
    exact (hP i q hi).lt
  have notin : ∀ q, q ∈ L ∨ q ∈ R → ¬ A2 q.1 := by
    intro q hq ha
    rcases hin _ ha with h | h
    · have hw := inw _ h
      rcases hq with h | h
      · exact n5 q.1 (List.mem_map.mpr ⟨q, h, rfl⟩) q.1 (List.mem_append_left _ hw) rfl
      · exact n4 q.1 hw q.1 (List.mem_map.mpr ⟨q, h, rfl⟩) rfl
    · have := small q hq
      omega
  have old : ∀ q, q ∈ L ∨ q ∈ R → va_at G vwCl q H1 := by
    intro q hq
    obtain ⟨i, hi⟩ := List.getElem?_of_mem (mem q hq)
    exact (hP i q hi).kept (hk q.1 (hP i q hi).lt (notin q hq))
  refine ⟨fun k q hq => ?_, va_D.nodup.mpr ⟨?_, fun q hq => ?_⟩⟩
  · rcases List.mem_append.mp (List.mem_of_getElem? hq) with h | h
    · exact old q (Or.inl h)
    · rcases List.mem_append.mp h with h | h
      · obtain ⟨i, hi⟩ := List.getElem?_of_mem h
        exact hP1 i q hi
      · exact old q (Or.inr h)
  · rw [List.map_append, List.map_append, List.nodup_append, List.nodup_append]
    refine ⟨n1, ⟨hD1'.1, n3, fun x hx y hy => ?_⟩, fun x hx y hy => ?_⟩
    · obtain ⟨q, hq, rfl⟩ := List.mem_map.mp hx
      obtain ⟨r, hr, rfl⟩ := List.mem_map.mp hy
      intro e
      exact notin r (Or.inr hr) (by rw [← e]; exact hD1'.2 q hq)
    · obtain ⟨r, hr, rfl⟩ := List.mem_map.mp hx
      rcases List.mem_append.mp hy with h | h
      · obtain ⟨q, hq, rfl⟩ := List.mem_map.mp h
        intro e
        exact notin r (Or.inl hr) (by rw [e]; exact hD1'.2 q hq)
      · exact n5 _ (List.mem_map.mpr ⟨r, hr, rfl⟩) y (List.mem_append_right _ h)
  · rcases List.mem_append.mp hq with h | h
    · exact hA0 q (List.mem_append_left _ h)
    · rcases List.mem_append.mp h with h | h
      · exact hA _ (hD1'.2 q h)
      · exact hA0 q (List.mem_append_right _ (List.mem_append_right _ h))
theorem va_A.cases {w0 : va_W} {sz q : Nat} (h : va_A w0 sz q) : A1 w0 q ∨ sz ≤ q := h
abbrev RN {σ : Type} (G : va_G) (K : σ → Prop) (Wd : σ → va_W) (A : Nat → Prop) : Array Value → State → Outcome → State → Prop := va_Qv K (fun u t => va_P G vwCl (Wd u) t.heap ∧ va_D A (Wd u)) A
section KI
variable {p : Program} {l : Launch} {e : Env} {R : Room} {s : State} {m : MethodId} {args : Array Value} {below : List Frame} {meth : Method} {c : Code} {H : Heap} {locs : List Loc} {cells slots : Nat} {Q : State → Prop}
variable {G : va_G} {cy : Nat → ClassId} {own : String} {index mL nL mc ms : Nat} {y : MethodName} {bc cc : ByteArray} {rm : Room} {rest : List Value} {b pc : Nat} {ls : Array Slot} {L w0 R' ws : va_W} {A0 : Nat → Prop} {H0 : Heap} {Ex : XT}
theorem kc_I {σ : Type} {K : σ → Prop} {Wd : σ → va_W} (S : CallFix p m c cc nL s args wsL_law own) (hE : EV G cy s) (hxo : xok Ex) (hM : Met l y (ws_ y bc mL none) rm (CN G cy Ex [.ref b] w0 H.size) (RN G K Wd (va_A w0 H.size)) mc ms (va_A w0 H.size)) (g1 : Cond.methodLink own index y ∈ wsL_law) (g2 : Cond.instanceMethod y ∈ wsL_law) (g4 : Cond.initialized y.cls ∈ wsL_law) (g5 : Cond.code y bc mL none ∈ wsL_law) (hyn : y.name = "<init>") (hd : y.cls ≠ "java/lang/invoke/MethodHandle" ∧ y.cls ≠ "java/lang/invoke/VarHandle" ∧ (parseMethodDescriptor y.desc).map (fun d => d.parameters.length) = some 0) (hR : (rm.cells = mc ∧ rm.slots = ms) ∧ (rm.frames + 1 ≤ R.frames ∧ 8 + (mL + 11) + rm.locals ≤ R.locals)) (hcs : cells + mc ≤ R.cells ∧ slots + ms ≤ R.slots)
    (hP : va_P G vwCl (L ++ (w0 ++ R')) H) (hD : va_D A0 (L ++ (w0 ++ R'))) (hS : va_S A0 H0 H locs) (hA : ∀ q : Nat, H0.size ≤ q → A0 q) (hEx : ∀ U : State, U.heap = H → s.WarmedH U.vm → Ex (va_A w0 H.size) U) (hsz : ls.size = nL) (hw8 : (rest.map fun v => v.category).sum ≤ 8) (hdg : decode cc pc = .ok (.invokespecial index, 3))
    (kk : ∀ (u : σ) (H1 : Heap) (locs1 : List Loc), K u → va_P G vwCl (L ++ (Wd u ++ R')) H1 → va_D A0 (L ++ (Wd u ++ R')) → va_S A0 H0 H1 locs1 → W p l e R s m args below meth c H1 locs1 (cells + mc) (slots + ms) Q (F0 m (pc + 3) ls rest)) : W p l e R s m args below meth c H locs cells slots Q (F0 m pc ls (.ref b :: rest)) := by
  have hP0 := hP.mid
  have hD0 := hD.mid
  have hF : ∀ q, va_A w0 H.size q → A0 q := fun q h => by
    rcases va_A.cases h with h | h
    · exact fx_free hD0 q h
    · exact hA q (Nat.le_trans hS.1 h)
  refine va_callv (va_runI (As := []) (rest := rest) S hM (cwI 0 S.2.2.2.2 (go_in (go_ws g5)) rfl hR.1.1 hR.1.2 (S.2.2.2.2 _ g4) (S.2.2.2.2 _ g1) (S.2.2.2.2 _ g2) hyn hd hR.2) ⟨CN.blind hxo, fun U hU hW => ⟨rfl, by rw [hU], by rw [hU]; exact hP0, hE.warm hW, hD0.any, hEx U hU hW⟩⟩ rfl rfl hsz rfl (lv_room hw8) hdg hcs) hS (fun q _ h => hF q h) hF (fun u t H1 locs1 ht hvm hk hB hz hkp hS1 => ?_)
  rw [ht] at hB
  obtain ⟨hP1, hD1⟩ := fx_joinN hP hD (fun q h => va_A.cases h) hkp hB.1 hB.2 hF
  exact kk u H1 locs1 hk hP1 hD1 hS1
theorem kc_IN {host : String} {σ : Type} {K : σ → Prop} {Wd : σ → va_W} (S : CallFix p m c cc nL s args wsL_law own) (hE : EV G cy s) (hxo : xok Ex) (hM : Met l y (ws_ y bc mL none) rm (CN G cy Ex [.ref b] w0 H.size) (RN G K Wd (va_A w0 H.size)) mc ms (va_A w0 H.size)) (g1 : va_Nw (.methodLinkNest own index y host) s) (g2 : Cond.instanceMethod y ∈ wsL_law) (g4 : Cond.initialized y.cls ∈ wsL_law) (g5 : Cond.code y bc mL none ∈ wsL_law) (hyn : y.name = "<init>") (hd : y.cls ≠ "java/lang/invoke/MethodHandle" ∧ y.cls ≠ "java/lang/invoke/VarHandle" ∧ (parseMethodDescriptor y.desc).map (fun d => d.parameters.length) = some 0) (hR : (rm.cells = mc ∧ rm.slots = ms) ∧ (rm.frames + 1 ≤ R.frames ∧ 8 + (mL + 11) + rm.locals ≤ R.locals)) (hcs : cells + mc ≤ R.cells ∧ slots + ms ≤ R.slots)
    (hP : va_P G vwCl (L ++ (w0 ++ R')) H) (hD : va_D A0 (L ++ (w0 ++ R'))) (hS : va_S A0 H0 H locs) (hA : ∀ q : Nat, H0.size ≤ q → A0 q) (hEx : ∀ U : State, U.heap = H → s.WarmedH U.vm → Ex (va_A w0 H.size) U) (hsz : ls.size = nL) (hw8 : (rest.map fun v => v.category).sum ≤ 8) (hdg : decode cc pc = .ok (.invokespecial index, 3))
    (kk : ∀ (u : σ) (H1 : Heap) (locs1 : List Loc), K u → va_P G vwCl (L ++ (Wd u ++ R')) H1 → va_D A0 (L ++ (Wd u ++ R')) → va_S A0 H0 H1 locs1 → W p l e R s m args below meth c H1 locs1 (cells + mc) (slots + ms) Q (F0 m (pc + 3) ls rest)) : W p l e R s m args below meth c H locs cells slots Q (F0 m pc ls (.ref b :: rest)) := by
  have hP0 := hP.mid
  have hD0 := hD.mid
  have hF : ∀ q, va_A w0 H.size q → A0 q := fun q h => by
    rcases va_A.cases h with h | h
    · exact fx_free hD0 q h
    · exact hA q (Nat.le_trans hS.1 h)
  refine va_callv (va_runIN (As := []) (rest := rest) S hM ⟨va_cnB 0 S.2.2.2.2 (go_in (go_ws g5)) rfl hR.1.1 hR.1.2 g1 (S.2.2.2.2 _ g4) hd hR.2, hyn, S.2.2.2.2 _ g2⟩ ⟨CN.blind hxo, fun U hU hW => ⟨rfl, by rw [hU], by rw [hU]; exact hP0, hE.warm hW, hD0.any, hEx U hU hW⟩⟩ rfl rfl hsz rfl (lv_room hw8) hdg hcs) hS (fun q _ h => hF q h) hF (fun u t H1 locs1 ht hvm hk hB hz hkp hS1 => ?_)
  rw [ht] at hB
  obtain ⟨hP1, hD1⟩ := fx_joinN hP hD (fun q h => va_A.cases h) hkp hB.1 hB.2 hF
  exact kk u H1 locs1 hk hP1 hD1 hS1
/-- a new array has the class that the tables name -/
theorem kn (S : CallFix p m c cc nL s args wsL_law own) (hE : EV G cy s) {atype : ArrayType} {ty : FieldType} {j : Nat} (hty : newarray.typeOf atype = ty) (harr : Cond.arrayClass ty ∈ wsL_law) (hj : [(cy 0, FieldType.int), (cy 1, .int), (cy 2, .byte), (cy 3, .boolean), (cy 4, .object RX4)][j]? = some (cy j, ty)) (hpr : ∀ (cA : ClassId), va_RA s cA ty → s.vm.findClass ("[" ++ ty.toString) = some cA) (hP : va_P G vwCl ws H) (hD : va_D A0 ws) (hS : va_S A0 H0 H locs) (hA : ∀ q : Nat, H0.size ≤ q → A0 q)
    {n : Int32} {N' : Nat} {a0 : vp_A} (ha : ∀ cA : ClassId, vp_cell cA a0 = arrV cA N' (fun _ => defaultValue ty)) (hn : ¬ n < 0) (hN : n.toNatClampNeg = N') (hbytes : N' * componentBytes ty ≤ 536870912) (hcells : cells + 1 ≤ R.cells) (hslots : slots + N' ≤ R.slots) (hdg : decode cc pc = .ok (.newarray atype, 2))
    (kk : ∀ (q : Nat) (H1 : Heap), va_P G vwCl (ws ++ [(q, .inl (cy j, a0))]) H1 → va_D A0 (ws ++ [(q, .inl (cy j, a0))]) → va_S A0 H0 H1 locs → W p l e R s m args below meth c H1 locs (cells + 1) (slots + N') Q (F0 m (pc + 2) ls (.ref q :: rest))) : W p l e R s m args below meth c H locs cells slots Q (F0 m pc ls (.int n :: rest)) := by
  refine va_newa S.1 S.2.1 (atype := atype) (S.2.2.2.2 _ (by rw [hty]; exact harr)) hty hE.1 hP hD hS hA ha hn hN hbytes hcells hslots hdg (fun q cA H1 hK1 hP1 hD1 hS1 => ?_)
  have e1 := hpr _ (hE.1.2 j _ hj).2
  have e2 := hpr _ (hK1.2 5 (cA, ty) rfl).2
  have e : cA = cy j := Option.some.inj (e2.symm.trans e1)
  subst e
  exact kk q H1 hP1 hD1 hS1
theorem kq (S : CallFix p m c cc nL s args wsL_law own) (hE : EV G cy s) (hlink : Cond.classLink own index RX4 ∈ wsL_law) (hP : va_P G vwCl ws H) (hD : va_D A0 ws) (hS : va_S A0 H0 H locs) (hA : ∀ q : Nat, H0.size ≤ q → A0 q)
    {n : Int32} {N' : Nat} (hn : ¬ n < 0) (hN : n.toNatClampNeg = N') (hbytes : N' * 4 ≤ 536870912) (hcells : cells + 1 ≤ R.cells) (hslots : slots + N' ≤ R.slots) (hdg : decode cc pc = .ok (.anewarray index, 3))
    (kk : ∀ (q : Nat) (H1 : Heap), va_P G vwCl (ws ++ [(q, .inl (cy 4, N', .inr (.inr (.inr (.inr (fun _ => none))))))]) H1 → va_D A0 (ws ++ [(q, .inl (cy 4, N', .inr (.inr (.inr (.inr (fun _ => none))))))]) → va_S A0 H0 H1 locs → W p l e R s m args below meth c H1 locs (cells + 1) (slots + N') Q (F0 m (pc + 3) ls (.ref q :: rest))) : W p l e R s m args below meth c H locs cells slots Q (F0 m pc ls (.int n :: rest)) := by
  refine va_newq S.1 S.2.1 S.2.2.2.1 (S.2.2.2.2 _ hlink) hE.2.2.2.2.2.2 hE.1 hP hD hS hA hn hN hbytes hcells hslots hdg (fun q cA H1 hK1 hP1 hD1 hS1 => ?_)
  obtain ⟨k1, c1, -, -, -, e1⟩ := (hE.1.2 4 (cy 4, .object RX4) rfl).2
  obtain ⟨k2, c2, -, -, -, e2⟩ := (hK1.2 5 (cA, .object RX4) rfl).2
  have e : cA = cy 4 := Option.some.inj (e2.symm.trans e1)
  subst e
  exact kk q H1 hP1 hD1 hS1
theorem ki (S : CallFix p m c cc nL s args wsL_law own) (hlink : Cond.methodLink own index objectInit ∈ wsL_law) (hsz : ls.size = nL) (hw : (rest.map fun v => v.category).sum + 12 ≤ R.locals) (hfr : 1 ≤ R.frames) (hdg : decode cc pc = .ok (.invokespecial index, 3)) (kk : W p l e R s m args below meth c H locs cells slots Q (F0 m (pc + 3) ls rest)) : W p l e R s m args below meth c H locs cells slots Q (F0 m pc ls (.ref b :: rest)) :=
  W.objInit (rest := rest) S.1 S.2.1 S.2.2.2.1 (S.2.2.2.2 _ hlink) (S.2.2.2.2 _ q_1_7) (S.2.2.2.2 _ q_1_8) rfl (hsz.trans S.2.2.1.symm) rfl hdg hfr (by show 2 * 0 + _ + 12 ≤ _; omega) kk
theorem kw (S : CallFix p m c cc nL s args wsL_law own) (hE : EV G cy s) {C : String} {T : u_T} {N ci : Nat} (hin : ∀ w ∈ u_ws C T N, w ∈ wsL_law) {ty : Nat → FieldType} (hty : ∀ k, k < N → parseFieldDescriptor (T k).2.2.1 = some (ty k)) (hcl : Cond.classLink own index C ∈ wsL_law) (hinst : Cond.instantiable C N ∈ wsL_law) (hini : Cond.initialized C ∈ wsL_law) (hP : va_P G vwCl ws H) (hD : va_D A0 ws) (hS : va_S A0 H0 H locs) (hA : ∀ q : Nat, H0.size ≤ q → A0 q) (hc : vwCl[ci]? = some (C, T, N)) {fs : List Value} (hfs : ∀ j, j < N → defaultValue (ty j) = vp_V fs j) (hcells : cells + 1 ≤ R.cells) (hslots : slots + N ≤ R.slots) (hdg : decode cc pc = .ok (.new index, 3))
    (kk : ∀ (q : Nat) (H1 : Heap), va_P G vwCl (ws ++ [(q, .inr (ci, fs))]) H1 → va_D A0 (ws ++ [(q, .inr (ci, fs))]) → va_S A0 H0 H1 locs → W p l e R s m args below meth c H1 locs (cells + 1) (slots + N) Q (F0 m (pc + 3) ls (.ref q :: rest))) : W p l e R s m args below meth c H locs cells slots Q (F0 m pc ls rest) :=
  va_new S.1 S.2.1 S.2.2.2.2 hin ty hty S.2.2.2.1 (S.2.2.2.2 _ hcl) (S.2.2.2.2 _ hinst) (S.2.2.2.2 _ hini) hE.1 hP hD hS hA hc hfs hcells hslots hdg kk
/-- a final field, in its class's constructor -/
theorem kpF {A : Nat → Prop} {a : Nat} {C : String} {T : u_T} {N ci : Nat} {fs : List Value} (S : CallFix p m c cc nL s args wsL_law own) (hE : EV G cy s) (hin2 : meth.name = "<init>") (hP : va_P G vwCl ws H) (hD : va_D A ws) (hS0 : va_S A H0 H locs) (q0 : Nat) (he : ws[q0]? = some (a, .inr (ci, fs))) (hc : vwCl[ci]? = some (C, T, N)) (k : Nat) (hk : k < N) (hlink : Cond.fieldLink own index own (T k).2.1 (T k).2.2.1 ∈ wsL_law) (hsame : (T k).1 = own) (hfin : (T k).2.2.2 = true) {ty0 : Nat → FieldType} (hty : ∀ k, k < N → parseFieldDescriptor (T k).2.2.1 = some (ty0 k)) (hnm : ∀ a, a < N → ∀ b, b < N → a ≠ b → (T a).2.1 ≠ (T b).2.1) (hin : ∀ w ∈ u_ws C T N, w ∈ wsL_law) {v : Value} (hn : narrow (ty0 k) v = v) (hfit : fits (ty0 k) v = true) (hl : k < fs.length) (hdg : decode cc pc = .ok (.putfield index, 3))
    (kk : ∀ (H1 : Heap) (locs1 : List Loc), va_P G vwCl (ws.set q0 (a, .inr (ci, fs.set k v))) H1 → va_D A (ws.set q0 (a, .inr (ci, fs.set k v))) → va_S A H0 H1 locs1 → W p l e R s m args below meth c H1 locs1 cells slots Q (F0 m (pc + 3) ls rest)) : W p l e R s m args below meth c H locs cells slots Q (F0 m pc ls (v :: .ref a :: rest)) :=
  va_putF S.1 S.2.1 S.2.2.2.2 hin ty0 hty hnm S.2.2.2.1 hE.1 hP hD hS0 q0 he hc k hk (S.2.2.2.2 _ hlink) (fun _ h9 => by rw [hsame] at h9; exact h9) hfin hin2 hsame (hty k hk) hn hfit hl hdg kk
end KI
