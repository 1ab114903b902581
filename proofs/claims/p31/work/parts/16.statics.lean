/-! a method that reads the class's own tables -/
def CX (G : va_G) (cy : Nat → ClassId) (Ex : XT) (av : List Value) (w0 : va_W) : Array Value → State → Prop := va_Pc av (fun U => va_P G vwCl w0 U.heap ∧ EV G cy U ∧ va_D (fun _ => True) w0 ∧ Ex (A1 w0) U)
theorem CX.blind {G : va_G} {cy : Nat → ClassId} {Ex : XT} (hx : xok Ex) {av : List Value} {w0 : va_W} : FrameBlind (CX G cy Ex av w0) := fun _ _ _ _ q => ⟨q.1, q.2.1, EV.calling q.2.2.1, q.2.2.2.1, hx _ _ _ _ _ q.2.2.2.2⟩
theorem hd_goX {l : Launch} {G : va_G} {cy : Nat → ClassId} {Ex : XT} {y : MethodName} {cc : ByteArray} {mL : Nat} {ret : Option FieldType} {rm : Room} {av : List Value} {w0 : va_W} {Qf : (Nat → Prop) → Array Value → State → Outcome → State → Prop}
    (hy : plainName y.cls = true) (hn : (lg_sl av).length ≤ mL)
    (body : ∀ (p : Program) (e : Env) (s : State) (m : MethodId) (below : List Frame) (meth : Method) (c : Code) (ls : Array Slot) (A : Nat → Prop), p.tables.exec = Jvm.exec → c.code = cc → meth.sig.returnType = ret → meth.locks = false → CallFix p m c cc mL s av.toArray wsL_law y.cls → EV G cy s → Ex A s → va_P G vwCl w0 s.heap → va_D A w0 → va_S A s.heap s.heap [] → lv_has ls mL (lv_args 0 av) →
      W p l e (headSpec (ws_ y cc mL ret) rm).room s m av.toArray below meth c s.heap [] 0 0 (MQ below (Qf A) av.toArray s 0 0 A) (F0 m 0 ls [])) :
    Met l y (ws_ y cc mL ret) rm (CX G cy Ex av w0) (Qf (A1 w0)) 0 0 (A1 w0) := by
  refine Met.ofW (cc := cc) (maxL := mL) (ret := ret) hy rfl ?_
  intro p e s m args below meth c s₁ B hml hv
  obtain ⟨rfl, hP, hE, hD0, hEx⟩ := hv
  have hts0 := atoms_spec (ws := ws_ y cc mL ret) B.pre
  have hts : ∀ w ∈ wsL_law, w.before av.toArray s = true := fun w hw => hts0 w (List.mem_cons_of_mem _ hw)
  have hown : s.vm.findClass y.cls = some m.cls := findClass_of_methodNamed B.named
  have hl := lv_entry av (n := mL) hn
  rw [lg_entry_eq]
  exact body p e s m below meth c _ (A1 w0) B.exec B.bytes B.returns B.notSynchronized ⟨B.exec, B.bytes, hml, hown, hts⟩ hE hEx hP hD0.own va_S.rf hl
def sLE : Nat → Int32 := fun j => [10, 0, 100, 0, 1, 0, 1, 10].getD j 0
def sGR : Nat → Int32 := fun j => [1000, 500, 5000, 10000, 500, 500, 60, 500].getD j 0
def xSL (nm : String) (f : Nat → Int32) : XT := fun A U => ∃ t : Nat, va_Z RX6 nm "[I" (.ref t) A U U.heap ∧ va_T .int t 8 (fun j => .int (f j)) A U U.heap
def xST : XT := fun A U => xSL "SETTING_LEAST" sLE A U ∧ xSL "SETTING_GREATEST" sGR A U
theorem xSL_ok (nm : String) (f : Nat → Int32) : xok (xSL nm f) := by
  rintro A U g mk a ⟨t, h1, h2⟩
  exact ⟨t, va_Z.moved (u := U) (U := U.calling g mk a) (Vm.Alike.refl U.vm) h1, va_T.moved (u := U) (U := U.calling g mk a) (Vm.Alike.refl U.vm) h2⟩
theorem xST_ok : xok xST := fun A U g mk a h => ⟨xSL_ok _ _ A U g mk a h.1, xSL_ok _ _ A U g mk a h.2⟩
theorem xSL_at {nm : String} {f : Nat → Int32} {A0 A2 : Nat → Prop} {s : State} {H : Heap} {locs : List Loc} (hx : xSL nm f A0 s) (hS : va_S A0 s.heap H locs) (hsub : ∀ q, A2 q → A0 q) : ∀ U : State, U.heap = H → s.WarmedH U.vm → xSL nm f A2 U := by
  obtain ⟨t, h1, h2⟩ := hx
  intro U hU hW
  refine ⟨t, ?_, ?_⟩
  · rw [hU]; exact ((h1.kept hS.2.1).moved hW.alike).narrow hsub
  · rw [hU]; exact ((h2.kept hS.2.1).moved hW.alike).narrow hsub
theorem xST_at {A0 A2 : Nat → Prop} {s : State} {H : Heap} {locs : List Loc} (hx : xST A0 s) (hS : va_S A0 s.heap H locs) (hsub : ∀ q, A2 q → A0 q) : ∀ U : State, U.heap = H → s.WarmedH U.vm → xST A2 U := fun U hU hW => ⟨xSL_at hx.1 hS hsub U hU hW, xSL_at hx.2 hS hsub U hU hW⟩
section KCX
variable {p : Program} {l : Launch} {e : Env} {R : Room} {s : State} {m : MethodId} {args : Array Value} {below : List Frame} {meth : Method} {c : Code} {H : Heap} {locs : List Loc} {cells slots : Nat} {Q : State → Prop}
variable {G : va_G} {cy : Nat → ClassId} {own C : String} {T : u_T} {N ci index mL nL n : Nat} {y : MethodName} {bc cc : ByteArray} {ret : Option FieldType} {rm : Room} {As fs rest st0 : List Value} {b pc : Nat} {ls : Array Slot} {L w0 R' ws : va_W} {H0 : Heap} {A0 A : Nat → Prop} {a : Nat} {Ex : XT}
theorem kc_ViX {σ : Type} {K : Int32 → σ → Prop} {Wd : σ → va_W} (S : CallFix p m c cc nL s args wsL_law own) (hE : EV G cy s) (hxo : xok Ex) (hM : Met l y (ws_ y bc mL ret) rm (CX G cy Ex (.ref b :: As) w0) (RI G K Wd (A1 w0)) 0 0 (A1 w0)) (g1 : Cond.methodLink own index y ∈ wsL_law) (g2 : Cond.instanceMethod y ∈ wsL_law) (g3 : Cond.selects C y y ∈ wsL_law) (g4 : Cond.initialized C ∈ wsL_law) (g5 : Cond.code y bc mL ret ∈ wsL_law) (hyC : y.cls = C) (q0 : Nat) (he : w0[q0]? = some (b, .inr (ci, fs))) (hc : vwCl[ci]? = some (C, T, N)) (hd : y.cls ≠ "java/lang/invoke/MethodHandle" ∧ y.cls ≠ "java/lang/invoke/VarHandle" ∧ (parseMethodDescriptor y.desc).map (fun d => d.parameters.length) = some n) (hR : (rm.cells = 0 ∧ rm.slots = 0) ∧ (rm.frames + 1 ≤ R.frames ∧ 8 + (mL + 11) + rm.locals ≤ R.locals)) (hcs : cells ≤ R.cells ∧ slots ≤ R.slots) (hP : va_P G vwCl (L ++ (w0 ++ R')) H) (hD : va_D A0 (L ++ (w0 ++ R'))) (hS : va_S A0 H0 H locs) (hEx : ∀ U : State, U.heap = H → s.WarmedH U.vm → Ex (A1 w0) U) (hn : As.length = n) (hsz : ls.size = nL) (hst : st0 = As.reverse ++ .ref b :: rest) (hw8 : (rest.map fun v => v.category).sum ≤ 8) (hdg : decode cc pc = .ok (.invokevirtual index, 3))
    (kk : ∀ (r : Int32) (u : σ) (H1 : Heap) (locs1 : List Loc), K r u → va_P G vwCl (L ++ (Wd u ++ R')) H1 → va_D A0 (L ++ (Wd u ++ R')) → va_S A0 H0 H1 locs1 → W p l e R s m args below meth c H1 locs1 cells slots Q (F0 m (pc + 3) ls (.int r :: rest))) : W p l e R s m args below meth c H locs cells slots Q (F0 m pc ls st0) := by
  have hP0 := hP.mid
  have hD0 := hD.mid
  have hF := fx_free hD0
  refine va_calli (va_runV (As := As) (rest := rest) S hM (cwV n S.2.2.2.2 (go_V g1 g2 g3 g4 g5) rfl hR.1.1 hR.1.2 ⟨hyC, hd⟩ hR.2) ⟨CX.blind hxo, va_recv hE.1 hP0 hc he, fun U hU hW => ⟨rfl, by rw [hU]; exact hP0, hE.warm hW, hD0.any, hEx U hU hW⟩⟩ rfl hn hsz hst (lv_room hw8) hdg ⟨hcs.1, hcs.2⟩) hS (fun q _ h => hF q h) hF (fun r u t H1 locs1 ht hvm hk hB hz hkp hS1 => ?_)
  rw [ht] at hB
  obtain ⟨hP1, hD1⟩ := fx_join hP hD hkp hB.1 hB.2
  exact kk r u H1 locs1 hk hP1 hD1 hS1
end KCX
