/-! words: every method's list is its own code and all that the law links -/
abbrev ws_ (y : MethodName) (c : ByteArray) (n : Nat) (r : Option FieldType) : List Cond := Cond.code y c n r :: wsL_law
set_option maxRecDepth 100000 in
theorem go_all : wsL_law.all goodWord = true := by decide +kernel
theorem go_in {ws : List Cond} (h : ∀ w ∈ ws, w ∈ wsL_law) : GoodIn wsL_law ws := fun w hw => ⟨h w hw, good_of_word (List.all_eq_true.mp go_all w (h w hw))⟩
theorem go_ws {y : MethodName} {c : ByteArray} {n : Nat} {r : Option FieldType} (g5 : Cond.code y c n r ∈ wsL_law) : ∀ w ∈ ws_ y c n r, w ∈ wsL_law := by
  intro w hw
  rcases List.mem_cons.mp hw with rfl | hw
  · exact g5
  · exact hw
theorem go_V {own C : String} {idx : Nat} {y : MethodName} {c : ByteArray} {n : Nat} {r : Option FieldType} (g1 : Cond.methodLink own idx y ∈ wsL_law) (g2 : Cond.instanceMethod y ∈ wsL_law) (g3 : Cond.selects C y y ∈ wsL_law) (g4 : Cond.initialized C ∈ wsL_law) (g5 : Cond.code y c n r ∈ wsL_law) : GoodIn wsL_law (wsV own idx C y (ws_ y c n r)) := go_in (by
  intro w hw
  rcases List.mem_append.mp hw with hw | hw
  · simp only [List.mem_cons, List.not_mem_nil, or_false] at hw
    rcases hw with rfl | rfl | rfl | rfl <;> assumption
  · exact go_ws g5 w hw)
theorem go_S {own : String} {idx : Nat} {y : MethodName} {c : ByteArray} {n : Nat} {r : Option FieldType} (g1 : Cond.methodLink own idx y ∈ wsL_law) (g2 : Cond.static y ∈ wsL_law) (g4 : Cond.initialized y.cls ∈ wsL_law) (g5 : Cond.code y c n r ∈ wsL_law) : GoodIn wsL_law (va_wsS own idx y (ws_ y c n r)) := go_in (by
  intro w hw
  rcases List.mem_append.mp hw with hw | hw
  · simp only [List.mem_cons, List.not_mem_nil, or_false] at hw
    rcases hw with rfl | rfl | rfl <;> assumption
  · exact go_ws g5 w hw)
/-! what holds of the launch's tables, in every method -/
def EV (G : va_G) (cy : Nat → ClassId) (U : State) : Prop := va_K G vwCl [(cy 0, .int), (cy 1, .int), (cy 2, .byte), (cy 3, .boolean), (cy 4, .object RX4)] U ∧ va_Nw (.methodLinkNest RX3 35 yX6_size RX6) U ∧ va_Nw (.methodLinkNest RX4 172 yX6_size RX6) U ∧ va_Nw (.methodLinkNest RX5 32 yX6_size RX6) U ∧ va_Nw (.methodLinkNest RX4 49 yX3_init RX6) U ∧ va_Nw (.fieldLinkNest RX4 24 RX6 "SETTING_AT_FIRST" "[I" RX6) U ∧ va_AO RX4 U
theorem EV.warm {G : va_G} {cy : Nat → ClassId} {s U : State} (h : EV G cy s) (hW : s.WarmedH U.vm) : EV G cy U := ⟨va_K.moved hW.alike h.1, va_Nw.warmM hW h.2.1, va_Nw.warmM hW h.2.2.1, va_Nw.warmM hW h.2.2.2.1, va_Nw.warmM hW h.2.2.2.2.1, va_Nw.warmF hW h.2.2.2.2.2.1, va_AO.moved hW.alike h.2.2.2.2.2.2⟩
theorem EV.calling {G : va_G} {cy : Nat → ClassId} {U : State} {g : JFrame} {mk : MethodId} {a : Array Value} (h : EV G cy U) : EV G cy (U.calling g mk a) := ⟨va_K.moved (u := U) (U := U.calling g mk a) (Vm.Alike.refl U.vm) h.1, va_Nw.same rfl rfl h.2.1, va_Nw.same rfl rfl h.2.2.1, va_Nw.same rfl rfl h.2.2.2.1, va_Nw.same rfl rfl h.2.2.2.2.1, va_Nw.same rfl rfl h.2.2.2.2.2.1, va_AO.moved (u := U) (U := U.calling g mk a) (Vm.Alike.refl U.vm) h.2.2.2.2.2.2⟩
/-- a method's start: its arguments, its world -/
def CP (G : va_G) (cy : Nat → ClassId) (av : List Value) (w0 : va_W) : Array Value → State → Prop := va_Pc av (fun U => va_P G vwCl w0 U.heap ∧ EV G cy U ∧ va_D (fun _ => True) w0)
theorem CP.blind {G : va_G} {cy : Nat → ClassId} {av : List Value} {w0 : va_W} : FrameBlind (CP G cy av w0) := fun _ _ _ _ q => ⟨q.1, q.2.1, EV.calling q.2.2.1, q.2.2.2⟩
/-- the cells of a world -/
def A1 (w : va_W) : Nat → Prop := fun q => ∃ (k : Nat) (e : va_E), w[k]? = some (q, e)
theorem va_D.own {A : Nat → Prop} {w : va_W} (h : va_D A w) : va_D (A1 w) w := ⟨h.1, fun k q hk => ⟨k, q.2, hk⟩⟩
theorem va_D.any {A : Nat → Prop} {w : va_W} (h : va_D A w) : va_D (fun _ => True) w := ⟨h.1, fun _ _ _ => trivial⟩
theorem va_D.re {A : Nat → Prop} {w w1 : va_W} (h : va_D A w) (ha : w1.map Prod.fst = w.map Prod.fst) : va_D A w1 := by
  have key : ∀ (k : Nat) (q : Nat × va_E), w1[k]? = some q → ∃ q0, w[k]? = some q0 ∧ q0.1 = q.1 := by
    intro k q hk
    have h1 : (w1.map Prod.fst)[k]? = some q.1 := by rw [List.getElem?_map, hk]; rfl
    rw [ha, List.getElem?_map] at h1
    cases hq : w[k]? with
    | none => rw [hq] at h1; cases h1
    | some q0 => rw [hq] at h1; exact ⟨q0, rfl, Option.some.inj h1⟩
  refine ⟨fun i j x y hi hj hxy => ?_, fun k q hk => ?_⟩
  · obtain ⟨x0, h1, h2⟩ := key i x hi
    obtain ⟨y0, h3, h4⟩ := key j y hj
    exact h.1 i j x0 y0 h1 h3 (h2.trans (hxy.trans h4.symm))
  · obtain ⟨q0, h1, h2⟩ := key k q hk
    rw [← h2]
    exact h.2 k q0 h1
theorem va_D.nodup {A : Nat → Prop} {ws : va_W} : va_D A ws ↔ (ws.map Prod.fst).Nodup ∧ ∀ q ∈ ws, A q.1 := by
  constructor
  · intro h
    refine ⟨List.pairwise_iff_getElem.mpr fun i j hi hj hij he => ?_, fun q hq => ?_⟩
    · rw [List.length_map] at hi hj
      rw [List.getElem_map, List.getElem_map] at he
      have := h.1 i j _ _ (List.getElem?_eq_getElem hi) (List.getElem?_eq_getElem hj) he
      omega
    · obtain ⟨i, hi⟩ := List.getElem?_of_mem hq
      exact h.2 i q hi
  · rintro ⟨h1, h2⟩
    refine ⟨fun i j p q hi hj he => ?_, fun k q hk => h2 q (List.mem_of_getElem? hk)⟩
    obtain ⟨hi', ei⟩ := List.getElem?_eq_some_iff.mp hi
    obtain ⟨hj', ej⟩ := List.getElem?_eq_some_iff.mp hj
    have key : ∀ (i j : Nat) (hi : i < ws.length) (hj : j < ws.length), i < j → (ws[i]).1 ≠ (ws[j]).1 := by
      intro i j hi hj hij
      have := List.pairwise_iff_getElem.mp h1 i j (by rw [List.length_map]; exact hi) (by rw [List.length_map]; exact hj) hij
      rwa [List.getElem_map, List.getElem_map] at this
    rcases Nat.lt_trichotomy i j with h | h | h
    · exact absurd (by rw [ei, ej]; exact he) (key i j hi' hj' h)
    · exact h
    · exact absurd (by rw [ei, ej]; exact he.symm) (key j i hj' hi' h)
theorem va_D.rep {A : Nat → Prop} {w w1 : va_W} (h : va_D A w) (ha : (w1.map Prod.fst).Perm (w.map Prod.fst)) : va_D A w1 := by
  rw [va_D.nodup] at h ⊢
  refine ⟨ha.symm.nodup_iff.mp h.1, fun q hq => ?_⟩
  obtain ⟨r, hr, e⟩ := List.mem_map.mp (ha.mem_iff.mp (List.mem_map.mpr ⟨q, hq, rfl⟩))
  rw [← e]
  exact h.2 r hr
theorem va_P.mid {G : va_G} {L w0 R : va_W} {H : Heap} (h : va_P G vwCl (L ++ (w0 ++ R)) H) : va_P G vwCl w0 H := by
  intro k q hk
  have hl := (List.getElem?_eq_some_iff.mp hk).1
  refine h (L.length + k) q ?_
  rw [List.getElem?_append_right (by omega), Nat.add_sub_cancel_left, List.getElem?_append_left hl]
  exact hk
theorem va_D.mid {A : Nat → Prop} {L w0 R : va_W} (h : va_D A (L ++ (w0 ++ R))) : va_D A w0 := by
  have key : ∀ (k : Nat) (q : Nat × va_E), w0[k]? = some q → (L ++ (w0 ++ R))[L.length + k]? = some q := by
    intro k q hk
    have hl := (List.getElem?_eq_some_iff.mp hk).1
    rw [List.getElem?_append_right (by omega), Nat.add_sub_cancel_left, List.getElem?_append_left hl]
    exact hk
  refine ⟨fun i j x y hi hj hxy => ?_, fun k q hk => h.2 _ q (key k q hk)⟩
  have := h.1 _ _ x y (key i x hi) (key j y hj) hxy
  omega
theorem fx_free {A : Nat → Prop} {w0 : va_W} (h : va_D A w0) : ∀ q, A1 w0 q → A q := fun q hq => by
  obtain ⟨k, e, hk⟩ := hq
  exact h.2 k _ hk
/-- behind a call on the cells in the middle: the others are as they were -/
theorem fx_join {A0 : Nat → Prop} {G : va_G} {L w0 R w1 : va_W} {H H1 : Heap} (hP : va_P G vwCl (L ++ (w0 ++ R)) H) (hD : va_D A0 (L ++ (w0 ++ R))) (hk : ∀ q : Nat, q < H.size → ¬ A1 w0 q → H1[q]? = H[q]?) (hP1 : va_P G vwCl w1 H1) (hD1 : va_D (A1 w0) w1) : va_P G vwCl (L ++ (w1 ++ R)) H1 ∧ va_D A0 (L ++ (w1 ++ R)) := by
  have hD' := va_D.nodup.mp hD
  have hD1' := va_D.nodup.mp hD1
  rw [List.map_append, List.map_append, List.nodup_append, List.nodup_append] at hD'
  obtain ⟨⟨n1, ⟨n2, n3, n4⟩, n5⟩, hA⟩ := hD'
  have inw : ∀ q, A1 w0 q → q ∈ w0.map Prod.fst := by
    rintro q ⟨k, e, h⟩
    exact List.mem_map.mpr ⟨(q, e), List.mem_of_getElem? h, rfl⟩
  have old : ∀ q, q ∈ L ∨ q ∈ R → va_at G vwCl q H1 := by
    intro q hq
    have hm : q ∈ L ++ (w0 ++ R) := by
      rcases hq with h | h
      · exact List.mem_append_left _ h
      · exact List.mem_append_right _ (List.mem_append_right _ h)
    obtain ⟨i, hi⟩ := List.getElem?_of_mem hm
    refine (hP i q hi).kept (hk q.1 (hP i q hi).lt fun ha => ?_)
    have hw := inw _ ha
    rcases hq with h | h
    · exact n5 q.1 (List.mem_map.mpr ⟨q, h, rfl⟩) q.1 (List.mem_append_left _ hw) rfl
    · exact n4 q.1 hw q.1 (List.mem_map.mpr ⟨q, h, rfl⟩) rfl
  refine ⟨fun k q hq => ?_, va_D.nodup.mpr ⟨?_, fun q hq => ?_⟩⟩
  · rcases List.mem_append.mp (List.mem_of_getElem? hq) with h | h
    · exact old q (Or.inl h)
    · rcases List.mem_append.mp h with h | h
      · obtain ⟨i, hi⟩ := List.getElem?_of_mem h
        exact hP1 i q hi
      · exact old q (Or.inr h)
  · rw [List.map_append, List.map_append, List.nodup_append, List.nodup_append]
    refine ⟨n1, ⟨hD1'.1, n3, fun x hx y hy => ?_⟩, fun x hx y hy => ?_⟩
    · obtain ⟨q, hq, rfl⟩ := List.mem_map.mp hx
      exact n4 _ (inw _ (hD1'.2 q hq)) y hy
    · rcases List.mem_append.mp hy with h | h
      · obtain ⟨q, hq, rfl⟩ := List.mem_map.mp h
        exact n5 x hx _ (List.mem_append_left _ (inw _ (hD1'.2 q hq)))
      · exact n5 x hx y (List.mem_append_right _ h)
  · rcases List.mem_append.mp hq with h | h
    · exact hA q (List.mem_append_left _ h)
    · rcases List.mem_append.mp h with h | h
      · obtain ⟨r, hr, e⟩ := List.mem_map.mp (inw _ (hD1'.2 q h))
        rw [← e]
        exact hA r (List.mem_append_right _ (List.mem_append_left _ hr))
      · exact hA q (List.mem_append_right _ (List.mem_append_right _ h))
abbrev RI {σ : Type} (G : va_G) (K : Int32 → σ → Prop) (Wd : σ → va_W) (A : Nat → Prop) : Array Value → State → Outcome → State → Prop := va_Qi K (fun u t => va_P G vwCl (Wd u) t.heap ∧ va_D A (Wd u)) A
abbrev RF {σ : Type} (G : va_G) (K : UInt32 → σ → Prop) (Wd : σ → va_W) (A : Nat → Prop) : Array Value → State → Outcome → State → Prop := va_Qf K (fun u t => va_P G vwCl (Wd u) t.heap ∧ va_D A (Wd u)) A
abbrev RJ {σ : Type} (G : va_G) (K : Int64 → σ → Prop) (Wd : σ → va_W) (A : Nat → Prop) : Array Value → State → Outcome → State → Prop := va_Ql K (fun u t => va_P G vwCl (Wd u) t.heap ∧ va_D A (Wd u)) A
abbrev RV {σ : Type} (G : va_G) (K : σ → Prop) (Wd : σ → va_W) (A : Nat → Prop) : Array Value → State → Outcome → State → Prop := va_Qv K (fun u t => va_P G vwCl (Wd u) t.heap ∧ va_D A (Wd u)) A
/-- a loop: so many turns at most -/
def lp {α : Type} (F : (α → Prop) → α → Prop) : Nat → α → Prop
  | 0, _ => False
  | k + 1, a => F (lp F k) a
theorem lp_of {α : Type} {F : (α → Prop) → α → Prop} (I : α → Prop) (μ : α → Nat) (hs : ∀ (B : α → Prop) (a : α), I a → (∀ b, I b → μ b < μ a → B b) → F B a) : ∀ (k : Nat) (a : α), I a → μ a < k → lp F k a := by
  intro k
  induction k with
  | zero => intro a _ h; omega
  | succ k ih => intro a hi hk; exact hs _ a hi (fun b hb hm => ih b hb (by omega))
theorem lp_ex {α : Type} {F : (α → Prop) → α → Prop} (I : α → Prop) (μ : α → Nat) (a : α) (h : I a) (hs : ∀ (B : α → Prop) (a : α), I a → (∀ b, I b → μ b < μ a → B b) → F B a) : ∃ k, lp F k a := ⟨_, lp_of I μ hs (μ a + 1) a h (by omega)⟩
/-- the head of every method -/
theorem hd_go {l : Launch} {G : va_G} {cy : Nat → ClassId} {y : MethodName} {cc : ByteArray} {mL : Nat} {ret : Option FieldType} {rm : Room} {av : List Value} {w0 : va_W} {Qf : (Nat → Prop) → Array Value → State → Outcome → State → Prop}
    (hy : plainName y.cls = true) (hn : (lg_sl av).length ≤ mL)
    (body : ∀ (p : Program) (e : Env) (s : State) (m : MethodId) (below : List Frame) (meth : Method) (c : Code) (ls : Array Slot) (A : Nat → Prop), p.tables.exec = Jvm.exec → c.code = cc → meth.sig.returnType = ret → meth.locks = false → CallFix p m c cc mL s av.toArray wsL_law y.cls → EV G cy s → va_P G vwCl w0 s.heap → va_D A w0 → va_S A s.heap s.heap [] → lv_has ls mL (lv_args 0 av) →
      W p l e (headSpec (ws_ y cc mL ret) rm).room s m av.toArray below meth c s.heap [] 0 0 (MQ below (Qf A) av.toArray s 0 0 A) (F0 m 0 ls [])) :
    Met l y (ws_ y cc mL ret) rm (CP G cy av w0) (Qf (A1 w0)) 0 0 (A1 w0) := by
  refine Met.ofW (cc := cc) (maxL := mL) (ret := ret) hy rfl ?_
  intro p e s m args below meth c s₁ B hml hv
  obtain ⟨rfl, hP, hE, hD0⟩ := hv
  have hts0 := atoms_spec (ws := ws_ y cc mL ret) B.pre
  have hts : ∀ w ∈ wsL_law, w.before av.toArray s = true := fun w hw => hts0 w (List.mem_cons_of_mem _ hw)
  have hown : s.vm.findClass y.cls = some m.cls := findClass_of_methodNamed B.named
  have hl := lv_entry av (n := mL) hn
  rw [lg_entry_eq]
  exact body p e s m below meth c _ (A1 w0) B.exec B.bytes B.returns B.notSynchronized ⟨B.exec, B.bytes, hml, hown, hts⟩ hE hP hD0.own va_S.rf hl
section KC
variable {p : Program} {l : Launch} {e : Env} {R : Room} {s : State} {m : MethodId} {args : Array Value} {below : List Frame} {meth : Method} {c : Code} {H : Heap} {locs : List Loc} {cells slots : Nat} {Q : State → Prop}
variable {G : va_G} {cy : Nat → ClassId} {own C : String} {T : u_T} {N ci index mL nL n : Nat} {y : MethodName} {bc cc : ByteArray} {ret : Option FieldType} {rm : Room} {As fs rest st0 : List Value} {b pc : Nat} {ls : Array Slot} {L w0 R' ws : va_W} {H0 : Heap} {A0 A : Nat → Prop} {a : Nat}
theorem kg (S : CallFix p m c cc nL s args wsL_law own) (hE : EV G cy s) (hP : va_P G vwCl ws H) (q0 : Nat) (he : ws[q0]? = some (a, .inr (ci, fs))) (hc : vwCl[ci]? = some (C, T, N)) (k : Nat) (hk : k < N) {ref : String} (hlink : Cond.fieldLink own index ref (T k).2.1 (T k).2.2.1 ∈ wsL_law) (hsame : (T k).1 = ref) {v : Value} (hv : fs[k]? = some v) (hin : ∀ w ∈ u_ws C T N, w ∈ wsL_law) (hdg : decode cc pc = .ok (.getfield index, 3))
    (kk : W p l e R s m args below meth c H locs cells slots Q (F0 m (pc + 3) ls (v :: rest))) : W p l e R s m args below meth c H locs cells slots Q (F0 m pc ls (.ref a :: rest)) :=
  va_get S.1 S.2.1 S.2.2.2.2 hin S.2.2.2.1 hE.1 hP q0 he hc k hk (S.2.2.2.2 _ hlink) (fun _ h9 => by rw [hsame] at h9; exact h9) hv hdg kk
theorem kp (S : CallFix p m c cc nL s args wsL_law own) (hE : EV G cy s) (hP : va_P G vwCl ws H) (hD : va_D A ws) (hS0 : va_S A H0 H locs) (q0 : Nat) (he : ws[q0]? = some (a, .inr (ci, fs))) (hc : vwCl[ci]? = some (C, T, N)) (k : Nat) (hk : k < N) {ref : String} (hlink : Cond.fieldLink own index ref (T k).2.1 (T k).2.2.1 ∈ wsL_law) (hsame : (T k).1 = ref) (hfin : (T k).2.2.2 = false) {ty0 : Nat → FieldType} (hty : ∀ k, k < N → parseFieldDescriptor (T k).2.2.1 = some (ty0 k)) (hnm : ∀ a, a < N → ∀ b, b < N → a ≠ b → (T a).2.1 ≠ (T b).2.1) (hin : ∀ w ∈ u_ws C T N, w ∈ wsL_law) {v : Value} (hn : narrow (ty0 k) v = v) (hfit : fits (ty0 k) v = true) (hl : k < fs.length) (hdg : decode cc pc = .ok (.putfield index, 3))
    (kk : ∀ (H1 : Heap) (locs1 : List Loc), va_P G vwCl (ws.set q0 (a, .inr (ci, fs.set k v))) H1 → va_D A (ws.set q0 (a, .inr (ci, fs.set k v))) → va_S A H0 H1 locs1 → W p l e R s m args below meth c H1 locs1 cells slots Q (F0 m (pc + 3) ls rest)) : W p l e R s m args below meth c H locs cells slots Q (F0 m pc ls (v :: .ref a :: rest)) :=
  va_put S.1 S.2.1 S.2.2.2.2 hin ty0 hty hnm S.2.2.2.1 hE.1 hP hD hS0 q0 he hc k hk (S.2.2.2.2 _ hlink) (fun _ h9 => by rw [hsame] at h9; exact h9) hfin (hty k hk) hn hfit hl hdg kk
theorem kc_Vi {σ : Type} {K : Int32 → σ → Prop} {Wd : σ → va_W} (S : CallFix p m c cc nL s args wsL_law own) (hE : EV G cy s) (hM : Met l y (ws_ y bc mL ret) rm (CP G cy (.ref b :: As) w0) (RI G K Wd (A1 w0)) 0 0 (A1 w0)) (g1 : Cond.methodLink own index y ∈ wsL_law) (g2 : Cond.instanceMethod y ∈ wsL_law) (g3 : Cond.selects C y y ∈ wsL_law) (g4 : Cond.initialized C ∈ wsL_law) (g5 : Cond.code y bc mL ret ∈ wsL_law) (hyC : y.cls = C) (q0 : Nat) (he : w0[q0]? = some (b, .inr (ci, fs))) (hc : vwCl[ci]? = some (C, T, N)) (hd : y.cls ≠ "java/lang/invoke/MethodHandle" ∧ y.cls ≠ "java/lang/invoke/VarHandle" ∧ (parseMethodDescriptor y.desc).map (fun d => d.parameters.length) = some n) (hR : (rm.cells = 0 ∧ rm.slots = 0) ∧ (rm.frames + 1 ≤ R.frames ∧ 8 + (mL + 11) + rm.locals ≤ R.locals)) (hcs : cells ≤ R.cells ∧ slots ≤ R.slots) (hP : va_P G vwCl (L ++ (w0 ++ R')) H) (hD : va_D A0 (L ++ (w0 ++ R'))) (hS : va_S A0 H0 H locs) (hn : As.length = n) (hsz : ls.size = nL) (hst : st0 = As.reverse ++ .ref b :: rest) (hw8 : (rest.map fun v => v.category).sum ≤ 8) (hdg : decode cc pc = .ok (.invokevirtual index, 3))
    (kk : ∀ (r : Int32) (u : σ) (H1 : Heap) (locs1 : List Loc), K r u → va_P G vwCl (L ++ (Wd u ++ R')) H1 → va_D A0 (L ++ (Wd u ++ R')) → va_S A0 H0 H1 locs1 → W p l e R s m args below meth c H1 locs1 cells slots Q (F0 m (pc + 3) ls (.int r :: rest))) : W p l e R s m args below meth c H locs cells slots Q (F0 m pc ls st0) := by
  have hP0 := hP.mid
  have hD0 := hD.mid
  have hF := fx_free hD0
  refine va_calli (va_runV (As := As) (rest := rest) S hM (cwV n S.2.2.2.2 (go_V g1 g2 g3 g4 g5) rfl hR.1.1 hR.1.2 ⟨hyC, hd⟩ hR.2) ⟨CP.blind, va_recv hE.1 hP0 hc he, fun U hU hW => ⟨rfl, by rw [hU]; exact hP0, hE.warm hW, hD0.any⟩⟩ rfl hn hsz hst (lv_room hw8) hdg ⟨hcs.1, hcs.2⟩) hS (fun q _ h => hF q h) hF (fun r u t H1 locs1 ht hvm hk hB hz hkp hS1 => ?_)
  rw [ht] at hB
  obtain ⟨hP1, hD1⟩ := fx_join hP hD hkp hB.1 hB.2
  exact kk r u H1 locs1 hk hP1 hD1 hS1
theorem kc_Vi0 {σ : Type} {K : Int32 → σ → Prop} {Wd : σ → va_W} (S : CallFix p m c cc nL s args wsL_law own) (hE : EV G cy s) (hM : Met l y (ws_ y bc mL ret) rm (CP G cy (.ref b :: As) w0) (RI G K Wd (A1 w0)) 0 0 (A1 w0)) (g1 : Cond.methodLink own index y ∈ wsL_law) (g2 : Cond.instanceMethod y ∈ wsL_law) (g3 : Cond.selects C y y ∈ wsL_law) (g4 : Cond.initialized C ∈ wsL_law) (g5 : Cond.code y bc mL ret ∈ wsL_law) (hyC : y.cls = C) (q0 : Nat) (he : w0[q0]? = some (b, .inr (ci, fs))) (hc : vwCl[ci]? = some (C, T, N)) (hd : y.cls ≠ "java/lang/invoke/MethodHandle" ∧ y.cls ≠ "java/lang/invoke/VarHandle" ∧ (parseMethodDescriptor y.desc).map (fun d => d.parameters.length) = some n) (hR : (rm.cells = 0 ∧ rm.slots = 0) ∧ (rm.frames + 1 ≤ R.frames ∧ 8 + (mL + 11) + rm.locals ≤ R.locals)) (hcs : cells ≤ R.cells ∧ slots ≤ R.slots) (hP : va_P G vwCl w0 H) (hD : va_D A0 w0) (hS : va_S A0 H0 H locs) (hn : As.length = n) (hsz : ls.size = nL) (hst : st0 = As.reverse ++ .ref b :: rest) (hw8 : (rest.map fun v => v.category).sum ≤ 8) (hdg : decode cc pc = .ok (.invokevirtual index, 3))
    (kk : ∀ (r : Int32) (u : σ) (H1 : Heap) (locs1 : List Loc), K r u → va_P G vwCl (Wd u) H1 → va_D A0 (Wd u) → va_S A0 H0 H1 locs1 → W p l e R s m args below meth c H1 locs1 cells slots Q (F0 m (pc + 3) ls (.int r :: rest))) : W p l e R s m args below meth c H locs cells slots Q (F0 m pc ls st0) := by
  refine kc_Vi (L := []) (R' := []) S hE hM g1 g2 g3 g4 g5 hyC q0 he hc hd hR hcs (by simpa using hP) (by simpa using hD) hS hn hsz hst hw8 hdg (fun r u H1 locs1 hk hP1 hD1 hS1 => ?_)
  exact kk r u H1 locs1 hk (by simpa using hP1) (by simpa using hD1) hS1
theorem kc_Si {σ : Type} {K : Int32 → σ → Prop} {Wd : σ → va_W} (S : CallFix p m c cc nL s args wsL_law own) (hE : EV G cy s) (hM : Met l y (ws_ y bc mL ret) rm (CP G cy As w0) (RI G K Wd (A1 w0)) 0 0 (A1 w0)) (g1 : Cond.methodLink own index y ∈ wsL_law) (g2 : Cond.static y ∈ wsL_law) (g4 : Cond.initialized y.cls ∈ wsL_law) (g5 : Cond.code y bc mL ret ∈ wsL_law) (hd : y.cls ≠ "java/lang/invoke/MethodHandle" ∧ y.cls ≠ "java/lang/invoke/VarHandle" ∧ (parseMethodDescriptor y.desc).map (fun d => d.parameters.length) = some n) (hR : (rm.cells = 0 ∧ rm.slots = 0) ∧ (rm.frames + 1 ≤ R.frames ∧ 8 + (mL + 11) + rm.locals ≤ R.locals)) (hcs : cells ≤ R.cells ∧ slots ≤ R.slots) (hP : va_P G vwCl (L ++ (w0 ++ R')) H) (hD : va_D A0 (L ++ (w0 ++ R'))) (hS : va_S A0 H0 H locs) (hn : As.length = n) (hsz : ls.size = nL) (hst : st0 = As.reverse ++ rest) (hw8 : (rest.map fun v => v.category).sum ≤ 8) (hdg : decode cc pc = .ok (.invokestatic index, 3))
    (kk : ∀ (r : Int32) (u : σ) (H1 : Heap) (locs1 : List Loc), K r u → va_P G vwCl (L ++ (Wd u ++ R')) H1 → va_D A0 (L ++ (Wd u ++ R')) → va_S A0 H0 H1 locs1 → W p l e R s m args below meth c H1 locs1 cells slots Q (F0 m (pc + 3) ls (.int r :: rest))) : W p l e R s m args below meth c H locs cells slots Q (F0 m pc ls st0) := by
  have hP0 := hP.mid
  have hD0 := hD.mid
  have hF := fx_free hD0
  refine va_calli (va_runS (As := As) (rest := rest) S hM (va_cwS n S.2.2.2.2 (go_S g1 g2 g4 g5) rfl hR.1.1 hR.1.2 hd hR.2) ⟨CP.blind, fun U hU hW => ⟨rfl, by rw [hU]; exact hP0, hE.warm hW, hD0.any⟩⟩ rfl hn hsz hst (lv_room hw8) hdg ⟨hcs.1, hcs.2⟩) hS (fun q _ h => hF q h) hF (fun r u t H1 locs1 ht hvm hk hB hz hkp hS1 => ?_)
  rw [ht] at hB
  obtain ⟨hP1, hD1⟩ := fx_join hP hD hkp hB.1 hB.2
  exact kk r u H1 locs1 hk hP1 hD1 hS1
theorem kc_Si0 {σ : Type} {K : Int32 → σ → Prop} {Wd : σ → va_W} (S : CallFix p m c cc nL s args wsL_law own) (hE : EV G cy s) (hM : Met l y (ws_ y bc mL ret) rm (CP G cy As w0) (RI G K Wd (A1 w0)) 0 0 (A1 w0)) (g1 : Cond.methodLink own index y ∈ wsL_law) (g2 : Cond.static y ∈ wsL_law) (g4 : Cond.initialized y.cls ∈ wsL_law) (g5 : Cond.code y bc mL ret ∈ wsL_law) (hd : y.cls ≠ "java/lang/invoke/MethodHandle" ∧ y.cls ≠ "java/lang/invoke/VarHandle" ∧ (parseMethodDescriptor y.desc).map (fun d => d.parameters.length) = some n) (hR : (rm.cells = 0 ∧ rm.slots = 0) ∧ (rm.frames + 1 ≤ R.frames ∧ 8 + (mL + 11) + rm.locals ≤ R.locals)) (hcs : cells ≤ R.cells ∧ slots ≤ R.slots) (hP : va_P G vwCl w0 H) (hD : va_D A0 w0) (hS : va_S A0 H0 H locs) (hn : As.length = n) (hsz : ls.size = nL) (hst : st0 = As.reverse ++ rest) (hw8 : (rest.map fun v => v.category).sum ≤ 8) (hdg : decode cc pc = .ok (.invokestatic index, 3))
    (kk : ∀ (r : Int32) (u : σ) (H1 : Heap) (locs1 : List Loc), K r u → va_P G vwCl (Wd u) H1 → va_D A0 (Wd u) → va_S A0 H0 H1 locs1 → W p l e R s m args below meth c H1 locs1 cells slots Q (F0 m (pc + 3) ls (.int r :: rest))) : W p l e R s m args below meth c H locs cells slots Q (F0 m pc ls st0) := by
  refine kc_Si (L := []) (R' := []) S hE hM g1 g2 g4 g5 hd hR hcs (by simpa using hP) (by simpa using hD) hS hn hsz hst hw8 hdg (fun r u H1 locs1 hk hP1 hD1 hS1 => ?_)
  exact kk r u H1 locs1 hk (by simpa using hP1) (by simpa using hD1) hS1
theorem kc_SiE {σ : Type} {K : Int32 → σ → Prop} {Wd : σ → va_W} (S : CallFix p m c cc nL s args wsL_law own) (hE : EV G cy s) (hM : Met l y (ws_ y bc mL ret) rm (CP G cy As []) (RI G K Wd (A1 [])) 0 0 (A1 [])) (g1 : Cond.methodLink own index y ∈ wsL_law) (g2 : Cond.static y ∈ wsL_law) (g4 : Cond.initialized y.cls ∈ wsL_law) (g5 : Cond.code y bc mL ret ∈ wsL_law) (hd : y.cls ≠ "java/lang/invoke/MethodHandle" ∧ y.cls ≠ "java/lang/invoke/VarHandle" ∧ (parseMethodDescriptor y.desc).map (fun d => d.parameters.length) = some n) (hR : (rm.cells = 0 ∧ rm.slots = 0) ∧ (rm.frames + 1 ≤ R.frames ∧ 8 + (mL + 11) + rm.locals ≤ R.locals)) (hcs : cells ≤ R.cells ∧ slots ≤ R.slots) (hP : va_P G vwCl ws H) (hD : va_D A0 ws) (hS : va_S A0 H0 H locs) (ha : ∀ u, Wd u = []) (hn : As.length = n) (hsz : ls.size = nL) (hst : st0 = As.reverse ++ rest) (hw8 : (rest.map fun v => v.category).sum ≤ 8) (hdg : decode cc pc = .ok (.invokestatic index, 3))
    (kk : ∀ (r : Int32) (u : σ) (H1 : Heap) (locs1 : List Loc), K r u → va_P G vwCl ws H1 → va_D A0 ws → va_S A0 H0 H1 locs1 → W p l e R s m args below meth c H1 locs1 cells slots Q (F0 m (pc + 3) ls (.int r :: rest))) : W p l e R s m args below meth c H locs cells slots Q (F0 m pc ls st0) := by
  refine kc_Si (L := []) (w0 := []) (R' := ws) S hE hM g1 g2 g4 g5 hd hR hcs hP hD hS hn hsz hst hw8 hdg (fun r u H1 locs1 hk hP1 hD1 hS1 => ?_)
  rw [ha u] at hP1 hD1
  exact kk r u H1 locs1 hk hP1 hD1 hS1
theorem kc_Vf {σ : Type} {K : UInt32 → σ → Prop} {Wd : σ → va_W} (S : CallFix p m c cc nL s args wsL_law own) (hE : EV G cy s) (hM : Met l y (ws_ y bc mL ret) rm (CP G cy (.ref b :: As) w0) (RF G K Wd (A1 w0)) 0 0 (A1 w0)) (g1 : Cond.methodLink own index y ∈ wsL_law) (g2 : Cond.instanceMethod y ∈ wsL_law) (g3 : Cond.selects C y y ∈ wsL_law) (g4 : Cond.initialized C ∈ wsL_law) (g5 : Cond.code y bc mL ret ∈ wsL_law) (hyC : y.cls = C) (q0 : Nat) (he : w0[q0]? = some (b, .inr (ci, fs))) (hc : vwCl[ci]? = some (C, T, N)) (hd : y.cls ≠ "java/lang/invoke/MethodHandle" ∧ y.cls ≠ "java/lang/invoke/VarHandle" ∧ (parseMethodDescriptor y.desc).map (fun d => d.parameters.length) = some n) (hR : (rm.cells = 0 ∧ rm.slots = 0) ∧ (rm.frames + 1 ≤ R.frames ∧ 8 + (mL + 11) + rm.locals ≤ R.locals)) (hcs : cells ≤ R.cells ∧ slots ≤ R.slots) (hP : va_P G vwCl (L ++ (w0 ++ R')) H) (hD : va_D A0 (L ++ (w0 ++ R'))) (hS : va_S A0 H0 H locs) (hn : As.length = n) (hsz : ls.size = nL) (hst : st0 = As.reverse ++ .ref b :: rest) (hw8 : (rest.map fun v => v.category).sum ≤ 8) (hdg : decode cc pc = .ok (.invokevirtual index, 3))
    (kk : ∀ (r : UInt32) (u : σ) (H1 : Heap) (locs1 : List Loc), K r u → va_P G vwCl (L ++ (Wd u ++ R')) H1 → va_D A0 (L ++ (Wd u ++ R')) → va_S A0 H0 H1 locs1 → W p l e R s m args below meth c H1 locs1 cells slots Q (F0 m (pc + 3) ls (.float r :: rest))) : W p l e R s m args below meth c H locs cells slots Q (F0 m pc ls st0) := by
  have hP0 := hP.mid
  have hD0 := hD.mid
  have hF := fx_free hD0
  refine va_callf (va_runV (As := As) (rest := rest) S hM (cwV n S.2.2.2.2 (go_V g1 g2 g3 g4 g5) rfl hR.1.1 hR.1.2 ⟨hyC, hd⟩ hR.2) ⟨CP.blind, va_recv hE.1 hP0 hc he, fun U hU hW => ⟨rfl, by rw [hU]; exact hP0, hE.warm hW, hD0.any⟩⟩ rfl hn hsz hst (lv_room hw8) hdg ⟨hcs.1, hcs.2⟩) hS (fun q _ h => hF q h) hF (fun r u t H1 locs1 ht hvm hk hB hz hkp hS1 => ?_)
  rw [ht] at hB
  obtain ⟨hP1, hD1⟩ := fx_join hP hD hkp hB.1 hB.2
  exact kk r u H1 locs1 hk hP1 hD1 hS1
theorem kc_Vf0 {σ : Type} {K : UInt32 → σ → Prop} {Wd : σ → va_W} (S : CallFix p m c cc nL s args wsL_law own) (hE : EV G cy s) (hM : Met l y (ws_ y bc mL ret) rm (CP G cy (.ref b :: As) w0) (RF G K Wd (A1 w0)) 0 0 (A1 w0)) (g1 : Cond.methodLink own index y ∈ wsL_law) (g2 : Cond.instanceMethod y ∈ wsL_law) (g3 : Cond.selects C y y ∈ wsL_law) (g4 : Cond.initialized C ∈ wsL_law) (g5 : Cond.code y bc mL ret ∈ wsL_law) (hyC : y.cls = C) (q0 : Nat) (he : w0[q0]? = some (b, .inr (ci, fs))) (hc : vwCl[ci]? = some (C, T, N)) (hd : y.cls ≠ "java/lang/invoke/MethodHandle" ∧ y.cls ≠ "java/lang/invoke/VarHandle" ∧ (parseMethodDescriptor y.desc).map (fun d => d.parameters.length) = some n) (hR : (rm.cells = 0 ∧ rm.slots = 0) ∧ (rm.frames + 1 ≤ R.frames ∧ 8 + (mL + 11) + rm.locals ≤ R.locals)) (hcs : cells ≤ R.cells ∧ slots ≤ R.slots) (hP : va_P G vwCl w0 H) (hD : va_D A0 w0) (hS : va_S A0 H0 H locs) (hn : As.length = n) (hsz : ls.size = nL) (hst : st0 = As.reverse ++ .ref b :: rest) (hw8 : (rest.map fun v => v.category).sum ≤ 8) (hdg : decode cc pc = .ok (.invokevirtual index, 3))
    (kk : ∀ (r : UInt32) (u : σ) (H1 : Heap) (locs1 : List Loc), K r u → va_P G vwCl (Wd u) H1 → va_D A0 (Wd u) → va_S A0 H0 H1 locs1 → W p l e R s m args below meth c H1 locs1 cells slots Q (F0 m (pc + 3) ls (.float r :: rest))) : W p l e R s m args below meth c H locs cells slots Q (F0 m pc ls st0) := by
  refine kc_Vf (L := []) (R' := []) S hE hM g1 g2 g3 g4 g5 hyC q0 he hc hd hR hcs (by simpa using hP) (by simpa using hD) hS hn hsz hst hw8 hdg (fun r u H1 locs1 hk hP1 hD1 hS1 => ?_)
  exact kk r u H1 locs1 hk (by simpa using hP1) (by simpa using hD1) hS1
theorem kc_Sf {σ : Type} {K : UInt32 → σ → Prop} {Wd : σ → va_W} (S : CallFix p m c cc nL s args wsL_law own) (hE : EV G cy s) (hM : Met l y (ws_ y bc mL ret) rm (CP G cy As w0) (RF G K Wd (A1 w0)) 0 0 (A1 w0)) (g1 : Cond.methodLink own index y ∈ wsL_law) (g2 : Cond.static y ∈ wsL_law) (g4 : Cond.initialized y.cls ∈ wsL_law) (g5 : Cond.code y bc mL ret ∈ wsL_law) (hd : y.cls ≠ "java/lang/invoke/MethodHandle" ∧ y.cls ≠ "java/lang/invoke/VarHandle" ∧ (parseMethodDescriptor y.desc).map (fun d => d.parameters.length) = some n) (hR : (rm.cells = 0 ∧ rm.slots = 0) ∧ (rm.frames + 1 ≤ R.frames ∧ 8 + (mL + 11) + rm.locals ≤ R.locals)) (hcs : cells ≤ R.cells ∧ slots ≤ R.slots) (hP : va_P G vwCl (L ++ (w0 ++ R')) H) (hD : va_D A0 (L ++ (w0 ++ R'))) (hS : va_S A0 H0 H locs) (hn : As.length = n) (hsz : ls.size = nL) (hst : st0 = As.reverse ++ rest) (hw8 : (rest.map fun v => v.category).sum ≤ 8) (hdg : decode cc pc = .ok (.invokestatic index, 3))
    (kk : ∀ (r : UInt32) (u : σ) (H1 : Heap) (locs1 : List Loc), K r u → va_P G vwCl (L ++ (Wd u ++ R')) H1 → va_D A0 (L ++ (Wd u ++ R')) → va_S A0 H0 H1 locs1 → W p l e R s m args below meth c H1 locs1 cells slots Q (F0 m (pc + 3) ls (.float r :: rest))) : W p l e R s m args below meth c H locs cells slots Q (F0 m pc ls st0) := by
  have hP0 := hP.mid
  have hD0 := hD.mid
  have hF := fx_free hD0
  refine va_callf (va_runS (As := As) (rest := rest) S hM (va_cwS n S.2.2.2.2 (go_S g1 g2 g4 g5) rfl hR.1.1 hR.1.2 hd hR.2) ⟨CP.blind, fun U hU hW => ⟨rfl, by rw [hU]; exact hP0, hE.warm hW, hD0.any⟩⟩ rfl hn hsz hst (lv_room hw8) hdg ⟨hcs.1, hcs.2⟩) hS (fun q _ h => hF q h) hF (fun r u t H1 locs1 ht hvm hk hB hz hkp hS1 => ?_)
  rw [ht] at hB
  obtain ⟨hP1, hD1⟩ := fx_join hP hD hkp hB.1 hB.2
  exact kk r u H1 locs1 hk hP1 hD1 hS1
theorem kc_Sf0 {σ : Type} {K : UInt32 → σ → Prop} {Wd : σ → va_W} (S : CallFix p m c cc nL s args wsL_law own) (hE : EV G cy s) (hM : Met l y (ws_ y bc mL ret) rm (CP G cy As w0) (RF G K Wd (A1 w0)) 0 0 (A1 w0)) (g1 : Cond.methodLink own index y ∈ wsL_law) (g2 : Cond.static y ∈ wsL_law) (g4 : Cond.initialized y.cls ∈ wsL_law) (g5 : Cond.code y bc mL ret ∈ wsL_law) (hd : y.cls ≠ "java/lang/invoke/MethodHandle" ∧ y.cls ≠ "java/lang/invoke/VarHandle" ∧ (parseMethodDescriptor y.desc).map (fun d => d.parameters.length) = some n) (hR : (rm.cells = 0 ∧ rm.slots = 0) ∧ (rm.frames + 1 ≤ R.frames ∧ 8 + (mL + 11) + rm.locals ≤ R.locals)) (hcs : cells ≤ R.cells ∧ slots ≤ R.slots) (hP : va_P G vwCl w0 H) (hD : va_D A0 w0) (hS : va_S A0 H0 H locs) (hn : As.length = n) (hsz : ls.size = nL) (hst : st0 = As.reverse ++ rest) (hw8 : (rest.map fun v => v.category).sum ≤ 8) (hdg : decode cc pc = .ok (.invokestatic index, 3))
    (kk : ∀ (r : UInt32) (u : σ) (H1 : Heap) (locs1 : List Loc), K r u → va_P G vwCl (Wd u) H1 → va_D A0 (Wd u) → va_S A0 H0 H1 locs1 → W p l e R s m args below meth c H1 locs1 cells slots Q (F0 m (pc + 3) ls (.float r :: rest))) : W p l e R s m args below meth c H locs cells slots Q (F0 m pc ls st0) := by
  refine kc_Sf (L := []) (R' := []) S hE hM g1 g2 g4 g5 hd hR hcs (by simpa using hP) (by simpa using hD) hS hn hsz hst hw8 hdg (fun r u H1 locs1 hk hP1 hD1 hS1 => ?_)
  exact kk r u H1 locs1 hk (by simpa using hP1) (by simpa using hD1) hS1
theorem kc_SfE {σ : Type} {K : UInt32 → σ → Prop} {Wd : σ → va_W} (S : CallFix p m c cc nL s args wsL_law own) (hE : EV G cy s) (hM : Met l y (ws_ y bc mL ret) rm (CP G cy As []) (RF G K Wd (A1 [])) 0 0 (A1 [])) (g1 : Cond.methodLink own index y ∈ wsL_law) (g2 : Cond.static y ∈ wsL_law) (g4 : Cond.initialized y.cls ∈ wsL_law) (g5 : Cond.code y bc mL ret ∈ wsL_law) (hd : y.cls ≠ "java/lang/invoke/MethodHandle" ∧ y.cls ≠ "java/lang/invoke/VarHandle" ∧ (parseMethodDescriptor y.desc).map (fun d => d.parameters.length) = some n) (hR : (rm.cells = 0 ∧ rm.slots = 0) ∧ (rm.frames + 1 ≤ R.frames ∧ 8 + (mL + 11) + rm.locals ≤ R.locals)) (hcs : cells ≤ R.cells ∧ slots ≤ R.slots) (hP : va_P G vwCl ws H) (hD : va_D A0 ws) (hS : va_S A0 H0 H locs) (ha : ∀ u, Wd u = []) (hn : As.length = n) (hsz : ls.size = nL) (hst : st0 = As.reverse ++ rest) (hw8 : (rest.map fun v => v.category).sum ≤ 8) (hdg : decode cc pc = .ok (.invokestatic index, 3))
    (kk : ∀ (r : UInt32) (u : σ) (H1 : Heap) (locs1 : List Loc), K r u → va_P G vwCl ws H1 → va_D A0 ws → va_S A0 H0 H1 locs1 → W p l e R s m args below meth c H1 locs1 cells slots Q (F0 m (pc + 3) ls (.float r :: rest))) : W p l e R s m args below meth c H locs cells slots Q (F0 m pc ls st0) := by
  refine kc_Sf (L := []) (w0 := []) (R' := ws) S hE hM g1 g2 g4 g5 hd hR hcs hP hD hS hn hsz hst hw8 hdg (fun r u H1 locs1 hk hP1 hD1 hS1 => ?_)
  rw [ha u] at hP1 hD1
  exact kk r u H1 locs1 hk hP1 hD1 hS1
theorem kc_Nf {σ : Type} {K : UInt32 → σ → Prop} {Wd : σ → va_W} (S : CallFix p m c cc nL s args wsL_law own) (hE : EV G cy s) (hM : Met l y (ws_ y bc mL ret) rm (CP G cy As w0) (RF G K Wd (A1 w0)) 0 0 (A1 w0)) {host : String} (g1 : va_Nw (.methodLinkNest own index y host) s) (g2 : Cond.static y ∈ wsL_law) (g4 : Cond.initialized y.cls ∈ wsL_law) (g5 : Cond.code y bc mL ret ∈ wsL_law) (hd : y.cls ≠ "java/lang/invoke/MethodHandle" ∧ y.cls ≠ "java/lang/invoke/VarHandle" ∧ (parseMethodDescriptor y.desc).map (fun d => d.parameters.length) = some n) (hR : (rm.cells = 0 ∧ rm.slots = 0) ∧ (rm.frames + 1 ≤ R.frames ∧ 8 + (mL + 11) + rm.locals ≤ R.locals)) (hcs : cells ≤ R.cells ∧ slots ≤ R.slots) (hP : va_P G vwCl (L ++ (w0 ++ R')) H) (hD : va_D A0 (L ++ (w0 ++ R'))) (hS : va_S A0 H0 H locs) (hn : As.length = n) (hsz : ls.size = nL) (hst : st0 = As.reverse ++ rest) (hw8 : (rest.map fun v => v.category).sum ≤ 8) (hdg : decode cc pc = .ok (.invokestatic index, 3))
    (kk : ∀ (r : UInt32) (u : σ) (H1 : Heap) (locs1 : List Loc), K r u → va_P G vwCl (L ++ (Wd u ++ R')) H1 → va_D A0 (L ++ (Wd u ++ R')) → va_S A0 H0 H1 locs1 → W p l e R s m args below meth c H1 locs1 cells slots Q (F0 m (pc + 3) ls (.float r :: rest))) : W p l e R s m args below meth c H locs cells slots Q (F0 m pc ls st0) := by
  have hP0 := hP.mid
  have hD0 := hD.mid
  have hF := fx_free hD0
  refine va_callf (va_runSN (As := As) (rest := rest) S hM ⟨va_cnB n S.2.2.2.2 (go_in (go_ws g5)) rfl hR.1.1 hR.1.2 g1 (S.2.2.2.2 _ g4) hd hR.2, S.2.2.2.2 _ g2, trivial⟩ ⟨CP.blind, fun U hU hW => ⟨rfl, by rw [hU]; exact hP0, hE.warm hW, hD0.any⟩⟩ rfl hn hsz hst (lv_room hw8) hdg ⟨hcs.1, hcs.2⟩) hS (fun q _ h => hF q h) hF (fun r u t H1 locs1 ht hvm hk hB hz hkp hS1 => ?_)
  rw [ht] at hB
  obtain ⟨hP1, hD1⟩ := fx_join hP hD hkp hB.1 hB.2
  exact kk r u H1 locs1 hk hP1 hD1 hS1
theorem kc_Nf0 {σ : Type} {K : UInt32 → σ → Prop} {Wd : σ → va_W} (S : CallFix p m c cc nL s args wsL_law own) (hE : EV G cy s) (hM : Met l y (ws_ y bc mL ret) rm (CP G cy As w0) (RF G K Wd (A1 w0)) 0 0 (A1 w0)) {host : String} (g1 : va_Nw (.methodLinkNest own index y host) s) (g2 : Cond.static y ∈ wsL_law) (g4 : Cond.initialized y.cls ∈ wsL_law) (g5 : Cond.code y bc mL ret ∈ wsL_law) (hd : y.cls ≠ "java/lang/invoke/MethodHandle" ∧ y.cls ≠ "java/lang/invoke/VarHandle" ∧ (parseMethodDescriptor y.desc).map (fun d => d.parameters.length) = some n) (hR : (rm.cells = 0 ∧ rm.slots = 0) ∧ (rm.frames + 1 ≤ R.frames ∧ 8 + (mL + 11) + rm.locals ≤ R.locals)) (hcs : cells ≤ R.cells ∧ slots ≤ R.slots) (hP : va_P G vwCl w0 H) (hD : va_D A0 w0) (hS : va_S A0 H0 H locs) (hn : As.length = n) (hsz : ls.size = nL) (hst : st0 = As.reverse ++ rest) (hw8 : (rest.map fun v => v.category).sum ≤ 8) (hdg : decode cc pc = .ok (.invokestatic index, 3))
    (kk : ∀ (r : UInt32) (u : σ) (H1 : Heap) (locs1 : List Loc), K r u → va_P G vwCl (Wd u) H1 → va_D A0 (Wd u) → va_S A0 H0 H1 locs1 → W p l e R s m args below meth c H1 locs1 cells slots Q (F0 m (pc + 3) ls (.float r :: rest))) : W p l e R s m args below meth c H locs cells slots Q (F0 m pc ls st0) := by
  refine kc_Nf (L := []) (R' := []) S hE hM g1 g2 g4 g5 hd hR hcs (by simpa using hP) (by simpa using hD) hS hn hsz hst hw8 hdg (fun r u H1 locs1 hk hP1 hD1 hS1 => ?_)
  exact kk r u H1 locs1 hk (by simpa using hP1) (by simpa using hD1) hS1
theorem kc_NfE {σ : Type} {K : UInt32 → σ → Prop} {Wd : σ → va_W} (S : CallFix p m c cc nL s args wsL_law own) (hE : EV G cy s) (hM : Met l y (ws_ y bc mL ret) rm (CP G cy As []) (RF G K Wd (A1 [])) 0 0 (A1 [])) {host : String} (g1 : va_Nw (.methodLinkNest own index y host) s) (g2 : Cond.static y ∈ wsL_law) (g4 : Cond.initialized y.cls ∈ wsL_law) (g5 : Cond.code y bc mL ret ∈ wsL_law) (hd : y.cls ≠ "java/lang/invoke/MethodHandle" ∧ y.cls ≠ "java/lang/invoke/VarHandle" ∧ (parseMethodDescriptor y.desc).map (fun d => d.parameters.length) = some n) (hR : (rm.cells = 0 ∧ rm.slots = 0) ∧ (rm.frames + 1 ≤ R.frames ∧ 8 + (mL + 11) + rm.locals ≤ R.locals)) (hcs : cells ≤ R.cells ∧ slots ≤ R.slots) (hP : va_P G vwCl ws H) (hD : va_D A0 ws) (hS : va_S A0 H0 H locs) (ha : ∀ u, Wd u = []) (hn : As.length = n) (hsz : ls.size = nL) (hst : st0 = As.reverse ++ rest) (hw8 : (rest.map fun v => v.category).sum ≤ 8) (hdg : decode cc pc = .ok (.invokestatic index, 3))
    (kk : ∀ (r : UInt32) (u : σ) (H1 : Heap) (locs1 : List Loc), K r u → va_P G vwCl ws H1 → va_D A0 ws → va_S A0 H0 H1 locs1 → W p l e R s m args below meth c H1 locs1 cells slots Q (F0 m (pc + 3) ls (.float r :: rest))) : W p l e R s m args below meth c H locs cells slots Q (F0 m pc ls st0) := by
  refine kc_Nf (L := []) (w0 := []) (R' := ws) S hE hM g1 g2 g4 g5 hd hR hcs hP hD hS hn hsz hst hw8 hdg (fun r u H1 locs1 hk hP1 hD1 hS1 => ?_)
  rw [ha u] at hP1 hD1
  exact kk r u H1 locs1 hk hP1 hD1 hS1
theorem kc_Vj {σ : Type} {K : Int64 → σ → Prop} {Wd : σ → va_W} (S : CallFix p m c cc nL s args wsL_law own) (hE : EV G cy s) (hM : Met l y (ws_ y bc mL ret) rm (CP G cy (.ref b :: As) w0) (RJ G K Wd (A1 w0)) 0 0 (A1 w0)) (g1 : Cond.methodLink own index y ∈ wsL_law) (g2 : Cond.instanceMethod y ∈ wsL_law) (g3 : Cond.selects C y y ∈ wsL_law) (g4 : Cond.initialized C ∈ wsL_law) (g5 : Cond.code y bc mL ret ∈ wsL_law) (hyC : y.cls = C) (q0 : Nat) (he : w0[q0]? = some (b, .inr (ci, fs))) (hc : vwCl[ci]? = some (C, T, N)) (hd : y.cls ≠ "java/lang/invoke/MethodHandle" ∧ y.cls ≠ "java/lang/invoke/VarHandle" ∧ (parseMethodDescriptor y.desc).map (fun d => d.parameters.length) = some n) (hR : (rm.cells = 0 ∧ rm.slots = 0) ∧ (rm.frames + 1 ≤ R.frames ∧ 8 + (mL + 11) + rm.locals ≤ R.locals)) (hcs : cells ≤ R.cells ∧ slots ≤ R.slots) (hP : va_P G vwCl (L ++ (w0 ++ R')) H) (hD : va_D A0 (L ++ (w0 ++ R'))) (hS : va_S A0 H0 H locs) (hn : As.length = n) (hsz : ls.size = nL) (hst : st0 = As.reverse ++ .ref b :: rest) (hw8 : (rest.map fun v => v.category).sum ≤ 8) (hdg : decode cc pc = .ok (.invokevirtual index, 3))
    (kk : ∀ (r : Int64) (u : σ) (H1 : Heap) (locs1 : List Loc), K r u → va_P G vwCl (L ++ (Wd u ++ R')) H1 → va_D A0 (L ++ (Wd u ++ R')) → va_S A0 H0 H1 locs1 → W p l e R s m args below meth c H1 locs1 cells slots Q (F0 m (pc + 3) ls (.long r :: rest))) : W p l e R s m args below meth c H locs cells slots Q (F0 m pc ls st0) := by
  have hP0 := hP.mid
  have hD0 := hD.mid
  have hF := fx_free hD0
  refine va_calll (va_runV (As := As) (rest := rest) S hM (cwV n S.2.2.2.2 (go_V g1 g2 g3 g4 g5) rfl hR.1.1 hR.1.2 ⟨hyC, hd⟩ hR.2) ⟨CP.blind, va_recv hE.1 hP0 hc he, fun U hU hW => ⟨rfl, by rw [hU]; exact hP0, hE.warm hW, hD0.any⟩⟩ rfl hn hsz hst (lv_room hw8) hdg ⟨hcs.1, hcs.2⟩) hS (fun q _ h => hF q h) hF (fun r u t H1 locs1 ht hvm hk hB hz hkp hS1 => ?_)
  rw [ht] at hB
  obtain ⟨hP1, hD1⟩ := fx_join hP hD hkp hB.1 hB.2
  exact kk r u H1 locs1 hk hP1 hD1 hS1
theorem kc_Vj0 {σ : Type} {K : Int64 → σ → Prop} {Wd : σ → va_W} (S : CallFix p m c cc nL s args wsL_law own) (hE : EV G cy s) (hM : Met l y (ws_ y bc mL ret) rm (CP G cy (.ref b :: As) w0) (RJ G K Wd (A1 w0)) 0 0 (A1 w0)) (g1 : Cond.methodLink own index y ∈ wsL_law) (g2 : Cond.instanceMethod y ∈ wsL_law) (g3 : Cond.selects C y y ∈ wsL_law) (g4 : Cond.initialized C ∈ wsL_law) (g5 : Cond.code y bc mL ret ∈ wsL_law) (hyC : y.cls = C) (q0 : Nat) (he : w0[q0]? = some (b, .inr (ci, fs))) (hc : vwCl[ci]? = some (C, T, N)) (hd : y.cls ≠ "java/lang/invoke/MethodHandle" ∧ y.cls ≠ "java/lang/invoke/VarHandle" ∧ (parseMethodDescriptor y.desc).map (fun d => d.parameters.length) = some n) (hR : (rm.cells = 0 ∧ rm.slots = 0) ∧ (rm.frames + 1 ≤ R.frames ∧ 8 + (mL + 11) + rm.locals ≤ R.locals)) (hcs : cells ≤ R.cells ∧ slots ≤ R.slots) (hP : va_P G vwCl w0 H) (hD : va_D A0 w0) (hS : va_S A0 H0 H locs) (hn : As.length = n) (hsz : ls.size = nL) (hst : st0 = As.reverse ++ .ref b :: rest) (hw8 : (rest.map fun v => v.category).sum ≤ 8) (hdg : decode cc pc = .ok (.invokevirtual index, 3))
    (kk : ∀ (r : Int64) (u : σ) (H1 : Heap) (locs1 : List Loc), K r u → va_P G vwCl (Wd u) H1 → va_D A0 (Wd u) → va_S A0 H0 H1 locs1 → W p l e R s m args below meth c H1 locs1 cells slots Q (F0 m (pc + 3) ls (.long r :: rest))) : W p l e R s m args below meth c H locs cells slots Q (F0 m pc ls st0) := by
  refine kc_Vj (L := []) (R' := []) S hE hM g1 g2 g3 g4 g5 hyC q0 he hc hd hR hcs (by simpa using hP) (by simpa using hD) hS hn hsz hst hw8 hdg (fun r u H1 locs1 hk hP1 hD1 hS1 => ?_)
  exact kk r u H1 locs1 hk (by simpa using hP1) (by simpa using hD1) hS1
theorem kc_Sj {σ : Type} {K : Int64 → σ → Prop} {Wd : σ → va_W} (S : CallFix p m c cc nL s args wsL_law own) (hE : EV G cy s) (hM : Met l y (ws_ y bc mL ret) rm (CP G cy As w0) (RJ G K Wd (A1 w0)) 0 0 (A1 w0)) (g1 : Cond.methodLink own index y ∈ wsL_law) (g2 : Cond.static y ∈ wsL_law) (g4 : Cond.initialized y.cls ∈ wsL_law) (g5 : Cond.code y bc mL ret ∈ wsL_law) (hd : y.cls ≠ "java/lang/invoke/MethodHandle" ∧ y.cls ≠ "java/lang/invoke/VarHandle" ∧ (parseMethodDescriptor y.desc).map (fun d => d.parameters.length) = some n) (hR : (rm.cells = 0 ∧ rm.slots = 0) ∧ (rm.frames + 1 ≤ R.frames ∧ 8 + (mL + 11) + rm.locals ≤ R.locals)) (hcs : cells ≤ R.cells ∧ slots ≤ R.slots) (hP : va_P G vwCl (L ++ (w0 ++ R')) H) (hD : va_D A0 (L ++ (w0 ++ R'))) (hS : va_S A0 H0 H locs) (hn : As.length = n) (hsz : ls.size = nL) (hst : st0 = As.reverse ++ rest) (hw8 : (rest.map fun v => v.category).sum ≤ 8) (hdg : decode cc pc = .ok (.invokestatic index, 3))
    (kk : ∀ (r : Int64) (u : σ) (H1 : Heap) (locs1 : List Loc), K r u → va_P G vwCl (L ++ (Wd u ++ R')) H1 → va_D A0 (L ++ (Wd u ++ R')) → va_S A0 H0 H1 locs1 → W p l e R s m args below meth c H1 locs1 cells slots Q (F0 m (pc + 3) ls (.long r :: rest))) : W p l e R s m args below meth c H locs cells slots Q (F0 m pc ls st0) := by
  have hP0 := hP.mid
  have hD0 := hD.mid
  have hF := fx_free hD0
  refine va_calll (va_runS (As := As) (rest := rest) S hM (va_cwS n S.2.2.2.2 (go_S g1 g2 g4 g5) rfl hR.1.1 hR.1.2 hd hR.2) ⟨CP.blind, fun U hU hW => ⟨rfl, by rw [hU]; exact hP0, hE.warm hW, hD0.any⟩⟩ rfl hn hsz hst (lv_room hw8) hdg ⟨hcs.1, hcs.2⟩) hS (fun q _ h => hF q h) hF (fun r u t H1 locs1 ht hvm hk hB hz hkp hS1 => ?_)
  rw [ht] at hB
  obtain ⟨hP1, hD1⟩ := fx_join hP hD hkp hB.1 hB.2
  exact kk r u H1 locs1 hk hP1 hD1 hS1
theorem kc_Sj0 {σ : Type} {K : Int64 → σ → Prop} {Wd : σ → va_W} (S : CallFix p m c cc nL s args wsL_law own) (hE : EV G cy s) (hM : Met l y (ws_ y bc mL ret) rm (CP G cy As w0) (RJ G K Wd (A1 w0)) 0 0 (A1 w0)) (g1 : Cond.methodLink own index y ∈ wsL_law) (g2 : Cond.static y ∈ wsL_law) (g4 : Cond.initialized y.cls ∈ wsL_law) (g5 : Cond.code y bc mL ret ∈ wsL_law) (hd : y.cls ≠ "java/lang/invoke/MethodHandle" ∧ y.cls ≠ "java/lang/invoke/VarHandle" ∧ (parseMethodDescriptor y.desc).map (fun d => d.parameters.length) = some n) (hR : (rm.cells = 0 ∧ rm.slots = 0) ∧ (rm.frames + 1 ≤ R.frames ∧ 8 + (mL + 11) + rm.locals ≤ R.locals)) (hcs : cells ≤ R.cells ∧ slots ≤ R.slots) (hP : va_P G vwCl w0 H) (hD : va_D A0 w0) (hS : va_S A0 H0 H locs) (hn : As.length = n) (hsz : ls.size = nL) (hst : st0 = As.reverse ++ rest) (hw8 : (rest.map fun v => v.category).sum ≤ 8) (hdg : decode cc pc = .ok (.invokestatic index, 3))
    (kk : ∀ (r : Int64) (u : σ) (H1 : Heap) (locs1 : List Loc), K r u → va_P G vwCl (Wd u) H1 → va_D A0 (Wd u) → va_S A0 H0 H1 locs1 → W p l e R s m args below meth c H1 locs1 cells slots Q (F0 m (pc + 3) ls (.long r :: rest))) : W p l e R s m args below meth c H locs cells slots Q (F0 m pc ls st0) := by
  refine kc_Sj (L := []) (R' := []) S hE hM g1 g2 g4 g5 hd hR hcs (by simpa using hP) (by simpa using hD) hS hn hsz hst hw8 hdg (fun r u H1 locs1 hk hP1 hD1 hS1 => ?_)
  exact kk r u H1 locs1 hk (by simpa using hP1) (by simpa using hD1) hS1
theorem kc_SjE {σ : Type} {K : Int64 → σ → Prop} {Wd : σ → va_W} (S : CallFix p m c cc nL s args wsL_law own) (hE : EV G cy s) (hM : Met l y (ws_ y bc mL ret) rm (CP G cy As []) (RJ G K Wd (A1 [])) 0 0 (A1 [])) (g1 : Cond.methodLink own index y ∈ wsL_law) (g2 : Cond.static y ∈ wsL_law) (g4 : Cond.initialized y.cls ∈ wsL_law) (g5 : Cond.code y bc mL ret ∈ wsL_law) (hd : y.cls ≠ "java/lang/invoke/MethodHandle" ∧ y.cls ≠ "java/lang/invoke/VarHandle" ∧ (parseMethodDescriptor y.desc).map (fun d => d.parameters.length) = some n) (hR : (rm.cells = 0 ∧ rm.slots = 0) ∧ (rm.frames + 1 ≤ R.frames ∧ 8 + (mL + 11) + rm.locals ≤ R.locals)) (hcs : cells ≤ R.cells ∧ slots ≤ R.slots) (hP : va_P G vwCl ws H) (hD : va_D A0 ws) (hS : va_S A0 H0 H locs) (ha : ∀ u, Wd u = []) (hn : As.length = n) (hsz : ls.size = nL) (hst : st0 = As.reverse ++ rest) (hw8 : (rest.map fun v => v.category).sum ≤ 8) (hdg : decode cc pc = .ok (.invokestatic index, 3))
    (kk : ∀ (r : Int64) (u : σ) (H1 : Heap) (locs1 : List Loc), K r u → va_P G vwCl ws H1 → va_D A0 ws → va_S A0 H0 H1 locs1 → W p l e R s m args below meth c H1 locs1 cells slots Q (F0 m (pc + 3) ls (.long r :: rest))) : W p l e R s m args below meth c H locs cells slots Q (F0 m pc ls st0) := by
  refine kc_Sj (L := []) (w0 := []) (R' := ws) S hE hM g1 g2 g4 g5 hd hR hcs hP hD hS hn hsz hst hw8 hdg (fun r u H1 locs1 hk hP1 hD1 hS1 => ?_)
  rw [ha u] at hP1 hD1
  exact kk r u H1 locs1 hk hP1 hD1 hS1
theorem kc_Vv {σ : Type} {K : σ → Prop} {Wd : σ → va_W} (S : CallFix p m c cc nL s args wsL_law own) (hE : EV G cy s) (hM : Met l y (ws_ y bc mL ret) rm (CP G cy (.ref b :: As) w0) (RV G K Wd (A1 w0)) 0 0 (A1 w0)) (g1 : Cond.methodLink own index y ∈ wsL_law) (g2 : Cond.instanceMethod y ∈ wsL_law) (g3 : Cond.selects C y y ∈ wsL_law) (g4 : Cond.initialized C ∈ wsL_law) (g5 : Cond.code y bc mL ret ∈ wsL_law) (hyC : y.cls = C) (q0 : Nat) (he : w0[q0]? = some (b, .inr (ci, fs))) (hc : vwCl[ci]? = some (C, T, N)) (hd : y.cls ≠ "java/lang/invoke/MethodHandle" ∧ y.cls ≠ "java/lang/invoke/VarHandle" ∧ (parseMethodDescriptor y.desc).map (fun d => d.parameters.length) = some n) (hR : (rm.cells = 0 ∧ rm.slots = 0) ∧ (rm.frames + 1 ≤ R.frames ∧ 8 + (mL + 11) + rm.locals ≤ R.locals)) (hcs : cells ≤ R.cells ∧ slots ≤ R.slots) (hP : va_P G vwCl (L ++ (w0 ++ R')) H) (hD : va_D A0 (L ++ (w0 ++ R'))) (hS : va_S A0 H0 H locs) (hn : As.length = n) (hsz : ls.size = nL) (hst : st0 = As.reverse ++ .ref b :: rest) (hw8 : (rest.map fun v => v.category).sum ≤ 8) (hdg : decode cc pc = .ok (.invokevirtual index, 3))
    (kk : ∀ (u : σ) (H1 : Heap) (locs1 : List Loc), K u → va_P G vwCl (L ++ (Wd u ++ R')) H1 → va_D A0 (L ++ (Wd u ++ R')) → va_S A0 H0 H1 locs1 → W p l e R s m args below meth c H1 locs1 cells slots Q (F0 m (pc + 3) ls (rest))) : W p l e R s m args below meth c H locs cells slots Q (F0 m pc ls st0) := by
  have hP0 := hP.mid
  have hD0 := hD.mid
  have hF := fx_free hD0
  refine va_callv (va_runV (As := As) (rest := rest) S hM (cwV n S.2.2.2.2 (go_V g1 g2 g3 g4 g5) rfl hR.1.1 hR.1.2 ⟨hyC, hd⟩ hR.2) ⟨CP.blind, va_recv hE.1 hP0 hc he, fun U hU hW => ⟨rfl, by rw [hU]; exact hP0, hE.warm hW, hD0.any⟩⟩ rfl hn hsz hst (lv_room hw8) hdg ⟨hcs.1, hcs.2⟩) hS (fun q _ h => hF q h) hF (fun u t H1 locs1 ht hvm hk hB hz hkp hS1 => ?_)
  rw [ht] at hB
  obtain ⟨hP1, hD1⟩ := fx_join hP hD hkp hB.1 hB.2
  exact kk u H1 locs1 hk hP1 hD1 hS1
theorem kc_Vv0 {σ : Type} {K : σ → Prop} {Wd : σ → va_W} (S : CallFix p m c cc nL s args wsL_law own) (hE : EV G cy s) (hM : Met l y (ws_ y bc mL ret) rm (CP G cy (.ref b :: As) w0) (RV G K Wd (A1 w0)) 0 0 (A1 w0)) (g1 : Cond.methodLink own index y ∈ wsL_law) (g2 : Cond.instanceMethod y ∈ wsL_law) (g3 : Cond.selects C y y ∈ wsL_law) (g4 : Cond.initialized C ∈ wsL_law) (g5 : Cond.code y bc mL ret ∈ wsL_law) (hyC : y.cls = C) (q0 : Nat) (he : w0[q0]? = some (b, .inr (ci, fs))) (hc : vwCl[ci]? = some (C, T, N)) (hd : y.cls ≠ "java/lang/invoke/MethodHandle" ∧ y.cls ≠ "java/lang/invoke/VarHandle" ∧ (parseMethodDescriptor y.desc).map (fun d => d.parameters.length) = some n) (hR : (rm.cells = 0 ∧ rm.slots = 0) ∧ (rm.frames + 1 ≤ R.frames ∧ 8 + (mL + 11) + rm.locals ≤ R.locals)) (hcs : cells ≤ R.cells ∧ slots ≤ R.slots) (hP : va_P G vwCl w0 H) (hD : va_D A0 w0) (hS : va_S A0 H0 H locs) (hn : As.length = n) (hsz : ls.size = nL) (hst : st0 = As.reverse ++ .ref b :: rest) (hw8 : (rest.map fun v => v.category).sum ≤ 8) (hdg : decode cc pc = .ok (.invokevirtual index, 3))
    (kk : ∀ (u : σ) (H1 : Heap) (locs1 : List Loc), K u → va_P G vwCl (Wd u) H1 → va_D A0 (Wd u) → va_S A0 H0 H1 locs1 → W p l e R s m args below meth c H1 locs1 cells slots Q (F0 m (pc + 3) ls (rest))) : W p l e R s m args below meth c H locs cells slots Q (F0 m pc ls st0) := by
  refine kc_Vv (L := []) (R' := []) S hE hM g1 g2 g3 g4 g5 hyC q0 he hc hd hR hcs (by simpa using hP) (by simpa using hD) hS hn hsz hst hw8 hdg (fun u H1 locs1 hk hP1 hD1 hS1 => ?_)
  exact kk u H1 locs1 hk (by simpa using hP1) (by simpa using hD1) hS1
theorem kc_Sv {σ : Type} {K : σ → Prop} {Wd : σ → va_W} (S : CallFix p m c cc nL s args wsL_law own) (hE : EV G cy s) (hM : Met l y (ws_ y bc mL ret) rm (CP G cy As w0) (RV G K Wd (A1 w0)) 0 0 (A1 w0)) (g1 : Cond.methodLink own index y ∈ wsL_law) (g2 : Cond.static y ∈ wsL_law) (g4 : Cond.initialized y.cls ∈ wsL_law) (g5 : Cond.code y bc mL ret ∈ wsL_law) (hd : y.cls ≠ "java/lang/invoke/MethodHandle" ∧ y.cls ≠ "java/lang/invoke/VarHandle" ∧ (parseMethodDescriptor y.desc).map (fun d => d.parameters.length) = some n) (hR : (rm.cells = 0 ∧ rm.slots = 0) ∧ (rm.frames + 1 ≤ R.frames ∧ 8 + (mL + 11) + rm.locals ≤ R.locals)) (hcs : cells ≤ R.cells ∧ slots ≤ R.slots) (hP : va_P G vwCl (L ++ (w0 ++ R')) H) (hD : va_D A0 (L ++ (w0 ++ R'))) (hS : va_S A0 H0 H locs) (hn : As.length = n) (hsz : ls.size = nL) (hst : st0 = As.reverse ++ rest) (hw8 : (rest.map fun v => v.category).sum ≤ 8) (hdg : decode cc pc = .ok (.invokestatic index, 3))
    (kk : ∀ (u : σ) (H1 : Heap) (locs1 : List Loc), K u → va_P G vwCl (L ++ (Wd u ++ R')) H1 → va_D A0 (L ++ (Wd u ++ R')) → va_S A0 H0 H1 locs1 → W p l e R s m args below meth c H1 locs1 cells slots Q (F0 m (pc + 3) ls (rest))) : W p l e R s m args below meth c H locs cells slots Q (F0 m pc ls st0) := by
  have hP0 := hP.mid
  have hD0 := hD.mid
  have hF := fx_free hD0
  refine va_callv (va_runS (As := As) (rest := rest) S hM (va_cwS n S.2.2.2.2 (go_S g1 g2 g4 g5) rfl hR.1.1 hR.1.2 hd hR.2) ⟨CP.blind, fun U hU hW => ⟨rfl, by rw [hU]; exact hP0, hE.warm hW, hD0.any⟩⟩ rfl hn hsz hst (lv_room hw8) hdg ⟨hcs.1, hcs.2⟩) hS (fun q _ h => hF q h) hF (fun u t H1 locs1 ht hvm hk hB hz hkp hS1 => ?_)
  rw [ht] at hB
  obtain ⟨hP1, hD1⟩ := fx_join hP hD hkp hB.1 hB.2
  exact kk u H1 locs1 hk hP1 hD1 hS1
theorem kc_Sv0 {σ : Type} {K : σ → Prop} {Wd : σ → va_W} (S : CallFix p m c cc nL s args wsL_law own) (hE : EV G cy s) (hM : Met l y (ws_ y bc mL ret) rm (CP G cy As w0) (RV G K Wd (A1 w0)) 0 0 (A1 w0)) (g1 : Cond.methodLink own index y ∈ wsL_law) (g2 : Cond.static y ∈ wsL_law) (g4 : Cond.initialized y.cls ∈ wsL_law) (g5 : Cond.code y bc mL ret ∈ wsL_law) (hd : y.cls ≠ "java/lang/invoke/MethodHandle" ∧ y.cls ≠ "java/lang/invoke/VarHandle" ∧ (parseMethodDescriptor y.desc).map (fun d => d.parameters.length) = some n) (hR : (rm.cells = 0 ∧ rm.slots = 0) ∧ (rm.frames + 1 ≤ R.frames ∧ 8 + (mL + 11) + rm.locals ≤ R.locals)) (hcs : cells ≤ R.cells ∧ slots ≤ R.slots) (hP : va_P G vwCl w0 H) (hD : va_D A0 w0) (hS : va_S A0 H0 H locs) (hn : As.length = n) (hsz : ls.size = nL) (hst : st0 = As.reverse ++ rest) (hw8 : (rest.map fun v => v.category).sum ≤ 8) (hdg : decode cc pc = .ok (.invokestatic index, 3))
    (kk : ∀ (u : σ) (H1 : Heap) (locs1 : List Loc), K u → va_P G vwCl (Wd u) H1 → va_D A0 (Wd u) → va_S A0 H0 H1 locs1 → W p l e R s m args below meth c H1 locs1 cells slots Q (F0 m (pc + 3) ls (rest))) : W p l e R s m args below meth c H locs cells slots Q (F0 m pc ls st0) := by
  refine kc_Sv (L := []) (R' := []) S hE hM g1 g2 g4 g5 hd hR hcs (by simpa using hP) (by simpa using hD) hS hn hsz hst hw8 hdg (fun u H1 locs1 hk hP1 hD1 hS1 => ?_)
  exact kk u H1 locs1 hk (by simpa using hP1) (by simpa using hD1) hS1
theorem kc_SvE {σ : Type} {K : σ → Prop} {Wd : σ → va_W} (S : CallFix p m c cc nL s args wsL_law own) (hE : EV G cy s) (hM : Met l y (ws_ y bc mL ret) rm (CP G cy As []) (RV G K Wd (A1 [])) 0 0 (A1 [])) (g1 : Cond.methodLink own index y ∈ wsL_law) (g2 : Cond.static y ∈ wsL_law) (g4 : Cond.initialized y.cls ∈ wsL_law) (g5 : Cond.code y bc mL ret ∈ wsL_law) (hd : y.cls ≠ "java/lang/invoke/MethodHandle" ∧ y.cls ≠ "java/lang/invoke/VarHandle" ∧ (parseMethodDescriptor y.desc).map (fun d => d.parameters.length) = some n) (hR : (rm.cells = 0 ∧ rm.slots = 0) ∧ (rm.frames + 1 ≤ R.frames ∧ 8 + (mL + 11) + rm.locals ≤ R.locals)) (hcs : cells ≤ R.cells ∧ slots ≤ R.slots) (hP : va_P G vwCl ws H) (hD : va_D A0 ws) (hS : va_S A0 H0 H locs) (ha : ∀ u, Wd u = []) (hn : As.length = n) (hsz : ls.size = nL) (hst : st0 = As.reverse ++ rest) (hw8 : (rest.map fun v => v.category).sum ≤ 8) (hdg : decode cc pc = .ok (.invokestatic index, 3))
    (kk : ∀ (u : σ) (H1 : Heap) (locs1 : List Loc), K u → va_P G vwCl ws H1 → va_D A0 ws → va_S A0 H0 H1 locs1 → W p l e R s m args below meth c H1 locs1 cells slots Q (F0 m (pc + 3) ls (rest))) : W p l e R s m args below meth c H locs cells slots Q (F0 m pc ls st0) := by
  refine kc_Sv (L := []) (w0 := []) (R' := ws) S hE hM g1 g2 g4 g5 hd hR hcs hP hD hS hn hsz hst hw8 hdg (fun u H1 locs1 hk hP1 hD1 hS1 => ?_)
  rw [ha u] at hP1 hD1
  exact kk u H1 locs1 hk hP1 hD1 hS1
end KC
/-! worlds -/
abbrev st_W (cy : Nat → ClassId) (a : Nat → Nat) (vn : Nat → Int32) (vf : Nat → UInt32) (vs vp vq vd vo : Nat → Int32) : va_W := [(a 0, .inr (4, [.float (vf 0), .float (vf 1), .float (vf 2), .float (vf 3), .int (vn 0), .int (vn 5), .float (vf 4), .int (vn 2), .int (vn 1), .int (vn 8), .ref (a 1), .ref (a 2), .ref (a 5), .ref (a 8)])), (a 1, .inl (cy 0, 8, .inl vs)), (a 2, .inr (2, [.int (vn 10), .ref (a 3), .ref (a 4)])), (a 3, .inl (cy 0, 6, .inl vp)), (a 4, .inl (cy 0, 6, .inl vq)), (a 5, .inr (5, [.int (vn 11), .ref (a 6), .ref (a 7)])), (a 6, .inl (cy 0, 4, .inl vd)), (a 7, .inl (cy 3, 4, .inl vo)), (a 8, .inr (3, [.int (vn 6), .int (vn 7), .int (vn 4), .int (vn 3), .int (vn 9)]))]
abbrev tx_W (cy : Nat → ClassId) (a : Nat → Nat) (tm tx : Nat → Int32) : va_W := [(a 0, .inr (0, [.int (tm 0), .ref (a 1)])), (a 1, .inl (cy 2, 80, .inl tx))]
