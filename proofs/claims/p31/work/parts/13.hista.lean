/-! permutations of a world; contents on their range; blocks of states -/
theorem va_P.mem {G : va_G} {ws ws' : va_W} {H : Heap} (h : va_P G vwCl ws H) (hs : ∀ q ∈ ws', q ∈ ws) : va_P G vwCl ws' H := by
  intro k q hk
  obtain ⟨i, hi⟩ := List.getElem?_of_mem (hs q (List.mem_of_getElem? hk))
  exact h i q hi
theorem va_P.perm {G : va_G} {ws ws' : va_W} {H : Heap} (h : va_P G vwCl ws H) (hp : ws.Perm ws') : va_P G vwCl ws' H := h.mem (fun _ hq => hp.mem_iff.mpr hq)
theorem va_D.perm {A : Nat → Prop} {ws ws' : va_W} (h : va_D A ws) (hp : ws.Perm ws') : va_D A ws' := by
  rw [va_D.nodup] at h ⊢
  exact ⟨(hp.map Prod.fst).nodup_iff.mp h.1, fun q hq => h.2 q (hp.mem_iff.mpr hq)⟩
theorem ar_ci {c : ClassId} {n : Nat} {f g : Nat → Int32} (h : ∀ j, j < n → f j = g j) : vp_cell c (n, .inl f) = vp_cell c (n, .inl g) := by
  rw [vp_cell_i, vp_cell_i]
  unfold arrV
  congr 2
  funext j
  dsimp only
  rw [h j.val j.isLt]
theorem ar_cf {c : ClassId} {n : Nat} {f g : Nat → UInt32} (h : ∀ j, j < n → f j = g j) : vp_cell c (n, .inr (.inr (.inl f))) = vp_cell c (n, .inr (.inr (.inl g))) := by
  rw [vp_cell_f, vp_cell_f]
  unfold arrV
  congr 2
  funext j
  dsimp only
  rw [h j.val j.isLt]
theorem ar_cq {c : ClassId} {n : Nat} {f g : Nat → Option Nat} (h : ∀ j, j < n → f j = g j) : vp_cell c (n, .inr (.inr (.inr (.inr f)))) = vp_cell c (n, .inr (.inr (.inr (.inr g)))) := by
  rw [vp_cell_q, vp_cell_q]
  unfold arrV
  congr 2
  funext j
  dsimp only
  rw [h j.val j.isLt]
/-- cells that hold the same -/
def sm (p q : Nat × va_E) : Prop := p.1 = q.1 ∧ ∀ (G : va_G) (H : Heap), va_at G vwCl p H → va_at G vwCl q H
theorem sm.rf (p : Nat × va_E) : sm p p := ⟨rfl, fun _ _ h => h⟩
theorem sm.ai {a : Nat} {c : ClassId} {n : Nat} {f g : Nat → Int32} (h : ∀ j, j < n → f j = g j) : sm (a, .inl (c, n, .inl f)) (a, .inl (c, n, .inl g)) := ⟨rfl, fun _ H hh => by
  show H[a]? = some (vp_cell c (n, .inl g))
  rw [← ar_ci h]; exact hh⟩
theorem sm.af {a : Nat} {c : ClassId} {n : Nat} {f g : Nat → UInt32} (h : ∀ j, j < n → f j = g j) : sm (a, .inl (c, n, .inr (.inr (.inl f)))) (a, .inl (c, n, .inr (.inr (.inl g)))) := ⟨rfl, fun _ H hh => by
  show H[a]? = some (vp_cell c (n, .inr (.inr (.inl g))))
  rw [← ar_cf h]; exact hh⟩
theorem sm.aq {a : Nat} {c : ClassId} {n : Nat} {f g : Nat → Option Nat} (h : ∀ j, j < n → f j = g j) : sm (a, .inl (c, n, .inr (.inr (.inr (.inr f))))) (a, .inl (c, n, .inr (.inr (.inr (.inr g))))) := ⟨rfl, fun _ H hh => by
  show H[a]? = some (vp_cell c (n, .inr (.inr (.inr (.inr g)))))
  rw [← ar_cq h]; exact hh⟩
theorem sm.o {a ci : Nat} {fs gs : List Value} (h : fs = gs) : sm (a, .inr (ci, fs)) (a, .inr (ci, gs)) := by subst h; exact sm.rf _
def sms : va_W → va_W → Prop
  | [], [] => True
  | p :: ws, q :: ws' => sm p q ∧ sms ws ws'
  | _, _ => False
theorem sms.rf : ∀ (ws : va_W), sms ws ws
  | [] => trivial
  | p :: ws => ⟨sm.rf p, sms.rf ws⟩
theorem sms.app : ∀ {a b c d : va_W}, sms a b → sms c d → sms (a ++ c) (b ++ d)
  | [], [], _, _, _, h => h
  | _ :: _, _ :: _, _, _, h1, h2 => ⟨h1.1, sms.app h1.2 h2⟩
  | [], _ :: _, _, _, h, _ => h.elim
  | _ :: _, [], _, _, h, _ => h.elim
theorem sms.at : ∀ {ws ws' : va_W}, sms ws ws' → ∀ (k : Nat) (q : Nat × va_E), ws'[k]? = some q → ∃ p, ws[k]? = some p ∧ sm p q
  | [], [], _, k, q, h => by simp at h
  | p :: ws, q :: ws', hs, 0, r, h => by
    rw [List.getElem?_cons_zero] at h
    cases h
    exact ⟨p, rfl, hs.1⟩
  | p :: ws, q :: ws', hs, k + 1, r, h => by
    rw [List.getElem?_cons_succ] at h
    obtain ⟨p', h1, h2⟩ := sms.at hs.2 k r h
    exact ⟨p', by rw [List.getElem?_cons_succ]; exact h1, h2⟩
  | [], _ :: _, h, _, _, _ => h.elim
  | _ :: _, [], h, _, _, _ => h.elim
theorem sms.map : ∀ {ws ws' : va_W}, sms ws ws' → ws'.map Prod.fst = ws.map Prod.fst
  | [], [], _ => rfl
  | p :: ws, q :: ws', h => by rw [List.map_cons, List.map_cons, h.1.1, sms.map h.2]
  | [], _ :: _, h => h.elim
  | _ :: _, [], h => h.elim
theorem va_P.sm {G : va_G} {ws ws' : va_W} {H : Heap} (h : va_P G vwCl ws H) (hs : sms ws ws') : va_P G vwCl ws' H := fun k q hk => by
  obtain ⟨p, h1, h2⟩ := hs.at k q hk
  exact h2.2 G H (h k p h1)
theorem va_D.sm {A : Nat → Prop} {ws ws' : va_W} (h : va_D A ws) (hs : sms ws ws') : va_D A ws' := h.re hs.map
/-- the contents of one state hold what those of another hold, where a state looks -/
def cf_eq (vn : Nat → Int32) (vf : Nat → UInt32) (vs vp vq vd vo : Nat → Int32) (u : (Nat → Int32) × (Nat → UInt32) × (Nat → Int32) × (Nat → Int32) × (Nat → Int32) × (Nat → Int32) × (Nat → Int32)) : Prop :=
  (∀ k, k < 12 → u.1 k = vn k) ∧ (∀ k, k < 5 → u.2.1 k = vf k) ∧ (∀ k, k < 8 → u.2.2.1 k = vs k) ∧ (∀ k, k < 6 → u.2.2.2.1 k = vp k) ∧ (∀ k, k < 6 → u.2.2.2.2.1 k = vq k) ∧ (∀ k, k < 4 → u.2.2.2.2.2.1 k = vd k) ∧ (∀ k, k < 4 → u.2.2.2.2.2.2 k = vo k)
theorem st_sm {cy : Nat → ClassId} {a : Nat → Nat} {vn : Nat → Int32} {vf : Nat → UInt32} {vs vp vq vd vo : Nat → Int32} {u : (Nat → Int32) × (Nat → UInt32) × (Nat → Int32) × (Nat → Int32) × (Nat → Int32) × (Nat → Int32) × (Nat → Int32)} (h : cf_eq vn vf vs vp vq vd vo u) : sms (st_W cy a u.1 u.2.1 u.2.2.1 u.2.2.2.1 u.2.2.2.2.1 u.2.2.2.2.2.1 u.2.2.2.2.2.2) (st_W cy a vn vf vs vp vq vd vo) := by
  obtain ⟨h1, h2, h3, h4, h5, h6, h7⟩ := h
  refine ⟨sm.o ?_, sm.ai h3, sm.o ?_, sm.ai h4, sm.ai h5, sm.o ?_, sm.ai h6, sm.ai h7, sm.o ?_, trivial⟩
  · rw [h2 0 (by decide), h2 1 (by decide), h2 2 (by decide), h2 3 (by decide), h2 4 (by decide), h1 0 (by decide), h1 1 (by decide), h1 2 (by decide), h1 5 (by decide), h1 8 (by decide)]
  · rw [h1 10 (by decide)]
  · rw [h1 11 (by decide)]
  · rw [h1 6 (by decide), h1 7 (by decide), h1 4 (by decide), h1 3 (by decide), h1 9 (by decide)]
theorem pm5 {α : Type} (a b c d e : List α) : (a ++ (b ++ (c ++ (d ++ (e ++ []))))).Perm (b ++ (c ++ (d ++ (e ++ (a ++ []))))) := by
  classical
  refine List.perm_iff_count.mpr fun x => ?_
  simp only [List.count_append, List.count_nil]
  omega
/-- a block, another cell block, out of a long list -/
theorem pm1g {α : Type} {pre A mid HB X Y Z : List α} (h : HB.Perm (X ++ Y)) : (pre ++ (A ++ (mid ++ (HB ++ Z)))).Perm ((X ++ A) ++ (pre ++ (mid ++ (Y ++ Z)))) := by
  classical
  refine List.perm_iff_count.mpr fun x => ?_
  have := List.perm_iff_count.mp h x
  simp only [List.count_append] at this ⊢
  omega
theorem pm2g {α : Type} {pre A mid HB X Y Z : List α} (h : HB.Perm (X ++ Y)) : (pre ++ (A ++ (mid ++ (HB ++ Z)))).Perm ((A ++ X) ++ (pre ++ (mid ++ (Y ++ Z)))) := by
  classical
  refine List.perm_iff_count.mpr fun x => ?_
  have := List.perm_iff_count.mp h x
  simp only [List.count_append] at this ⊢
  omega
abbrev Sx : Type := (Nat → Nat) × (Nat → Int32) × (Nat → UInt32) × (Nat → Int32) × (Nat → Int32) × (Nat → Int32) × (Nat → Int32) × (Nat → Int32)
abbrev sx_W (cy : Nat → ClassId) (x : Sx) : va_W := st_W cy x.1 x.2.1 x.2.2.1 x.2.2.2.1 x.2.2.2.2.1 x.2.2.2.2.2.1 x.2.2.2.2.2.2.1 x.2.2.2.2.2.2.2
def hb_L (cy : Nat → ClassId) (l : List Nat) (hh : Nat → Sx) : va_W := l.flatMap (fun i => sx_W cy (hh i))
def hb_W (cy : Nat → ClassId) (n : Nat) (hh : Nat → Sx) : va_W := hb_L cy (List.range n) hh
theorem hb_congr {cy : Nat → ClassId} {l : List Nat} {h1 h2 : Nat → Sx} (h : ∀ i ∈ l, h1 i = h2 i) : hb_L cy l h1 = hb_L cy l h2 := by
  unfold hb_L
  induction l with
  | nil => rfl
  | cons x l ih => rw [List.flatMap_cons, List.flatMap_cons, h x List.mem_cons_self, ih (fun i hi => h i (List.mem_cons_of_mem _ hi))]
/-- one of the blocks, and the others -/
theorem hb_split {cy : Nat → ClassId} {n j : Nat} (hj : j < n) (hh : Nat → Sx) (x : Sx) : (hb_W cy n (fun i => if i = j then x else hh i)).Perm (sx_W cy x ++ hb_L cy ((List.range n).erase j) hh) := by
  have hp : (List.range n).Perm (j :: (List.range n).erase j) := List.perm_cons_erase (List.mem_range.mpr hj)
  unfold hb_W
  refine (List.Perm.flatMap_right _ hp).trans ?_
  show (hb_L cy (j :: (List.range n).erase j) (fun i => if i = j then x else hh i)).Perm _
  have e : hb_L cy (j :: (List.range n).erase j) (fun i => if i = j then x else hh i) = sx_W cy x ++ hb_L cy ((List.range n).erase j) (fun i => if i = j then x else hh i) := by
    show sx_W cy (if j = j then x else hh j) ++ _ = _
    rw [if_pos rfl]
    rfl
  rw [e, hb_congr (h1 := fun i => if i = j then x else hh i) (h2 := hh) (fun i hi => if_neg (fun q => by
    rw [q] at hi
    exact absurd hi (List.Nodup.not_mem_erase List.nodup_range)))]
theorem hb_split0 {cy : Nat → ClassId} {n j : Nat} (hj : j < n) (hh : Nat → Sx) : (hb_W cy n hh).Perm (sx_W cy (hh j) ++ hb_L cy ((List.range n).erase j) hh) := by
  have h := hb_split (cy := cy) hj hh (hh j)
  have e : (fun i => if i = j then hh j else hh i) = hh := by
    funext i
    split
    · next q => rw [q]
    · rfl
  rw [e] at h
  exact h
def hrot (hh : Nat → Sx) : Nat → Sx := fun i => if i = 4 then hh 0 else hh (i + 1)
theorem hrot_perm (cy : Nat → ClassId) (hh : Nat → Sx) : (hb_W cy 5 hh).Perm (hb_W cy 5 (hrot hh)) := by
  have e1 : hb_W cy 5 hh = sx_W cy (hh 0) ++ (sx_W cy (hh 1) ++ (sx_W cy (hh 2) ++ (sx_W cy (hh 3) ++ (sx_W cy (hh 4) ++ [])))) := rfl
  have e2 : hb_W cy 5 (hrot hh) = sx_W cy (hh 1) ++ (sx_W cy (hh 2) ++ (sx_W cy (hh 3) ++ (sx_W cy (hh 4) ++ (sx_W cy (hh 0) ++ [])))) := rfl
  rw [e1, e2]
  exact pm5 _ _ _ _ _
theorem pm1 {pre A mid HB X Y Z : va_W} (h : HB.Perm (X ++ Y)) : (pre ++ (A ++ (mid ++ (HB ++ Z)))).Perm ((X ++ A) ++ (pre ++ (mid ++ (Y ++ Z)))) := pm1g h
theorem pm2 {pre A mid HB X Y Z : va_W} (h : HB.Perm (X ++ Y)) : (pre ++ (A ++ (mid ++ (HB ++ Z)))).Perm ((A ++ X) ++ (pre ++ (mid ++ (Y ++ Z)))) := pm2g h
