/-! the invariant that the property wants besides sI -/
abbrev ovr (vn : Nat → Int32) : Prop := vn 0 = 4 ∨ vn 0 = 5
def ex0 (m : Nat) (vn vo : Nat → Int32) : Prop := (vn 2 = 0 ∨ vn 2 = 1) ∧ (vn 3 = 0 ∨ vn 3 = 1 ∨ vn 3 = 2) ∧ (vn 4 = 0 ∨ vn 3 = 0) ∧ (vn 5 = -5 ∨ vn 0 = 2 ∧ ∃ j, j < m ∧ vn 5 = nI j ∧ vo j = 0)
def ex1 (vn : Nat → Int32) (vf : Nat → UInt32) : Prop := (ovr vn → vf 0 = FP.fconst0 ∧ vf 2 = FP.fconst0 ∧ vf 3 = FP.fconst0) ∧ (¬ ovr vn → 0 < fk (vf 0))
def jI (n m : Nat) (vn : Nat → Int32) (vf : Nat → UInt32) (vs vp vq vd vo : Nat → Int32) : Prop := sI n m vn vf vs vp vq vd vo ∧ ex0 m vn vo ∧ ex1 vn vf
theorem nov {x : Int32} (h : x = 0 ∨ x = 1 ∨ x = 2 ∨ x = 3) : ¬ (x = 4 ∨ x = 5) := by
  rcases h with rfl | rfl | rfl | rfl <;> decide
theorem ag_r {vn : Nat → Int32} {x : UInt32} (h : vn 3 = 0 ∨ vn 3 = 1 ∨ vn 3 = 2) : agN vn x = 0 ∨ agN vn x = 1 ∨ agN vn x = 2 ∨ agN vn x = 3 := by
  unfold agN
  split
  · rcases h with h | h | h <;> rw [h]
    · exact .inr (.inl (by decide))
    · exact .inr (.inr (.inl (by decide)))
    · exact .inr (.inr (.inr (by decide)))
  · exact .inl rfl
theorem ag_4 {vn : Nat → Int32} {x : UInt32} : vn 4 = 0 ∨ agN vn x = 0 := by
  unfold agN
  split
  · rename_i h
    unfold agB at h
    exact .inl (of_decide_eq_true h).1
  · exact .inr rfl
theorem cm_ex {m : Nat} {vn vo : Nat → Int32} {x : UInt32} (h : ex0 m vn vo) : ex0 m (cmN vn x) vo := by
  obtain ⟨a2, a3, a4, a7⟩ := h
  have r := ag_r (x := x) a3
  have q := ag_4 (vn := vn) (x := x)
  unfold cmN
  split
  · exact ⟨a2, .inl rfl, .inr rfl, a7⟩
  · rename_i n3
    have r' : agN vn x = 0 ∨ agN vn x = 1 ∨ agN vn x = 2 := by
      rcases r with r | r | r | r
      · exact .inl r
      · exact .inr (.inl r)
      · exact .inr (.inr r)
      · exact absurd r n3
    split
    · exact ⟨a2, r', .inl rfl, a7⟩
    · exact ⟨a2, r', q, a7⟩
theorem ff_fact2 (P : Nat → Bool) : ∀ k i, ff P k i = -5 ∨ ∃ j, i ≤ j ∧ j < i + k ∧ ff P k i = nI j ∧ P j = true := by
  intro k
  induction k with
  | zero => intro i; exact .inl rfl
  | succ k ih =>
    intro i
    rw [ff_s]
    split
    · rename_i h
      exact .inr ⟨i, by omega, by omega, rfl, h⟩
    · rcases ih (i + 1) with h | ⟨j, h1, h2, h3, h4⟩
      · exact .inl h
      · exact .inr ⟨j, by omega, by omega, h3, h4⟩
theorem hr_fact2 (m : Nat) (vd vo : Nat → Int32) (vf : Nat → UInt32) : hrS m vd vo vf = -5 ∨ ∃ j, j < m ∧ hrS m vd vo vf = nI j ∧ vo j = 0 := by
  unfold hrS
  split
  · rcases ff_fact2 (nearB vd vo (vf 0)) m 0 with h | ⟨j, h1, h2, h3, h4⟩
    · exact .inl h
    · unfold nearB at h4
      exact .inr ⟨j, by omega, h3, (of_decide_eq_true h4).1⟩
  · exact .inl rfl
theorem h3_ex {m : Nat} {vn vd vo : Nat → Int32} {vf : Nat → UInt32} (h : ex0 m vn vo) (hno : ¬ ovr vn) : ex0 m (h3S m vd vo vn vf).1 vo ∧ ¬ ovr (h3S m vd vo vn vf).1 ∧ (h3S m vd vo vn vf).2 0 = vf 0 := by
  unfold h3S
  split
  · unfold haS hv
    by_cases e : hrS m vd vo vf = -5
    · rw [if_pos e, if_pos e]
      exact ⟨h, hno, rfl⟩
    · rw [if_neg e, if_neg e]
      obtain ⟨j, hj, q, hc⟩ := (hr_fact2 m vd vo vf).resolve_left e
      obtain ⟨a2, a3, a4, a7⟩ := h
      exact ⟨⟨a2, a3, a4, .inr ⟨rfl, j, hj, q, hc⟩⟩, nov (x := 2) (by decide), rfl⟩
  · exact ⟨h, hno, rfl⟩
theorem la_ex {n m : Nat} {vs vp vq vn vo : Nat → Int32} {vf : Nat → UInt32} (h : ex0 m vn vo) (hno : ¬ ovr vn) : ex0 m (laS n vs vp vq vn vf).1 vo ∧ ¬ ovr (laS n vs vp vq vn vf).1 ∧ (laS n vs vp vq vn vf).2 0 = vf 0 := by
  obtain ⟨a2, a3, a4, a7⟩ := h
  unfold laS
  split
  · unfold stN
    split
    · exact ⟨⟨.inl rfl, a3, a4, .inl rfl⟩, nov (x := 3) (by decide), rfl⟩
    · rename_i e2
      have r : stY vn (jd n vs vp vq vf) = 0 ∨ stY vn (jd n vs vp vq vf) = 1 := by
        unfold stY at e2 ⊢
        split at e2
        · rename_i z
          rw [if_pos z]
          exact .inl rfl
        · rename_i z
          rw [if_neg z]
          rcases a2 with a | a
          · rw [a]; exact .inr (by decide)
          · rw [a] at e2
            exact absurd (by decide) e2
      exact ⟨⟨r, a3, a4, a7⟩, hno, rfl⟩
  · split
    · exact ⟨⟨a2, a3, a4, .inl rfl⟩, nov (x := 2) (by decide), rfl⟩
    · exact ⟨⟨a2, a3, a4, a7⟩, hno, rfl⟩
theorem cm_k01 {vn : Nat → Int32} {x : UInt32} : cmN vn x 0 = vn 0 ∧ cmN vn x 1 = vn 1 := by
  unfold cmN
  split
  · exact ⟨rfl, rfl⟩
  · split <;> exact ⟨rfl, rfl⟩
theorem en_ex {n m : Nat} {vs vp vq vd vo vn : Nat → Int32} {vf : Nat → UInt32} (h : ex0 m vn vo) (hno : ¬ ovr vn) : ex0 m (enS n m vs vp vq vd vo vn vf).1 vo ∧ ex1 (enS n m vs vp vq vd vo vn vf).1 (enS n m vs vp vq vd vo vn vf).2 := by
  unfold enS
  split
  · obtain ⟨a2, a3, a4, a7⟩ := h
    have ov : ovr (arN vn vs vf) := by
      show (if geB vs vf = true then (4 : Int32) else 5) = 4 ∨ (if geB vs vf = true then (4 : Int32) else 5) = 5
      split
      · exact .inl rfl
      · exact .inr rfl
    exact ⟨⟨a2, a3, a4, .inl rfl⟩, fun _ => ⟨rfl, rfl, rfl⟩, fun q => absurd ov q⟩
  · rename_i hx
    have c1 := cm_ex (x := vf 0) h
    have c2 : ¬ ovr (cmN vn (vf 0)) := by
      unfold ovr
      rw [cm_k01.1]
      exact hno
    obtain ⟨d1, d2, d3⟩ := h3_ex (vd := vd) (vf := vf) c1 c2
    obtain ⟨e1, e2, e3⟩ := la_ex (n := n) (vs := vs) (vp := vp) (vq := vq) (vf := (h3S m vd vo (cmN vn (vf 0)) vf).2) d1 d2
    refine ⟨e1, fun q => absurd q e2, fun _ => ?_⟩
    rw [e3, d3]
    omega
theorem sec_ex {n m : Nat} {vs vp vq vd vo vn : Nat → Int32} {vf : Nat → UInt32} (h0 : ex0 m vn vo) (h1 : ex1 vn vf) : ex0 m (secS n m vs vp vq vd vo vn vf).1 vo ∧ ex1 (secS n m vs vp vq vd vo vn vf).1 (secS n m vs vp vq vd vo vn vf).2 := by
  unfold secS
  split
  · exact ⟨h0, h1⟩
  · rename_i hno
    exact en_ex (vn := v1N vn) h0 hno
theorem jI_sec {n m : Nat} {vs vp vq vd vo vn : Nat → Int32} {vf : Nat → UInt32} (h : jI n m vn vf vs vp vq vd vo) : jI n m (secS n m vs vp vq vd vo vn vf).1 (secS n m vs vp vq vd vo vn vf).2 vs vp vq vd vo := ⟨sec_ok h.1, sec_ex h.2.1 h.2.2⟩
theorem sec_ov {n m : Nat} {vs vp vq vd vo vn : Nat → Int32} {vf : Nat → UInt32} (h : ovr vn) : (secS n m vs vp vq vd vo vn vf).1 0 = vn 0 := by
  unfold secS
  rw [if_pos h]
  rfl
/-! the seconds that passed -/
theorem h3_1 {m : Nat} {vd vo vn : Nat → Int32} {vf : Nat → UInt32} : (h3S m vd vo vn vf).1 1 = vn 1 := by
  unfold h3S
  split
  · unfold haS hv
    dsimp only
    split <;> rfl
  · rfl
theorem la_1 {n : Nat} {vs vp vq vn : Nat → Int32} {vf : Nat → UInt32} : (laS n vs vp vq vn vf).1 1 = vn 1 := by
  unfold laS
  split
  · unfold stN
    dsimp only
    split <;> rfl
  · split <;> rfl
theorem sec_1 {n m : Nat} {vs vp vq vd vo vn : Nat → Int32} {vf : Nat → UInt32} : (secS n m vs vp vq vd vo vn vf).1 1 = vn 1 + 1 := by
  unfold secS
  split
  · rfl
  · unfold enS
    split
    · rfl
    · rw [la_1, h3_1, cm_k01.2]
      rfl
theorem it_1 {n m : Nat} {vs vp vq vd vo : Nat → Int32} : ∀ (k : Nat) (z : (Nat → Int32) × (Nat → UInt32)), (itS n m vs vp vq vd vo k z).1 1 = z.1 1 + nI k := by
  intro k
  induction k with
  | zero => intro z; show z.1 1 = z.1 1 + 0; rw [Int32.add_zero]
  | succ k ih =>
    intro z
    rw [it_s, ih, sec_1, Int32.add_assoc]
    congr 1
    rw [← nI_1 k, Int32.add_comm]
theorem it_ov {n m : Nat} {vs vp vq vd vo : Nat → Int32} : ∀ (k : Nat) (z : (Nat → Int32) × (Nat → UInt32)), ovr z.1 → (itS n m vs vp vq vd vo k z).1 0 = z.1 0 := by
  intro k
  induction k with
  | zero => intro z _; rfl
  | succ k ih =>
    intro z h
    have e := sec_ov (n := n) (m := m) (vs := vs) (vp := vp) (vq := vq) (vd := vd) (vo := vo) (vf := z.2) h
    rw [it_s, ih _ (by unfold ovr; rw [e]; exact h), e]
theorem jI_it {n m : Nat} {vs vp vq vd vo : Nat → Int32} : ∀ (k : Nat) (z : (Nat → Int32) × (Nat → UInt32)), jI n m z.1 z.2 vs vp vq vd vo → jI n m (itS n m vs vp vq vd vo k z).1 (itS n m vs vp vq vd vo k z).2 vs vp vq vd vo := by
  intro k
  induction k with
  | zero => intro z h; exact h
  | succ k ih => intro z h; rw [it_s]; exact ih _ (jI_sec h)
theorem it_add {n m : Nat} {vs vp vq vd vo : Nat → Int32} : ∀ (i j : Nat) (z : (Nat → Int32) × (Nat → UInt32)), itS n m vs vp vq vd vo (i + j) z = itS n m vs vp vq vd vo j (itS n m vs vp vq vd vo i z) := by
  intro i
  induction i with
  | zero => intro j z; rw [Nat.zero_add]; rfl
  | succ i ih => intro j z; rw [show i + 1 + j = (i + j) + 1 by omega, it_s, it_s, ih]
/-- when a mode comes, as it is told -/
theorem to_spec {n m : Nat} {vs vp vq vd vo : Nat → Int32} (t : Int32) : ∀ (k i : Nat) (z : (Nat → Int32) × (Nat → UInt32)), (toS n m vs vp vq vd vo t k i z = -5 ∧ ∀ j, j ≤ k → ¬ (itS n m vs vp vq vd vo j z).1 0 = t) ∨ ∃ j, j ≤ k ∧ toS n m vs vp vq vd vo t k i z = nI (i + j) ∧ (itS n m vs vp vq vd vo j z).1 0 = t ∧ ∀ j', j' < j → ¬ (itS n m vs vp vq vd vo j' z).1 0 = t := by
  intro k
  induction k with
  | zero =>
    intro i z
    rw [to_0]
    by_cases h : z.1 0 = t
    · rw [if_pos h]
      exact .inr ⟨0, by omega, rfl, h, fun j hj => by omega⟩
    · rw [if_neg h]
      refine .inl ⟨rfl, fun j hj => ?_⟩
      rw [show j = 0 by omega]
      exact h
  | succ k ih =>
    intro i z
    rw [to_s]
    by_cases h : z.1 0 = t
    · rw [if_pos h]
      exact .inr ⟨0, by omega, rfl, h, fun j hj => by omega⟩
    · rw [if_neg h]
      rcases ih (i + 1) (secS n m vs vp vq vd vo z.1 z.2) with ⟨h1, h2⟩ | ⟨j, h1, h2, h3, h4⟩
      · refine .inl ⟨h1, fun j hj => ?_⟩
        cases j with
        | zero => exact h
        | succ j => rw [it_s]; exact h2 j (by omega)
      · refine .inr ⟨j + 1, by omega, ?_, by rw [it_s]; exact h3, fun j' hj' => ?_⟩
        · rw [h2, show i + 1 + j = i + (j + 1) by omega]
        · cases j' with
          | zero => exact h
          | succ j' => rw [it_s]; exact h4 j' (by omega)
