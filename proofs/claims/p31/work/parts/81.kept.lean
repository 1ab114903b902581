/-! kept states, and what a call of a turn does -/
abbrev U9 : Type := (Nat → Int32) × (Nat → UInt32) × (Nat → Int32) × (Nat → Int32) × (Nat → Int32) × (Nat → Int32) × (Nat → Int32) × (Nat → Int32) × (Nat → Sx)
abbrev u9 (c : Cx) (hc : Nat → Int32) (hh : Nat → Sx) : U9 := (c.1, c.2.1, c.2.2.1, c.2.2.2.1, c.2.2.2.2.1, c.2.2.2.2.2.1, c.2.2.2.2.2.2, hc, hh)
def Jc (c : Cx) : Prop := ∃ n m, jI n m c.1 c.2.1 c.2.2.1 c.2.2.2.1 c.2.2.2.2.1 c.2.2.2.2.2.1 c.2.2.2.2.2.2
def Hx (hc : Nat → Int32) (hh : Nat → Sx) : Prop := ∃ c, c ≤ 5 ∧ hc 0 = nI c ∧ ∀ i, i < c → Jc (hh i).2
def Sl (ss : Nat → Sx) (sv : Nat → Int32) : Prop := ∀ k, k < 2 → bz (sv k) ∧ (¬ sv k = 0 → Jc (ss k).2)
theorem Jc.cp {c : Cx} (h : Jc c) : cpre c.1 c.2.2.2.2.2.2 := by
  obtain ⟨n, m, ⟨-, hs, -, -, ho⟩, -, -⟩ := h
  exact ⟨ho.1, hs.2.2.1⟩
theorem nI_lt5 {k : Nat} (hk : k < 1000) : nI k < (5 : Int32) ↔ k < 5 := nI_ltI (a := k) (b := 5) (by omega) (by decide)
theorem Hx.kp {hc : Nat → Int32} {hh : Nat → Sx} (hH : Hx hc hh) {c : Cx} (h : Jc c) : kpre c.1 c.2.2.2.2.2.2 hc := by
  obtain ⟨k, hk, e, -⟩ := hH
  refine ⟨h.cp, fun h5 => ?_⟩
  rw [e] at h5 ⊢
  exact nI_in2 ((nI_lt5 (by omega)).mp h5) (by omega)
theorem hck_0 {hc : Nat → Int32} {k : Nat} (e : hc 0 = nI k) (hk : k ≤ 5) : hck hc 0 = nI (min k 4 + 1) := by
  unfold hck
  by_cases h : k < 5
  · rw [if_pos (by rw [e]; exact (nI_lt5 (by omega)).mpr h)]
    show hc 0 + 1 = _
    rw [e, nI_1, show min k 4 = k by omega]
  · rw [if_neg (by rw [e]; exact fun q => h ((nI_lt5 (by omega)).mp q))]
    rw [show min k 4 = 4 by omega]
    rfl
theorem hhk_at {hc : Nat → Int32} {hh : Nat → Sx} {c : Cx} {k : Nat} (e : hc 0 = nI k) (hk : k ≤ 5) : (hhk hc hh c (min k 4)).2 = c ∧ ∀ i, i < min k 4 → hhk hc hh c i = hh (if k < 5 then i else i + 1) := by
  unfold hhk
  by_cases h : k < 5
  · rw [if_pos (by rw [e]; exact (nI_lt5 (by omega)).mpr h), e, nI_cl (by omega), show min k 4 = k by omega]
    refine ⟨hset_eq, fun i hi => ?_⟩
    rw [if_pos h]
    exact hset_ne (by omega)
  · rw [if_neg (by rw [e]; exact fun q => h ((nI_lt5 (by omega)).mp q)), show min k 4 = 4 by omega]
    refine ⟨hset_eq, fun i hi => ?_⟩
    rw [if_neg h, hset_ne (by omega)]
    unfold hrot
    exact if_neg (by omega)
theorem hhk_prev {hc : Nat → Int32} {hh : Nat → Sx} {c : Cx} {k : Nat} (e : hc 0 = nI k) (hk : k ≤ 5) (h1 : 1 ≤ k) : hhk hc hh c (min k 4 - 1) = hh (k - 1) := by
  rw [(hhk_at (c := c) (hh := hh) e hk).2 _ (by omega)]
  by_cases h : k < 5
  · rw [if_pos h, show min k 4 = k by omega]
  · rw [if_neg h, show min k 4 = 4 by omega, show k = 5 by omega]
theorem Hx.keep {hc : Nat → Int32} {hh : Nat → Sx} (hH : Hx hc hh) {c : Cx} (h : Jc c) : Hx (hck hc) (hhk hc hh c) := by
  obtain ⟨k, hk, e, hr⟩ := hH
  obtain ⟨q1, q2⟩ := hhk_at (c := c) (hh := hh) e hk
  refine ⟨min k 4 + 1, by omega, hck_0 e hk, fun i hi => ?_⟩
  rcases Nat.lt_or_ge i (min k 4) with q | q
  · rw [q2 i q]
    split
    · exact hr i (by omega)
    · exact hr (i + 1) (by omega)
  · rw [show i = min k 4 by omega, q1]
    exact h
/-- the latest state comes back -/
theorem s6_undo {hc : Nat → Int32} {hh : Nat → Sx} {j : Nat} {c : Cx} (e : hc 0 = nI (j + 1)) (hj : j < 5) (hr : (hh j).2 = c) (h : Jc c) {vn : Nat → Int32} {vf : Nat → UInt32} {vs vp vq vd vo : Nat → Int32} {K : Int32 → ((Nat → Int32) × (Nat → UInt32) × (Nat → Int32) × (Nat → Int32) × (Nat → Int32) × (Nat → Int32) × (Nat → Int32) × (Nat → Int32)) → Prop} (hK : K (nI j) (c.1, c.2.1, c.2.2.1, c.2.2.2.1, c.2.2.2.2.1, c.2.2.2.2.2.1, c.2.2.2.2.2.2, upd hc 0 (nI j))) : vX6_undo vn vf vs vp vq vd vo hc hh K := by
  have ed : nI (j + 1) - (1 : Int32) = nI j := nI_m1 (j := j + 1) (by omega)
  unfold vX6_undo tpre
  rw [e, ed, nI_cl (by omega), hr]
  refine ⟨fun _ => ⟨⟨nI_in2 hj (by omega), h.cp⟩, hK⟩, fun q => absurd ?_ q⟩
  exact (nI_leI (a := 1) (b := j + 1) (by decide) (by omega)).mpr (by omega)
def TS (c : Cx) (anew : Prop) (F : (Nat → Int32) → (Nat → Sx) → (Int32 → U9 → Prop) → Prop) : Prop :=
  (∃ r : Int32, r < 0 ∧ ∀ hc hh K, Hx hc hh → K r (u9 c hc hh) → F hc hh K) ∨
  ∃ (r : Int32) (c' : Cx), ¬ r < 0 ∧ Jc c' ∧ (anew ∨ (ovr c.1 → c'.1 0 = c.1 0)) ∧ ∀ hc hh K, Hx hc hh → K r (u9 c' (hck hc) (hhk hc hh c)) → F hc hh K
theorem TS.mono {c : Cx} {a b : Prop} {F G : (Nat → Int32) → (Nat → Sx) → (Int32 → U9 → Prop) → Prop} (h : TS c a F) (hF : ∀ hc hh K, F hc hh K → G hc hh K) (ha : a → b) : TS c b G := by
  rcases h with ⟨r, h1, h2⟩ | ⟨r, c', h1, h2, h3, h4⟩
  · exact .inl ⟨r, h1, fun hc hh K hH hK => hF hc hh K (h2 hc hh K hH hK)⟩
  · exact .inr ⟨r, c', h1, h2, h3.imp ha id, fun hc hh K hH hK => hF hc hh K (h4 hc hh K hH hK)⟩
