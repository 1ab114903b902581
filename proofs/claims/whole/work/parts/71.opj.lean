/-! the run of a text -/
abbrev Zx : Type := (Nat → Int32) × (Nat → UInt32) × (Nat → Int32)
def tM (a : Int32) : Int32 := if a = 103 then 1 else if a = 102 then 0 else 3
def erB (m : Nat) (a num : Int32) (vn vo : Nat → Int32) : Bool := if a = 111 then decide (m ≤ num.toNatClampNeg ∨ ¬ vo num.toNatClampNeg = 0) else if a = 116 then false else decide ((vn 0 = 4 ∨ vn 0 = 5) ∨ vn 0 = tM a)
def acF (n m : Nat) (vs vp vq vd : Nat → Int32) (a num : Int32) (z : Zx) : Zx := if a = 111 then (opN z.1 num.toNatClampNeg, z.2.1, upd z.2.2 num.toNatClampNeg 1) else if a = 116 then ((itS n m vs vp vq vd z.2.2 num.toNatClampNeg (z.1, z.2.1)).1, (itS n m vs vp vq vd z.2.2 num.toNatClampNeg (z.1, z.2.1)).2, z.2.2) else (bcN z.1 (tM a), z.2.1, z.2.2)
def vA (a num : Int32) : Prop := (a = 111 ∧ ∃ j, j < 4 ∧ num = nI j) ∨ (a = 116 ∧ ∃ t, 1 ≤ t ∧ t ≤ 200 ∧ num = nI t) ∨ (aT a (tM a) ∧ ¬ a = 111 ∧ ¬ a = 116)
theorem jd_nn (n : Nat) (vs vp vq : Nat → Int32) (vf : Nat → UInt32) : ¬ jd n vs vp vq vf < (0 : Int32) := by
  unfold jd
  cases offB vs (vf 0) (vf 1) <;> cases fastB n vp vq (vf 0) (vf 2) <;> cases driftB vs vf (vf 2) <;> decide
theorem nI_nn {j : Nat} (h : j < 100000) : ¬ nI j < (0 : Int32) := by
  rw [i_lt, i_nI (by omega), c_0]
  omega
theorem s4_err {m : Nat} {vn vd vo : Nat → Int32} (hs : sOk vn vd vo m) {a num : Int32} (hv : vA a num) {K : Int32 → Unit → Prop} (h1 : erB m a num vn vo = true → ∀ e : Int32, ¬ e = 0 → K e ()) (h0 : erB m a num vn vo = false → K 0 ()) : vX4_errorOf vn vo a num K := by
  unfold erB at h1 h0
  have h4 := hs.1
  rcases hv with ⟨rfl, j, hj, rfl⟩ | ⟨rfl, t, ht1, ht2, rfl⟩ | ⟨ha, n1, n2⟩
  · rw [if_pos rfl, nI_cl (by omega)] at h1 h0
    refine s4_err_open hs (fun q => h1 (decide_eq_true (.inl ?_)) (-1) (by decide)) (fun i hi e hne => h1 (decide_eq_true (.inr ?_)) (-3) (by decide)) (fun i hi e he => h0 (decide_eq_false ?_))
    · rcases Nat.lt_or_ge j m with w | w
      · exact absurd ⟨j, w, rfl⟩ q
      · exact w
    · have := (nI_eq (by omega) (by omega)).mp e
      rw [this]
      exact hne
    · have := (nI_eq (by omega) (by omega)).mp e
      subst this
      rintro (q | q)
      · omega
      · exact q he
  · rw [if_neg (by decide), if_pos rfl] at h0
    exact s4_err_pass (fun q => absurd (by rw [i_nI (by omega)]; omega) q) (fun _ _ => h0 rfl)
  · rw [if_neg n1, if_neg n2] at h1 h0
    exact s4_err_mode ha (fun h => h1 (decide_eq_true h) (-3) (by decide)) (fun h => h0 (decide_eq_false h))
theorem er_open {m j : Nat} {vn vo : Nat → Int32} (hj : j < 4) (h : erB m 111 (nI j) vn vo = false) : j < m ∧ vo j = 0 := by
  unfold erB at h
  rw [if_pos rfl, nI_cl (by omega)] at h
  have := of_decide_eq_false h
  refine ⟨by omega, ?_⟩
  rcases Decidable.em (vo j = 0) with q | q
  · exact q
  · exact absurd (.inr q) this
theorem ac_open {n m j : Nat} {vs vp vq vd : Nat → Int32} (hj : j < 1000) (z : Zx) : acF n m vs vp vq vd 111 (nI j) z = (opN z.1 j, z.2.1, upd z.2.2 j 1) := by
  unfold acF
  rw [if_pos rfl, nI_cl (by omega)]
theorem ac_pass {n m t : Nat} {vs vp vq vd : Nat → Int32} (ht : t < 1000) (z : Zx) : acF n m vs vp vq vd 116 (nI t) z = ((itS n m vs vp vq vd z.2.2 t (z.1, z.2.1)).1, (itS n m vs vp vq vd z.2.2 t (z.1, z.2.1)).2, z.2.2) := by
  unfold acF
  rw [if_neg (by decide), if_pos rfl, nI_cl (by omega)]
theorem ac_mode {n m : Nat} {vs vp vq vd : Nat → Int32} {a num : Int32} (n1 : ¬ a = 111) (n2 : ¬ a = 116) (z : Zx) : acF n m vs vp vq vd a num z = (bcN z.1 (tM a), z.2.1, z.2.2) := by
  unfold acF
  rw [if_neg n1, if_neg n2]
theorem sI_ac {n m : Nat} {vs vp vq vd : Nat → Int32} {a num : Int32} (hv : vA a num) {z : Zx} (h : sI n m z.1 z.2.1 vs vp vq vd z.2.2) : sI n m (acF n m vs vp vq vd a num z).1 (acF n m vs vp vq vd a num z).2.1 vs vp vq vd (acF n m vs vp vq vd a num z).2.2 := by
  rcases hv with ⟨rfl, j, hj, rfl⟩ | ⟨rfl, t, ht1, ht2, rfl⟩ | ⟨ha, n1, n2⟩
  · rw [ac_open (by omega)]
    exact sI_op h
  · rw [ac_pass (by omega)]
    exact sI_it t (z.1, z.2.1) h
  · rw [ac_mode n1 n2]
    exact sI_bc h ha
theorem s4_carry {n m : Nat} {vs vp vq vd : Nat → Int32} {a num : Int32} (hv : vA a num) {z : Zx} (h : sI n m z.1 z.2.1 vs vp vq vd z.2.2) (he : erB m a num z.1 z.2.2 = false) {K : Int32 → Zx → Prop} (hK : ∀ r, K r (acF n m vs vp vq vd a num z)) : vX4_carryOut z.1 z.2.1 vs vp vq vd z.2.2 a num K := by
  rcases hv with ⟨rfl, j, hj, rfl⟩ | ⟨rfl, t, ht1, ht2, rfl⟩ | ⟨ha, n1, n2⟩
  · rw [ac_open (by omega)] at hK
    exact s4_carry_open h (er_open hj he).1 (hK _)
  · rw [ac_pass (by omega)] at hK
    exact s4_carry_pass h (by omega) (hK _)
  · rw [ac_mode n1 n2] at hK
    exact s4_carry_mode h ha (hK _)
theorem s7_does {n m : Nat} {vs vp vq vd mn mm : Nat → Int32} {mf : Nat → UInt32} {a num : Int32} (hv : vA a num) {z : Zx} (h : sI n m z.1 z.2.1 vs vp vq vd z.2.2) (hW : rW z.1 z.2.1 vs vp vq vd z.2.2 mn mf) (h4 : mm 4 = a) (h3 : otB a = true → mm 3 = num) {K : Int32 → ((Nat → Int32) × (Nat → UInt32)) → Prop} (h1 : erB m a num z.1 z.2.2 = true → K 0 (mn, mf)) (h0 : erB m a num z.1 z.2.2 = false → ∀ mn' mf', rW (acF n m vs vp vq vd a num z).1 (acF n m vs vp vq vd a num z).2.1 vs vp vq vd (acF n m vs vp vq vd a num z).2.2 mn' mf' → K 1 (mn', mf')) : vX7_does mn mf mm K := by
  have hs := h.2.1
  have hm4 := hs.1
  have hr := h.2.2.2.2.2.1
  unfold vX7_does
  rw [h4]
  rcases hv with ⟨rfl, j, hj, rfl⟩ | ⟨rfl, t, ht1, ht2, rfl⟩ | ⟨ha, n1, n2⟩
  · rw [h3 (by decide)]
    refine ⟨fun q => absurd rfl q, fun _ => s7_openError hW.1 hs (fun q => ⟨fun _ => h1 ?_, fun w => absurd w (by decide)⟩) (fun i hi e hne => ⟨fun _ => h1 ?_, fun w => absurd w (by decide)⟩) (fun i hi e hz => ⟨fun w => absurd rfl w, fun _ => ?_⟩)⟩
    · unfold erB
      rw [if_pos rfl, nI_cl (by omega)]
      refine decide_eq_true (.inl ?_)
      rcases Nat.lt_or_ge j m with w | w
      · exact absurd ⟨j, w, rfl⟩ q
      · exact w
    · have := (nI_eq (by omega) (by omega)).mp e
      subst this
      unfold erB
      rw [if_pos rfl, nI_cl (by omega)]
      exact decide_eq_true (.inr hne)
    · have := (nI_eq (by omega) (by omega)).mp e
      subst this
      have he : erB m 111 (nI j) z.1 z.2.2 = false := by
        unfold erB
        rw [if_pos rfl, nI_cl (by omega)]
        refine decide_eq_false ?_
        rintro (q | q)
        · omega
        · exact q hz
      have hk := h0 he
      rw [ac_open (by omega)] at hk
      have hcc := cc_le (upd z.2.2 j 1) m
      exact s7_opens h hW hi (fun mn' hW' => ⟨fun q => absurd q (nI_nn (by omega)), fun _ => hk mn' mf hW'⟩)
  · rw [h3 (by decide)]
    have hk := h0 (by unfold erB; rw [if_neg (by decide), if_pos rfl])
    rw [ac_pass (by omega)] at hk
    refine ⟨fun _ => ⟨fun q => absurd rfl q, fun _ => ?_⟩, fun q => absurd q (by decide)⟩
    have hI2 := sI_it t (z.1, z.2.1) h
    have hr2 := hI2.2.2.2.2.2.1
    refine s7_passes h hW (by omega) (fun mn' mf' hW' => ⟨fun q => ?_, fun _ => hk mn' mf' hW'⟩)
    rw [i_lt, c_0] at q
    omega
  · have h90 : vX7_does_90 mn mf mm (tM a) K := by
      unfold vX7_does_90
      refine s7_modeError hW.1 hr (fun q => ⟨fun _ => h1 ?_, fun w => absurd w (by decide)⟩) (fun q => ⟨fun w => absurd rfl w, fun _ => s7_becomes h hW ha (fun mn' hW' => ⟨fun w => absurd w (jd_nn _ _ _ _ _), fun _ => ?_⟩)⟩)
      · unfold erB
        rw [if_neg n1, if_neg n2]
        exact decide_eq_true q
      · have hk := h0 (by
          unfold erB
          rw [if_neg n1, if_neg n2]
          exact decide_eq_false q)
        rw [ac_mode n1 n2] at hk
        exact hk mn' mf hW'
    refine ⟨fun _ => ⟨fun _ => ⟨fun g1 => ⟨fun g2 => ?_, fun g2 => ?_⟩, fun g1 => ?_⟩, fun q => absurd q n2⟩, fun q => absurd q n1⟩
    · have : tM a = 3 := by
        unfold tM
        rw [if_neg g1, if_neg g2]
      rw [← this]
      exact h90
    · have : tM a = 0 := by
        unfold tM
        rw [if_neg g1, if_pos g2]
      rw [← this]
      exact h90
    · have : tM a = 1 := by
        unfold tM
        rw [if_pos g1]
      rw [← this]
      exact h90
/-- what a step without fault tells -/
theorem st_va {tx : Nat → Int32} {l i : Nat} (h : (st tx l i).2 = true) : vA (ch tx l i) (nu tx l (i + 1)) ∧ (st tx l i).1 = i + 1 + dg tx l (i + 1) + 1 := by
  have hn := (st_next h).2.2
  have hd3 := dg_le tx l (i + 1)
  obtain ⟨v, v1, v2, -, -⟩ := nu_val (tx := tx) (l := l) (i := i + 1) (dg tx l (i + 1)) hd3 dg_isd
  have v1000 : v < 1000 := Nat.lt_of_lt_of_le v2 (Nat.pow_le_pow_right (n := 10) (by decide) hd3)
  have hnu : nu tx l (i + 1) = nI v := v1
  unfold st at h
  split at h
  · exact absurd h Bool.false_ne_true
  · rename_i ha
    split at h
    · exact absurd h Bool.false_ne_true
    · rename_i hok
      split at h
      · rename_i h59
        have ha : isaB (ch tx l i) = true := by
          cases hq : isaB (ch tx l i)
          · exact absurd hq ha
          · rfl
        cases hot : otB (ch tx l i)
        · have hno := of_decide_eq_false hot
          have hw : wd tx l i = 0 := by
            unfold wd
            rw [if_neg (by rw [hot]; decide)]
          rw [hw] at h59 hn
          have hz : dg tx l (i + 1) = 0 := by
            unfold dg
            rw [Nat.add_zero] at h59
            rw [h59, if_neg (by decide), if_neg (by decide)]
          refine ⟨.inr (.inr ⟨?_, fun q => hno (.inl q), fun q => hno (.inr q)⟩), by rw [hn, hz]⟩
          rcases of_decide_eq_true ha with q | q | q | q | q
          · rw [q]
            exact .inl ⟨rfl, rfl⟩
          · rw [q]
            exact .inr (.inl ⟨rfl, rfl⟩)
          · rw [q]
            exact .inr (.inr ⟨rfl, rfl⟩)
          · exact absurd (.inl q) hno
          · exact absurd (.inr q) hno
        · have hw : wd tx l i = dg tx l (i + 1) := by
            unfold wd
            rw [if_pos hot]
          rw [hw] at hn
          have hir : irB (ch tx l i) (nu tx l (i + 1)) = true := by
            cases hq : irB (ch tx l i) (nu tx l (i + 1))
            · exact absurd ⟨hot, .inr hq⟩ hok
            · rfl
          refine ⟨?_, hn⟩
          unfold irB at hir
          rw [hnu, i_nI (by omega)] at hir
          rcases of_decide_eq_true hot with q | q
          · rw [if_pos q] at hir
            have := of_decide_eq_true hir
            exact .inl ⟨q, v, by omega, hnu⟩
          · rw [if_neg (by rw [q]; decide)] at hir
            have := of_decide_eq_true hir
            exact .inr (.inl ⟨q, v, by omega, by omega, hnu⟩)
      · exact absurd h Bool.false_ne_true
def rnS (n m : Nat) (vs vp vq vd tx : Nat → Int32) (l : Nat) : Nat → Nat → Nat → Zx → Nat × Zx
  | 0, _, d, z => (d, z)
  | k + 1, i, d, z => if l ≤ i then (d, z) else if erB m (ch tx l i) (nu tx l (i + 1)) z.1 z.2.2 = true then (d, z) else rnS n m vs vp vq vd tx l k (st tx l i).1 (d + 1) (acF n m vs vp vq vd (ch tx l i) (nu tx l (i + 1)) z)
theorem rn_s (n m : Nat) (vs vp vq vd tx : Nat → Int32) (l k i d : Nat) (z : Zx) : rnS n m vs vp vq vd tx l (k + 1) i d z = if l ≤ i then (d, z) else if erB m (ch tx l i) (nu tx l (i + 1)) z.1 z.2.2 = true then (d, z) else rnS n m vs vp vq vd tx l k (st tx l i).1 (d + 1) (acF n m vs vp vq vd (ch tx l i) (nu tx l (i + 1)) z) := rfl
theorem fp_ok {tx : Nat → Int32} {l k i : Nat} (hl : l ≤ 80) (h : fpS tx l (k + 1) i = -5) (hi : i < l) : (st tx l i).2 = true ∧ fpS tx l k (st tx l i).1 = -5 := by
  rw [fp_s, if_neg (by omega)] at h
  cases hs : (st tx l i).2
  · rw [if_neg (by rw [hs]; decide)] at h
    have hb : (st tx l i).1 < 1000 := by
      have hd := dg_le tx l (i + 1)
      unfold st wd
      split
      · dsimp only
        omega
      · split
        · dsimp only
          omega
        · split <;> split <;> dsimp only <;> omega
    exact absurd h (nI_n5 hb)
  · rw [if_pos hs] at h
    exact ⟨rfl, h⟩
theorem s6_runLoop {n m l : Nat} {vn : Nat → Int32} {vf : Nat → UInt32} {vs vp vq vd vo tm tx hc : Nat → Int32} {hh : Nat → Sx} (h : sI n m vn vf vs vp vq vd vo) (ht : tm 0 = nI l) (hl : l ≤ 80) (hfp : fpS tx l 100 0 = -5) {K : Int32 → ((Nat → Int32) × (Nat → UInt32) × (Nat → Int32) × (Nat → Int32) × (Nat → Sx)) → Prop} (hK : K (nI (rnS n m vs vp vq vd tx l 100 0 0 (vn, vf, vo)).1) ((rnS n m vs vp vq vd tx l 100 0 0 (vn, vf, vo)).2.1, (rnS n m vs vp vq vd tx l 100 0 0 (vn, vf, vo)).2.2.1, (rnS n m vs vp vq vd tx l 100 0 0 (vn, vf, vo)).2.2.2, hc, hh)) : ∃ k, lp (vX6_run_30F vs vp vq vd tm tx hc hh K) k (vn, vf, vo, (0 : Int32), (0 : Int32)) := by
  refine lp_ex (fun y : (Nat → Int32) × (Nat → UInt32) × (Nat → Int32) × Int32 × Int32 => ∃ i d k : Nat, i ≤ l ∧ 2 * d ≤ i ∧ l < i + k ∧ y.2.2.2.1 = nI d ∧ y.2.2.2.2 = nI i ∧ fpS tx l k i = -5 ∧ sI n m y.1 y.2.1 vs vp vq vd y.2.2.1 ∧ rnS n m vs vp vq vd tx l k i d (y.1, y.2.1, y.2.2.1) = rnS n m vs vp vq vd tx l 100 0 0 (vn, vf, vo)) (fun y => 81 - y.2.2.2.2.toNatClampNeg) _ ⟨0, 0, 100, by omega, by omega, by omega, rfl, rfl, hfp, h, rfl⟩ ?_
  rintro B ⟨wn, wf, wo, x1, x2⟩ ⟨i, d, k, hi, hd, hk, e1, e2, hf, hI, he⟩ hB
  dsimp only at e1 e2 hI he hB
  subst e1
  subst e2
  unfold vX6_run_30F vX6_run_30b
  dsimp only
  obtain ⟨j, rfl⟩ : ∃ j, k = j + 1 := ⟨k - 1, by omega⟩
  rw [rn_s] at he
  rw [ht, show (80 : Int32) = nI 80 by rfl, nI_leI (by omega) (by omega), nI_leI (by omega) (by omega)]
  refine ⟨fun q => by omega, fun _ => ⟨fun q => ?_, fun q => s0_byteAt ht hl (by omega) ?_⟩⟩
  · rw [if_pos q] at he
    rw [← he] at hK
    exact hK
  · rw [if_neg q] at he
    obtain ⟨s1, s2⟩ := fp_ok hl hf (by omega)
    obtain ⟨w1, w2⟩ := st_va s1
    obtain ⟨b1, b2, b3⟩ := st_next s1
    rw [nI_1]
    refine s0_numberAt ht hl (by omega) (s4_err hI.2.1 w1 (fun hbad e hne => ⟨fun z => absurd z hne, fun _ => ?_⟩) (fun hgood => ⟨fun _ => s4_carry (z := (wn, wf, wo)) w1 hI hgood (fun r => ?_), fun z => absurd rfl z⟩))
    · rw [if_pos hbad] at he
      rw [← he] at hK
      exact hK
    · rw [if_neg (by rw [hgood]; decide)] at he
      unfold vX0_behindAct
      rw [nI_1]
      refine s0_digitsAt ht hl (by omega) ?_
      rw [nI_add, nI_1, nI_1, ← w2]
      refine hB _ ⟨_, d + 1, j, b2, by omega, by omega, rfl, rfl, s2, sI_ac (z := (wn, wf, wo)) w1 hI, he⟩ ?_
      dsimp only
      rw [nI_cl (by omega), nI_cl (by omega)]
      omega
theorem s7_runLoop {n m l : Nat} {vn : Nat → Int32} {vf : Nat → UInt32} {vs vp vq vd vo tx mt mm mn mk : Nat → Int32} {mf mG : Nat → UInt32} (hm : ∀ j, j < 80 → tx j = mt j) (hx : ∀ j, j < 80 → 0 ≤ (tx j).toInt) (h : sI n m vn vf vs vp vq vd vo) (hW : rW vn vf vs vp vq vd vo mn mf) (hl : l ≤ 80) (h1 : mm 1 = nI l) (h2 : mm 2 = 0) (hfp : fpS tx l 100 0 = -5) {y : Int32} (hy : y = if l = 0 then 0 else 1) {K : Int32 → ((Nat → Int32) × (Nat → UInt32) × (Nat → Int32) × (Nat → UInt32) × (Nat → Int32)) → Prop} (hK : ∀ mn' mf' mm', sI n m (rnS n m vs vp vq vd tx l 100 0 0 (vn, vf, vo)).2.1 (rnS n m vs vp vq vd tx l 100 0 0 (vn, vf, vo)).2.2.1 vs vp vq vd (rnS n m vs vp vq vd tx l 100 0 0 (vn, vf, vo)).2.2.2 → rW (rnS n m vs vp vq vd tx l 100 0 0 (vn, vf, vo)).2.1 (rnS n m vs vp vq vd tx l 100 0 0 (vn, vf, vo)).2.2.1 vs vp vq vd (rnS n m vs vp vq vd tx l 100 0 0 (vn, vf, vo)).2.2.2 mn' mf' → mm' 0 = mm 0 → mm' 1 = nI l → K (nI (rnS n m vs vp vq vd tx l 100 0 0 (vn, vf, vo)).1) (mn', mf', mk, mG, mm')) : vX7_run_35 mn mf mk mG mt mm 0 y K := by
  unfold vX7_run_35
  refine lp_ex (fun y : (Nat → Int32) × (Nat → UInt32) × (Nat → Int32) × Int32 × Int32 => ∃ (z : Zx) (d : Nat), y.2.2.2.1 = nI d ∧ y.2.2.1 0 = mm 0 ∧ y.2.2.1 1 = nI l ∧ sI n m z.1 z.2.1 vs vp vq vd z.2.2 ∧ rW z.1 z.2.1 vs vp vq vd z.2.2 y.1 y.2.1 ∧ (y.2.2.2.2 = 0 ∧ (d, z) = rnS n m vs vp vq vd tx l 100 0 0 (vn, vf, vo) ∨ y.2.2.2.2 = 1 ∧ ∃ i k : Nat, i < l ∧ l < i + k ∧ y.2.2.1 2 = nI i ∧ fpS tx l k i = -5 ∧ rnS n m vs vp vq vd tx l k i d z = rnS n m vs vp vq vd tx l 100 0 0 (vn, vf, vo))) (fun y => if y.2.2.2.2 = 0 then 0 else 82 - (y.2.2.1 2).toNatClampNeg) _ ⟨(vn, vf, vo), 0, rfl, rfl, h1, h, hW, ?_⟩ ?_
  · dsimp only
    rw [hy]
    split
    · rename_i q
      left
      refine ⟨rfl, ?_⟩
      rw [rn_s, if_pos (by omega)]
    · right
      exact ⟨rfl, 0, 100, by omega, by omega, h2, hfp, rfl⟩
  rintro B ⟨xn, xf, xm, x1, x2⟩ ⟨z, d, e1, m0, m1, hI, hX, hc⟩ hB
  dsimp only at e1 m0 m1 hX hc hB
  subst e1
  unfold vX7_run_36F vX7_run_36b
  dsimp only
  refine ⟨fun q => ?_, fun q => ?_⟩
  · subst q
    rcases hc with ⟨-, he⟩ | ⟨q, -⟩
    · have hk := hK xn xf xm
      rw [← he] at hk
      exact hk hI hX m0 m1
    · exact absurd q (by decide)
  · rcases hc with ⟨q2, -⟩ | ⟨rfl, i, k, hi, hk, hm2, hf, he⟩
    · exact absurd q2 q
    obtain ⟨j, rfl⟩ : ∃ j, k = j + 1 := ⟨k - 1, by omega⟩
    rw [rn_s, if_neg (by omega)] at he
    obtain ⟨s1, s2⟩ := fp_ok hl hf hi
    obtain ⟨w1, w2⟩ := st_va s1
    obtain ⟨b1, b2, b3⟩ := st_next s1
    refine s7_passesAct hm hx hl m1 hm2 hi (fun mm' _ _ _ hs => by rw [s1] at hs; exact absurd hs (by decide)) (fun mm' r0 r1 r2 r4 r3 _ => ⟨fun w => absurd w (by decide), fun _ => s7_does w1 hI hX r4 r3 (fun hbad => ⟨fun _ => ?_, fun w => absurd rfl w⟩) (fun hgood mn' mf' hX' => ⟨fun w => absurd w (by decide), fun _ => ?_⟩)⟩)
    · rw [if_pos hbad] at he
      unfold vX7_run_58 vX7_run_59 vX7_run_70 vX7_run_91 vX7_run_92
      refine ⟨fun _ => ⟨fun _ => hB _ ⟨z, d, ?_, r0.trans m0, r1, hI, hX, .inl ⟨rfl, he⟩⟩ ?_, fun w => absurd rfl w⟩, fun w => absurd rfl w⟩
      · exact Int32.add_zero _
      · dsimp only
        rw [if_pos rfl, if_neg (by decide), hm2, nI_cl (by omega)]
        omega
    · rw [if_neg (by rw [hgood]; decide)] at he
      unfold vX7_run_59 vX7_run_70 vX7_run_91 vX7_run_92
      rw [r1, r2, nI_leI (by omega) (by omega)]
      have hI' := sI_ac (z := z) w1 hI
      refine ⟨fun w => absurd w (by decide), fun _ => ⟨fun w => absurd w (by decide), fun _ => ⟨fun hend => hB _ ⟨_, d + 1, nI_1 d, r0.trans m0, r1, hI', hX', .inl ⟨rfl, ?_⟩⟩ ?_, fun hend => hB _ ⟨_, d + 1, nI_1 d, r0.trans m0, r1, hI', hX', .inr ⟨rfl, _, j, by omega, by omega, r2, s2, he⟩⟩ ?_⟩⟩⟩
      · obtain ⟨j2, rfl⟩ : ∃ j2, j = j2 + 1 := ⟨j - 1, by omega⟩
        rw [rn_s, if_pos (by omega)] at he
        exact he
      · dsimp only
        rw [if_pos rfl, if_neg (by decide), hm2, nI_cl (by omega)]
        omega
      · dsimp only
        rw [if_neg (by decide), if_neg (by decide), hm2, r2, nI_cl (by omega), nI_cl (by omega)]
        omega
theorem h_op_13 : op_13 LIx := by
  intro vn vf vs vp vq vd vo un uf us up uq ud uo tm tx hc hh ss sv mn mf mk mG mv mt mm hL
  have hL' := hL
  obtain ⟨hP, hQ, hS, ⟨l, hl, t1, t2, t3⟩⟩ := hL'
  have hP' := hP
  obtain ⟨n, m, hI, hW⟩ := hP'
  have hm : ∀ j, j < 80 → tx j = mt j := fun j hj => (t3 j hj).1
  have hx : ∀ j, j < 80 → 0 ≤ (tx j).toInt := fun j hj => (t3 j hj).2.1
  obtain ⟨c, h5, e1, e2, hr⟩ := hQ
  unfold vX6_run
  refine s0_fault t1 hl ⟨fun hfp => ⟨KR.kpre (mk := mk) (mm := mm) (mg := mG) ⟨c, h5, e1, e2, hr⟩ hP, s6_runLoop hI t1 hl hfp ?_⟩, fun hne => ?_⟩
  · unfold vX7_run
    refine s7_fault hm hx hl t2 (fun mm1 m0 m1 => ⟨fun _ => ?_, fun q => absurd hfp q⟩)
    refine s7_rec (mm := mm1) hP ⟨c, h5, e1, m0.trans e2, hr⟩ hS (fun mk' mG' mm2 hQ' hS' hm2 => ?_)
    have k1 : mm2 1 = nI l := hm2.trans m1
    have fin : ∀ y : Int32, (y = if l = 0 then 0 else 1) → vX7_run_35 mn mf mk' mG' mt (upd mm2 2 0) 0 y (fun q z => nI (rnS n m vs vp vq vd tx l 100 0 0 (vn, vf, vo)).1 = q ∧ LIx (rnS n m vs vp vq vd tx l 100 0 0 (vn, vf, vo)).2.1 (rnS n m vs vp vq vd tx l 100 0 0 (vn, vf, vo)).2.2.1 vs vp vq vd (rnS n m vs vp vq vd tx l 100 0 0 (vn, vf, vo)).2.2.2 un uf us up uq ud uo tm tx (hck hc) (hhk hc hh (vn, vf, vs, vp, vq, vd, vo)) ss sv z.1 z.2.1 z.2.2.1 z.2.2.2.1 mv mt z.2.2.2.2) := by
      intro y hy
      refine s7_runLoop (mm := upd mm2 2 0) hm hx hI hW hl k1 rfl hfp hy (fun mn' mf' mm' hI' hW' r0 r1 => ⟨rfl, LIx_mk ⟨n, m, hI', hW'⟩ ?_ hS' ⟨l, hl, t1, r1, t3⟩⟩)
      obtain ⟨c', h5', f1, f2, hr'⟩ := hQ'
      exact ⟨c', h5', f1, r0.trans f2, hr'⟩
    have hle : (mm2 1 ≤ (0 : Int32)) ↔ l = 0 := by
      rw [k1, show (0 : Int32) = nI 0 by rfl, nI_leI (by omega) (by omega)]
      omega
    rw [hle]
    exact ⟨fun q => fin 0 (by rw [if_pos q]), fun q => fin 1 (by rw [if_neg q])⟩
  · unfold vX7_run
    refine s7_fault hm hx hl t2 (fun mm1 m0 m1 => ⟨fun q => absurd q hne, fun _ => ⟨rfl, LIx_mk hP ⟨c, h5, e1, m0.trans e2, hr⟩ hS ⟨l, hl, t1, m1, t3⟩⟩⟩)
theorem h_ini : op_ini LIx := by
  intro e1 e2
  have zr : ∀ f : Nat → Int32, True := fun _ => trivial
  have hP : PR in_n in_f in_s zi zi zi zi md_n in_f := by
    refine ⟨0, 0, ⟨⟨by omega, rfl, fun i h => by omega, fun i h => by omega⟩, ⟨by omega, rfl, fun i _ => .inl rfl, fun i h => by omega⟩, ⟨by decide +kernel, by decide +kernel, by decide +kernel⟩, ⟨⟨by unfold ml; decide +kernel, by unfold ml; decide +kernel, by unfold ml; decide +kernel, by unfold ml; decide +kernel, by unfold ml; decide +kernel⟩, by unfold nz; decide +kernel, by unfold nz; decide +kernel, by unfold nz; decide +kernel, by unfold nz; decide +kernel⟩, ⟨.inl rfl, by decide +kernel, .inl rfl, .inr rfl⟩⟩, ⟨by decide +kernel, by decide +kernel, by decide +kernel, by decide +kernel⟩, fun _ _ => rfl, by unfold ml; decide +kernel, fun q => absurd q (by decide +kernel)⟩
  refine LIx_mk hP ⟨0, by omega, rfl, rfl, fun i h => by omega⟩ (fun k hk => ⟨rfl, .inl rfl, fun q => absurd rfl q⟩) ⟨0, by omega, rfl, rfl, fun j _ => ⟨rfl, by show (0 : Int) ≤ (0 : Int32).toInt; decide, by show (0 : Int32).toInt ≤ 126; decide⟩⟩
theorem h_all : op_all LIx := ⟨h_op_0, h_op_1, h_op_2, h_op_3, h_op_4, h_op_5, h_op_6, h_op_7, h_op_8, h_op_9, h_op_10, h_op_11, h_op_12, h_op_13, h_op_14, h_op_15, h_op_16, h_op_17, h_op_18, h_op_19, h_op_20, h_op_21, h_op_22, h_op_23, h_op_24, h_op_25, h_op_26, h_op_27⟩
