/-! the text, the model's -/
theorem dig3 : ∀ a : Nat, a < 100 → ∀ b : Nat, b < 10 → nI a * 10 + nI (48 + b) - 48 = nI (a * 10 + b) := by decide +kernel
theorem isd_nI {x : Int32} (h : isd x = true) : ∃ b : Nat, b < 10 ∧ x = nI (48 + b) := by
  have := of_decide_eq_true h
  refine ⟨x.toInt.toNat - 48, by omega, ?_⟩
  rw [show 48 + (x.toInt.toNat - 48) = x.toInt.toNat by omega]
  exact i_of (by omega)
/-- the number of the first k digits -/
theorem nu_val {tx : Nat → Int32} {l i : Nat} : ∀ k, k ≤ 3 → (∀ j, j < k → isd (ch tx l (i + j)) = true) → ∃ v, nuN tx l i k = nI v ∧ v < 10 ^ k ∧ (1 ≤ k → ¬ ch tx l i = 48 → 1 ≤ v) ∧ (k = 1 → ch tx l i = 48 → v = 0) := by
  intro k
  induction k with
  | zero => intro _ _; exact ⟨0, rfl, by decide, fun h => by omega, fun h => by omega⟩
  | succ k ih =>
    intro hk hd
    obtain ⟨v, v1, v2, v3, v4⟩ := ih (by omega) (fun j hj => hd j (by omega))
    obtain ⟨b, b1, b2⟩ := isd_nI (hd k (by omega))
    have v100 : v < 100 := Nat.lt_of_lt_of_le v2 (Nat.pow_le_pow_right (n := 10) (by decide) (show k ≤ 2 by omega))
    refine ⟨v * 10 + b, ?_, ?_, fun _ hne => ?_, fun h1 he => ?_⟩
    · show nuN tx l i k * 10 + ch tx l (i + k) - 48 = _
      rw [v1, b2]
      exact dig3 v v100 b b1
    · rw [Nat.pow_succ]
      omega
    · rcases Nat.eq_zero_or_pos k with q | q
      · subst q
        rw [Nat.add_zero] at b2
        rcases Nat.eq_zero_or_pos b with w | w
        · subst w
          exact absurd b2 hne
        · omega
      · have := v3 q hne
        omega
    · obtain rfl : k = 0 := by omega
      have : v = 0 := by
        have := v2
        simp at this
        omega
      rw [Nat.add_zero, he] at b2
      have e48 : (48 : Int32) = nI 48 := rfl
      rw [e48] at b2
      have := (nI_eq (by omega) (by omega)).mp b2
      omega
theorem dg_isd {tx : Nat → Int32} {l i : Nat} : ∀ j, j < dg tx l i → isd (ch tx l (i + j)) = true := by
  intro j hj
  unfold dg at hj
  split at hj
  · rename_i h
    obtain rfl : j = 0 := by omega
    rw [Nat.add_zero, h]
    decide
  · split at hj
    · rename_i h0
      split at hj
      · rename_i h1
        split at hj
        · rename_i h2
          rcases (show j = 0 ∨ j = 1 ∨ j = 2 by omega) with rfl | rfl | rfl
          · exact h0
          · exact h1
          · exact h2
        · rcases (show j = 0 ∨ j = 1 by omega) with rfl | rfl
          · exact h0
          · exact h1
      · obtain rfl : j = 0 := by omega
        exact h0
    · omega
def mO (mm mm' : Nat → Int32) : Prop := mm' 0 = mm 0 ∧ mm' 1 = mm 1 ∧ mm' 4 = mm 4
theorem ch_lt {tx mt : Nat → Int32} {l i : Nat} (hm : ∀ j, j < 80 → tx j = mt j) (hl : l ≤ 80) (hi : i < l) : mt i = ch tx l i := by
  unfold ch
  rw [if_pos hi]
  exact (hm i (by omega)).symm
theorem s7_digitHere {tx mt mm : Nat → Int32} {l i : Nat} (hm : ∀ j, j < 80 → tx j = mt j) (hl : l ≤ 80) (h1 : mm 1 = nI l) (h2 : mm 2 = nI i) (hi : i < 1000) {K : Int32 → Unit → Prop} (hK : K (b2 (isd (ch tx l i)) 1) ()) : vX7_isDigitHere mt mm K := by
  unfold vX7_isDigitHere
  rw [h1, h2, nI_leI (by omega) (by omega), nI_cl (by omega)]
  refine ⟨fun h => ?_, fun h => ⟨nI_in2 (by omega) (by omega), ?_⟩⟩
  · unfold ch at hK
    rw [if_neg (by omega)] at hK
    exact hK
  · rw [ch_lt hm hl (by omega)]
    unfold isd b2 at hK
    refine s7_isIn c_48 c_57 (fun a b => ⟨fun q => absurd q (by decide), fun _ => ?_⟩) (fun q => ⟨fun _ => ?_, fun w => absurd rfl w⟩)
    · rw [if_pos (decide_eq_true ⟨a, b⟩)] at hK
      exact hK
    · rw [if_neg (by rw [decide_eq_true_eq]; exact q)] at hK
      exact hK
theorem s7_passesNumber {tx mt mm : Nat → Int32} {l i : Nat} (hm : ∀ j, j < 80 → tx j = mt j) (hl : l ≤ 80) (h1 : mm 1 = nI l) (h2 : mm 2 = nI i) (hi : i ≤ l) {x1 x2 : Int32} {A B : Int} (ea : x1.toInt = A) (eb : x2.toInt = B) {K : Int32 → (Nat → Int32) → Prop} (h0 : ∀ mm', mO mm mm' → mm' 2 = nI i → (dg tx l i = 0 ∨ ¬ (A ≤ (nu tx l i).toInt ∧ (nu tx l i).toInt ≤ B)) → K 0 mm') (hK : ∀ mm', mO mm mm' → mm' 2 = nI (i + dg tx l i) → mm' 3 = nu tx l i → 1 ≤ dg tx l i → (A ≤ (nu tx l i).toInt ∧ (nu tx l i).toInt ≤ B) → K 1 mm') : vX7_passesNumber mt mm x1 x2 K := by
  unfold vX7_passesNumber
  refine s7_digitHere hm hl h1 h2 (by omega) ⟨fun hd => ?_, fun hd => ?_⟩
  · have hd : isd (ch tx l i) = true := by
      cases hq : isd (ch tx l i)
      · exact absurd (b2_0.mpr hq) hd
      · rfl
    have hil : i < l := by
      rcases Nat.lt_or_ge i l with q | q
      · exact q
      · unfold ch at hd
        rw [if_neg (by omega)] at hd
        exact absurd hd (by decide)
    rw [h2, nI_cl (by omega), ch_lt hm hl hil]
    refine ⟨nI_in2 (by omega) (by omega), ?_⟩
    refine lp_ex (fun z : (Nat → Int32) × Int32 × Int32 => ∃ k : Nat, 1 ≤ k ∧ k ≤ 3 ∧ z.2.1 = nuN tx l i k ∧ z.2.2 = nI k ∧ mO mm z.1 ∧ z.1 2 = nI (i + k) ∧ i + k ≤ l ∧ (∀ j, j < k → isd (ch tx l (i + j)) = true) ∧ (2 ≤ k → ¬ ch tx l i = 48)) (fun z => 4 - z.2.2.toNatClampNeg) _ ⟨1, by omega, by omega, ?_, rfl, ⟨rfl, rfl, rfl⟩, ?_, by omega, ?_, fun q => by omega⟩ ?_
    · show ch tx l i - 48 = 0 * 10 + ch tx l (i + 0) - 48
      rw [Int32.zero_mul, Int32.zero_add, Nat.add_zero]
    · exact nI_1 i
    · intro j hj
      obtain rfl : j = 0 := by omega
      exact hd
    rintro C ⟨wm, v, z⟩ ⟨k, k1, k3, hv, hz, hO, hw2, hle, hds, hnz⟩ hC
    dsimp only at hv hz hO hw2 hC
    subst hz
    subst hv
    have hw1 : wm 1 = nI l := hO.2.1.trans h1
    obtain ⟨w, w1, w2, w3, w4⟩ := nu_val k k3 hds
    have w1000 : w < 1000 := Nat.lt_of_lt_of_le w2 (Nat.pow_le_pow_right (n := 10) (by decide) (show k ≤ 3 by omega))
    have h95 : dg tx l i = k → vX7_passesNumber_95 mt wm x1 x2 (nI i) (nuN tx l i k) K := by
      intro hdg
      have hnu : nu tx l i = nuN tx l i k := by
        unfold nu
        rw [hdg]
      rw [hnu, hdg] at h0 hK
      unfold vX7_passesNumber_95
      refine s7_isIn ea eb (fun a b => ⟨fun _ => hK _ ⟨hO.1, hO.2.1, hO.2.2⟩ hw2 rfl (by omega) ⟨a, b⟩, fun q => absurd q (by decide)⟩) (fun q => ⟨fun w => absurd rfl w, fun _ => h0 _ ⟨hO.1, hO.2.1, hO.2.2⟩ rfl (.inr q)⟩)
    unfold vX7_passesNumber_41F vX7_passesNumber_41b
    dsimp only
    rw [show (3 : Int32) = nI 3 by rfl, nI_leI (by omega) (by omega)]
    refine ⟨fun h3 => h95 ?_, fun h3 => ⟨fun hv0 => h95 ?_, fun hv0 => s7_digitHere hm hl hw1 hw2 (by omega) ⟨fun hnd => h95 ?_, fun hnd => ?_⟩⟩⟩
    · obtain rfl : k = 3 := by omega
      unfold dg
      rw [if_neg (hnz (by omega)), if_pos hd, if_pos (hds 1 (by omega)), if_pos (hds 2 (by omega))]
    · have hw0 : w = 0 := by
        rw [w1, show (0 : Int32) = nI 0 by rfl, nI_leI (by omega) (by omega)] at hv0
        omega
      have h48 : ch tx l i = 48 := by
        rcases Decidable.em (ch tx l i = 48) with q | q
        · exact q
        · have := w3 k1 q
          omega
      have : k = 1 := by
        rcases Nat.lt_or_ge k 2 with q | q
        · omega
        · exact absurd h48 (hnz q)
      subst this
      unfold dg
      rw [if_pos h48]
    · have hnd : isd (ch tx l (i + k)) = false := b2_0.mp hnd
      unfold dg
      rcases (show k = 1 ∨ k = 2 by omega) with rfl | rfl
      · split
        · rfl
        · first | rw [if_pos hd, if_neg (by rw [hnd]; decide)] | rw [if_neg (by rw [hnd]; decide)]
      · rw [if_neg (hnz (by omega)), if_pos hd, if_pos (hds 1 (by omega)), if_neg (by rw [hnd]; decide)]
    · have hnd : isd (ch tx l (i + k)) = true := by
        cases hq : isd (ch tx l (i + k))
        · exact absurd (b2_0.mpr hq) hnd
        · rfl
      have hkl : i + k < l := by
        rcases Nat.lt_or_ge (i + k) l with q | q
        · exact q
        · unfold ch at hnd
          rw [if_neg (by omega)] at hnd
          exact absurd hnd (by decide)
      rw [hw2, nI_cl (by omega), ch_lt hm hl hkl]
      refine ⟨nI_in2 (by omega) (by omega), hC _ ⟨k + 1, by omega, by omega, ?_, nI_1 k, ⟨hO.1, hO.2.1, hO.2.2⟩, ?_, by omega, ?_, fun _ => ?_⟩ ?_⟩
      · show 10 * nuN tx l i k + ch tx l (i + k) - 48 = nuN tx l i k * 10 + ch tx l (i + k) - 48
        rw [Int32.mul_comm]
      · exact nI_1 (i + k)
      · intro j hj
        rcases Nat.lt_or_ge j k with q | q
        · exact hds j q
        · obtain rfl : j = k := by omega
          exact hnd
      · intro h48
        rcases Nat.lt_or_ge k 2 with q | q
        · obtain rfl : k = 1 := by omega
          have := w4 rfl h48
          subst this
          rw [w1] at hv0
          exact hv0 (by decide)
        · exact hnz q h48
      · dsimp only
        rw [nI_1, nI_cl (by omega), nI_cl (by omega)]
        omega
  · have hd : isd (ch tx l i) = false := b2_0.mp hd
    refine h0 mm ⟨rfl, rfl, rfl⟩ h2 (.inl ?_)
    unfold dg
    rw [if_neg (fun q => by rw [q] at hd; exact absurd hd (by decide)), if_neg (by rw [hd]; decide)]
theorem c_3 : (3 : Int32).toInt = 3 := by decide
/-- one act of the text -/
theorem s7_passesAct {tx mt mm : Nat → Int32} {l i : Nat} (hm : ∀ j, j < 80 → tx j = mt j) (hx : ∀ j, j < 80 → 0 ≤ (tx j).toInt) (hl : l ≤ 80) (h1 : mm 1 = nI l) (h2 : mm 2 = nI i) (hi : i < l) {K : Int32 → (Nat → Int32) → Prop} (hno : ∀ mm', mm' 0 = mm 0 → mm' 1 = nI l → mm' 2 = nI (st tx l i).1 → (st tx l i).2 = false → K 0 mm') (hyes : ∀ mm', mm' 0 = mm 0 → mm' 1 = nI l → mm' 2 = nI (st tx l i).1 → mm' 4 = ch tx l i → (otB (ch tx l i) = true → mm' 3 = nu tx l (i + 1)) → (st tx l i).2 = true → K 1 mm') : vX7_passesAct mt mm K := by
  have hd3 := dg_le tx l (i + 1)
  unfold vX7_passesAct
  rw [h1, h2, nI_leI (by omega) (by omega), nI_cl (by omega), ch_lt hm hl hi]
  refine ⟨fun h => by omega, fun _ => ⟨nI_in2 (by omega) (by omega), ?_⟩⟩
  have h125 : ∀ wm : Nat → Int32, wm 0 = mm 0 → wm 1 = nI l → wm 2 = nI (i + 1 + wd tx l i) → wm 4 = ch tx l i → i + 1 + wd tx l i ≤ l → (otB (ch tx l i) = true → wm 3 = nu tx l (i + 1)) → isaB (ch tx l i) = true → ¬ (otB (ch tx l i) = true ∧ (dg tx l (i + 1) = 0 ∨ irB (ch tx l i) (nu tx l (i + 1)) = false)) → vX7_passesAct_125 mt wm K := by
    intro wm m0 m1 m2 m4 hle m3 ha hok
    unfold st at hno hyes
    rw [if_neg (by rw [ha]; decide), if_neg hok] at hno hyes
    unfold vX7_passesAct_125
    rw [m2, m1, nI_eq (by omega) (by omega), nI_cl (by omega)]
    refine ⟨fun h => ?_, fun h => ⟨nI_in2 (by omega) (by omega), fun h5 => ?_, fun h5 => ?_⟩⟩
    · have hne : ¬ ch tx l (i + 1 + wd tx l i) = 59 := fun q => by
        have := ch_59 q
        omega
      rw [if_neg hne] at hno
      exact hno wm m0 m1 m2 rfl
    · rw [ch_lt hm hl (by omega)] at h5
      rw [if_pos h5] at hyes
      refine hyes _ m0 m1 ?_ m4 m3 rfl
      exact nI_1 (i + 1 + wd tx l i)
    · rw [ch_lt hm hl (by omega)] at h5
      rw [if_neg h5] at hno
      exact hno wm m0 m1 m2 rfl
  have h75 : isaB (ch tx l i) = true → vX7_passesAct_75 mt (upd mm 4 (ch tx l i)) K := by
    intro ha
    unfold vX7_passesAct_75
    have n4 : (upd mm 4 (ch tx l i)) 4 = ch tx l i := rfl
    have n2 : (upd mm 4 (ch tx l i)) 2 = nI i := h2
    rw [n4, n2, nI_1]
    have w2 : (upd (upd mm 4 (ch tx l i)) 2 (nI (i + 1))) 2 = nI (i + 1) := rfl
    have w1 : (upd (upd mm 4 (ch tx l i)) 2 (nI (i + 1))) 1 = nI l := h1
    refine ⟨fun hno1 => ?_, fun ho => ?_⟩
    · unfold vX7_passesAct_103
      refine ⟨fun hnt => ?_, fun htt => ?_⟩
      · have hot : otB (ch tx l i) = false := decide_eq_false (fun q => q.elim hno1 hnt)
        have hw : wd tx l i = 0 := by
          unfold wd
          rw [if_neg (by rw [hot]; decide)]
        refine h125 _ rfl w1 ?_ rfl (by omega) (fun q => by rw [hot] at q; exact absurd q (by decide)) ha (fun q => by rw [hot] at q; exact absurd q.1 (by decide))
        rw [hw]
        rfl
      · have htt : ch tx l i = 116 := htt
        have hot : otB (ch tx l i) = true := decide_eq_true (.inr htt)
        have hw : wd tx l i = dg tx l (i + 1) := by
          unfold wd
          rw [if_pos hot]
        have hir : irB (ch tx l i) (nu tx l (i + 1)) = decide (1 ≤ (nu tx l (i + 1)).toInt ∧ (nu tx l (i + 1)).toInt ≤ 200) := by
          unfold irB
          rw [if_neg hno1]
        refine s7_passesNumber hm hl w1 w2 (by omega) c_1 c_200 (fun mm' hO hm2 hbad => ⟨fun q => absurd rfl q, fun _ => ?_⟩) (fun mm' hO hm2 hm3 hdg hok => ⟨fun _ => ?_, fun q => absurd q (by decide)⟩)
        · unfold st at hno
          rw [if_neg (by rw [ha]; decide), if_pos ⟨hot, hbad.imp id (fun q => by rw [hir]; exact decide_eq_false q)⟩] at hno
          exact hno mm' hO.1 (hO.2.1.trans w1) hm2 rfl
        · refine h125 mm' hO.1 (hO.2.1.trans w1) (by rw [hw]; exact hm2) hO.2.2 ?_ (fun _ => hm3) ha (fun q => ?_)
          · rw [hw]
            have := dg_isd (tx := tx) (l := l) (i := i + 1) (dg tx l (i + 1) - 1) (by omega)
            unfold ch at this
            split at this
            · omega
            · exact absurd this (by decide)
          · rcases q.2 with q | q
            · omega
            · rw [hir, decide_eq_true hok] at q
              exact absurd q (by decide)
    · have hot : otB (ch tx l i) = true := decide_eq_true (.inl ho)
      have hw : wd tx l i = dg tx l (i + 1) := by
        unfold wd
        rw [if_pos hot]
      have hir : irB (ch tx l i) (nu tx l (i + 1)) = decide ((nu tx l (i + 1)).toInt < 4) := by
        unfold irB
        rw [if_pos ho]
      refine s7_passesNumber hm hl w1 w2 (by omega) c_0 c_3 (fun mm' hO hm2 hbad => ⟨fun _ => ?_, fun q => absurd rfl q⟩) (fun mm' hO hm2 hm3 hdg hok => ⟨fun q => absurd q (by decide), fun _ => ?_⟩)
      · unfold st at hno
        have hpos : 0 ≤ (nu tx l (i + 1)).toInt := by
          obtain ⟨v, v1, v2, -, -⟩ := nu_val (tx := tx) (l := l) (i := i + 1) (dg tx l (i + 1)) hd3 dg_isd
          have v1000 : v < 1000 := Nat.lt_of_lt_of_le v2 (Nat.pow_le_pow_right (n := 10) (by decide) hd3)
          unfold nu
          rw [v1, i_nI (by omega)]
          omega
        rw [if_neg (by rw [ha]; decide), if_pos ⟨hot, hbad.imp id (fun q => by rw [hir]; exact decide_eq_false (by omega))⟩] at hno
        exact hno mm' hO.1 (hO.2.1.trans w1) hm2 rfl
      · unfold vX7_passesAct_103
        have e4 : mm' 4 = ch tx l i := hO.2.2
        rw [e4]
        refine ⟨fun _ => ?_, fun q => by rw [ho] at q; exact absurd q (by decide)⟩
        refine h125 mm' hO.1 (hO.2.1.trans w1) (by rw [hw]; exact hm2) hO.2.2 ?_ (fun _ => hm3) ha (fun q => ?_)
        · rw [hw]
          have := dg_isd (tx := tx) (l := l) (i := i + 1) (dg tx l (i + 1) - 1) (by omega)
          unfold ch at this
          split at this
          · omega
          · exact absurd this (by decide)
        · rcases q.2 with q | q
          · omega
          · rw [hir, decide_eq_true (by omega)] at q
            exact absurd q (by decide)
  unfold vX7_passesAct_25
  refine ⟨fun h => h75 (decide_eq_true (.inl h)), fun g1 => ⟨fun h => h75 (decide_eq_true (.inr (.inl h))), fun g2 => ⟨fun h => h75 (decide_eq_true (.inr (.inr (.inl h)))), fun g3 => ⟨fun h => h75 (decide_eq_true (.inr (.inr (.inr (.inl h))))), fun g4 => ⟨fun h => h75 (decide_eq_true (.inr (.inr (.inr (.inr h))))), fun g5 => ?_⟩⟩⟩⟩⟩
  have ha : isaB (ch tx l i) = false := decide_eq_false (fun q => by
    rcases q with q | q | q | q | q
    · exact g1 q
    · exact g2 q
    · exact g3 q
    · exact g4 q
    · exact g5 q)
  unfold st at hno
  rw [if_pos ha] at hno
  exact hno _ rfl h1 h2 rfl
theorem s7_fault {tx mt mm : Nat → Int32} {l : Nat} (hm : ∀ j, j < 80 → tx j = mt j) (hx : ∀ j, j < 80 → 0 ≤ (tx j).toInt) (hl : l ≤ 80) (h1 : mm 1 = nI l) {K : Int32 → (Nat → Int32) → Prop} (hK : ∀ mm', mm' 0 = mm 0 → mm' 1 = nI l → K (fpS tx l 100 0) mm') : vX7_faultPosition mt mm K := by
  unfold vX7_faultPosition
  refine lp_ex (fun z : Nat → Int32 => ∃ i k : Nat, i ≤ l ∧ z 2 = nI i ∧ z 1 = nI l ∧ z 0 = mm 0 ∧ l < i + k ∧ fpS tx l k i = fpS tx l 100 0) (fun z => 81 - (z 2).toNatClampNeg) _ ⟨0, 100, by omega, rfl, h1, rfl, by omega, rfl⟩ ?_
  rintro B z ⟨i, k, hi, h2, hz1, hz0, hk, he⟩ hB
  unfold vX7_faultPosition_5F vX7_faultPosition_5b
  rw [hz1, h2, nI_leI (by omega) (by omega)]
  obtain ⟨j, rfl⟩ : ∃ j, k = j + 1 := ⟨k - 1, by omega⟩
  rw [fp_s] at he
  refine ⟨fun h => ?_, fun h => s7_passesAct hm hx hl hz1 h2 (by omega) (fun mm' m0 m1 m2 hs => ⟨fun q => absurd rfl q, fun _ => ?_⟩) (fun mm' m0 m1 m2 m4 m3 hs => ⟨fun _ => hB _ ⟨_, j, (st_next hs).2.1, m2, m1, m0.trans hz0, ?_, ?_⟩ ?_, fun q => absurd q (by decide)⟩)⟩
  · rw [if_pos h] at he
    rw [he]
    exact hK z hz0 hz1
  · rw [if_neg h, if_neg (by rw [hs]; decide)] at he
    rw [m2, he]
    exact hK mm' (m0.trans hz0) m1
  · have := (st_next hs).1
    omega
  · rw [if_neg h, if_pos hs] at he
    exact he
  · have := (st_next hs).1
    have := (st_next hs).2.1
    rw [m2, h2, nI_cl (by omega), nI_cl (by omega)]
    omega
theorem h_op_12 : op_12 LIx := by
  intro vn vf vs vp vq vd vo un uf us up uq ud uo tm tx hc hh ss sv mn mf mk mG mv mt mm hL
  obtain ⟨hP, ⟨c, h5, e1, e2, hr⟩, hS, ⟨l, hl, t1, t2, t3⟩⟩ := hL
  unfold vX6_faultPosition
  refine s0_fault t1 hl (s7_fault (fun j hj => (t3 j hj).1) (fun j hj => (t3 j hj).2.1) hl t2 (fun mm' m0 m1 => ⟨rfl, LIx_mk hP ⟨c, h5, e1, m0.trans e2, hr⟩ hS ⟨l, hl, t1, m1, t3⟩⟩))
