/-! the text -/
def ch (tx : Nat → Int32) (l i : Nat) : Int32 := if i < l then tx i else -5
def isd (x : Int32) : Bool := decide (48 ≤ x.toInt ∧ x.toInt ≤ 57)
def dg (tx : Nat → Int32) (l i : Nat) : Nat := if ch tx l i = 48 then 1 else if isd (ch tx l i) = true then (if isd (ch tx l (i + 1)) = true then (if isd (ch tx l (i + 2)) = true then 3 else 2) else 1) else 0
def nuN (tx : Nat → Int32) (l i : Nat) : Nat → Int32
  | 0 => 0
  | k + 1 => nuN tx l i k * 10 + ch tx l (i + k) - 48
def nu (tx : Nat → Int32) (l i : Nat) : Int32 := nuN tx l i (dg tx l i)
def txOk (tx : Nat → Int32) (l : Nat) : Prop := l ≤ 80 ∧ ∀ j, j < 80 → 0 ≤ (tx j).toInt ∧ (tx j).toInt ≤ 126
theorem nI_add1 (a b : Nat) : nI a + nI b = nI (a + b) := nI_add a b
theorem c_n5 : (-5 : Int32).toInt = -5 := by decide
theorem c_48 : (48 : Int32).toInt = 48 := by decide
theorem c_57 : (57 : Int32).toInt = 57 := by decide
theorem s0_byteAt {tm tx : Nat → Int32} {l i : Nat} (ht : tm 0 = nI l) (hl : l ≤ 80) (hi : i < 1000) {K : Int32 → Unit → Prop} (hK : K (ch tx l i) ()) : vX0_byteAt tm tx (nI i) K := by
  unfold vX0_byteAt
  unfold ch at hK
  rw [ht, nI_leI (by omega) (by omega), nI_cl (by omega), i_lt, i_nI (by omega), c_0]
  refine ⟨fun h => by omega, fun _ => ⟨fun h => ?_, fun h => ⟨nI_in2 (by omega) (by omega), ?_⟩⟩⟩
  · rw [if_neg (by omega)] at hK
    exact hK
  · rw [if_pos (by omega)] at hK
    exact hK
theorem s0_isDigit {x : Int32} {K : Int32 → Unit → Prop} (hK : K (b2 (isd x) 1) ()) : vX0_isDigit x K := by
  unfold vX0_isDigit
  unfold isd b2 at hK
  rw [i_lt, i_lt, c_48, c_57]
  refine ⟨fun h => ?_, fun h => ⟨fun g => ?_, fun g => ?_⟩⟩
  · rw [if_neg (by rw [decide_eq_true_eq]; omega)] at hK
    exact hK
  · rw [if_neg (by rw [decide_eq_true_eq]; omega)] at hK
    exact hK
  · rw [if_pos (by rw [decide_eq_true_eq]; omega)] at hK
    exact hK
theorem s0_digitsAt {tm tx : Nat → Int32} {l i : Nat} (ht : tm 0 = nI l) (hl : l ≤ 80) (hi : i < 500) {K : Int32 → Unit → Prop} (hK : K (nI (dg tx l i)) ()) : vX0_digitsAt tm tx (nI i) K := by
  unfold vX0_digitsAt
  refine s0_byteAt ht hl (by omega) ⟨fun h => ?_, fun h => ?_⟩
  · refine lp_ex (fun z : Int32 => ∃ k : Nat, k ≤ 3 ∧ z = nI k ∧ (k = 0 ∨ k = 1 ∧ isd (ch tx l i) = true ∨ k = 2 ∧ isd (ch tx l i) = true ∧ isd (ch tx l (i + 1)) = true ∨ k = 3 ∧ isd (ch tx l i) = true ∧ isd (ch tx l (i + 1)) = true ∧ isd (ch tx l (i + 2)) = true)) (fun z => 4 - z.toNatClampNeg) _ ⟨0, by omega, rfl, .inl rfl⟩ ?_
    rintro B z ⟨k, hk, rfl, hc⟩ hB
    unfold vX0_digitsAt_14F vX0_digitsAt_14b
    rw [show (3 : Int32) = nI 3 by rfl, nI_leI (by omega) (by omega), nI_add]
    unfold dg at hK
    rw [if_neg h] at hK
    refine ⟨fun h3 => ?_, fun h3 => s0_byteAt ht hl (by omega) (s0_isDigit ⟨fun hd => ?_, fun hd => ?_⟩)⟩
    · obtain ⟨-, c1, c2, c3⟩ := (hc.resolve_left (by omega)).resolve_left (by omega) |>.resolve_left (by omega)
      obtain rfl : k = 3 := by omega
      rw [if_pos c1, if_pos c2, if_pos c3] at hK
      exact hK
    · have hd : isd (ch tx l (i + k)) = false := b2_0.mp hd
      rcases hc with rfl | ⟨rfl, c1⟩ | ⟨rfl, c1, c2⟩ | ⟨rfl, c1, c2, c3⟩
      · rw [Nat.add_zero] at hd
        rw [if_neg (by rw [hd]; decide)] at hK
        exact hK
      · rw [if_pos c1, if_neg (by rw [hd]; decide)] at hK
        exact hK
      · rw [if_pos c1, if_pos c2, if_neg (by rw [hd]; decide)] at hK
        exact hK
      · omega
    · have hd : isd (ch tx l (i + k)) = true := by
        cases hq : isd (ch tx l (i + k))
        · exact absurd (b2_0.mpr hq) hd
        · rfl
      rw [nI_1]
      refine hB _ ⟨k + 1, by omega, rfl, ?_⟩ ?_
      · rcases hc with rfl | ⟨rfl, c1⟩ | ⟨rfl, c1, c2⟩ | ⟨rfl, c1, c2, c3⟩
        · exact .inr (.inl ⟨rfl, hd⟩)
        · exact .inr (.inr (.inl ⟨rfl, c1, hd⟩))
        · exact .inr (.inr (.inr ⟨rfl, c1, c2, hd⟩))
        · omega
      · rw [nI_cl (by omega), nI_cl (by omega)]
        omega
  · unfold dg at hK
    rw [if_pos h] at hK
    exact hK
theorem dg_le (tx : Nat → Int32) (l i : Nat) : dg tx l i ≤ 3 := by
  unfold dg
  split
  · omega
  · split
    · split
      · split <;> omega
      · omega
    · omega
theorem s0_numberAt {tm tx : Nat → Int32} {l i : Nat} (ht : tm 0 = nI l) (hl : l ≤ 80) (hi : i < 500) {K : Int32 → Unit → Prop} (hK : K (nu tx l i) ()) : vX0_numberAt tm tx (nI i) K := by
  have h3 := dg_le tx l i
  unfold vX0_numberAt
  refine s0_digitsAt ht hl hi ?_
  refine lp_ex (fun z : Int32 × Int32 => ∃ k : Nat, k ≤ dg tx l i ∧ z = (nuN tx l i k, nI k)) (fun z => 4 - z.2.toNatClampNeg) _ ⟨0, by omega, rfl⟩ ?_
  rintro B z ⟨k, hk, rfl⟩ hB
  unfold vX0_numberAt_11F vX0_numberAt_11b
  dsimp only
  rw [nI_leI (by omega) (by omega), nI_add]
  refine ⟨fun h => ?_, fun h => s0_byteAt ht hl (by omega) (hB _ ⟨k + 1, by omega, ?_⟩ ?_)⟩
  · obtain rfl : k = dg tx l i := by omega
    exact hK
  · rw [nI_1]
    rfl
  · dsimp only
    rw [nI_1, nI_cl (by omega), nI_cl (by omega)]
    omega
/-! one act -/
def isaB (x : Int32) : Bool := decide (x = 103 ∨ x = 102 ∨ x = 98 ∨ x = 111 ∨ x = 116)
def otB (x : Int32) : Bool := decide (x = 111 ∨ x = 116)
def irB (a x : Int32) : Bool := if a = 111 then decide (x.toInt < 4) else decide (1 ≤ x.toInt ∧ x.toInt ≤ 200)
def wd (tx : Nat → Int32) (l i : Nat) : Nat := if otB (ch tx l i) = true then dg tx l (i + 1) else 0
def st (tx : Nat → Int32) (l i : Nat) : Nat × Bool := if isaB (ch tx l i) = false then (i, false) else if otB (ch tx l i) = true ∧ (dg tx l (i + 1) = 0 ∨ irB (ch tx l i) (nu tx l (i + 1)) = false) then (i + 1, false) else if ch tx l (i + 1 + wd tx l i) = 59 then (i + 1 + wd tx l i + 1, true) else (i + 1 + wd tx l i, false)
theorem s0_isAct {x : Int32} {K : Int32 → Unit → Prop} (hK : K (b2 (isaB x) 1) ()) : vX0_isAct x K := by
  unfold vX0_isAct vX0_isAct_30
  unfold isaB b2 at hK
  refine ⟨fun h => ?_, fun h1 => ⟨fun h => ?_, fun h2 => ⟨fun h => ?_, fun h3 => ⟨fun h => ?_, fun h4 => ⟨fun h5 => ?_, fun h => ?_⟩⟩⟩⟩⟩
  · rw [if_pos (decide_eq_true (.inl h))] at hK
    exact hK
  · rw [if_pos (decide_eq_true (.inr (.inl h)))] at hK
    exact hK
  · rw [if_pos (decide_eq_true (.inr (.inr (.inl h))))] at hK
    exact hK
  · rw [if_pos (decide_eq_true (.inr (.inr (.inr (.inl h)))))] at hK
    exact hK
  · rw [decide_eq_false (by
      rintro (q | q | q | q | q)
      · exact h1 q
      · exact h2 q
      · exact h3 q
      · exact h4 q
      · exact h5 q)] at hK
    exact hK
  · rw [if_pos (decide_eq_true (.inr (.inr (.inr (.inr h)))))] at hK
    exact hK
theorem c_4 : (4 : Int32).toInt = 4 := by decide
theorem s0_isInRange {a x : Int32} {K : Int32 → Unit → Prop} (hK : K (b2 (irB a x) 1) ()) : vX0_isInRange a x K := by
  unfold vX0_isInRange
  unfold irB b2 at hK
  rw [i_lt, i_lt, i_le, c_1, c_200, c_4]
  refine ⟨fun h => ⟨fun g => ?_, fun g => ⟨fun g2 => ?_, fun g2 => ?_⟩⟩, fun h => ⟨fun g => ?_, fun g => ?_⟩⟩
  · rw [if_neg h, if_neg (by rw [decide_eq_true_eq]; omega)] at hK
    exact hK
  · rw [if_neg h, if_neg (by rw [decide_eq_true_eq]; omega)] at hK
    exact hK
  · rw [if_neg h, if_pos (by rw [decide_eq_true_eq]; omega)] at hK
    exact hK
  · rw [if_pos h, if_neg (by rw [decide_eq_true_eq]; omega)] at hK
    exact hK
  · rw [if_pos h, if_pos (by rw [decide_eq_true_eq]; omega)] at hK
    exact hK
theorem ch_59 {tx : Nat → Int32} {l i : Nat} (h : ch tx l i = 59) : i < l := by
  unfold ch at h
  split at h
  · assumption
  · exact absurd h (by decide)
theorem st_next {tx : Nat → Int32} {l i : Nat} (h : (st tx l i).2 = true) : i + 2 ≤ (st tx l i).1 ∧ (st tx l i).1 ≤ l ∧ (st tx l i).1 = i + 1 + wd tx l i + 1 := by
  unfold st at h ⊢
  split at h
  · exact absurd h Bool.false_ne_true
  · rename_i h1
    rw [if_neg h1]
    split at h
    · exact absurd h Bool.false_ne_true
    · rename_i h2
      rw [if_neg h2]
      split at h
      · rename_i h3
        rw [if_pos h3]
        have := ch_59 h3
        exact ⟨by dsimp only; omega, by dsimp only; omega, rfl⟩
      · exact absurd h Bool.false_ne_true
theorem c_step {tm tx : Nat → Int32} {l i : Nat} (ht : tm 0 = nI l) (hl : l ≤ 80) (hi : i < l) {K : Int32 → Unit → Prop} {B : Int32 → Prop} (h1 : (st tx l i).2 = true → B (nI (st tx l i).1)) (h0 : (st tx l i).2 = false → K (nI (st tx l i).1) ()) : vX0_fault_2b tm tx K B (nI i) := by
  unfold vX0_fault_2b
  rw [ht, nI_leI (by omega) (by omega)]
  have hd3 := dg_le tx l (i + 1)
  refine ⟨fun h => by omega, fun _ => s0_byteAt ht hl (by omega) (s0_isAct ⟨fun ha => ?_, fun ha => ?_⟩)⟩
  · have ha : isaB (ch tx l i) = true := by
      cases hq : isaB (ch tx l i)
      · exact absurd (b2_0.mpr hq) ha
      · rfl
    unfold st at h1 h0
    rw [if_neg (by rw [ha]; decide)] at h1 h0
    have h69 : ¬ (otB (ch tx l i) = true ∧ (dg tx l (i + 1) = 0 ∨ irB (ch tx l i) (nu tx l (i + 1)) = false)) → vX0_fault_69 tm tx (nI i) (nI (wd tx l i)) K B := by
      intro hno
      rw [if_neg hno] at h1 h0
      have hw : wd tx l i ≤ 3 := by
        unfold wd
        split <;> omega
      unfold vX0_fault_69
      rw [nI_1, nI_add]
      refine s0_byteAt ht hl (by omega) ⟨fun h => ?_, fun h => ?_⟩
      · rw [if_pos h] at h1
        rw [nI_1]
        exact h1 rfl
      · rw [if_neg h] at h0
        exact h0 rfl
    have h39 : otB (ch tx l i) = true → vX0_fault_39 tm tx (nI i) (ch tx l i) K B := by
      intro hot
      have hw : wd tx l i = dg tx l (i + 1) := by
        unfold wd
        rw [if_pos hot]
      unfold vX0_fault_39 vX0_fault_65
      rw [nI_1]
      refine s0_digitsAt ht hl (by omega) ⟨fun h => ?_, fun h => s0_numberAt ht hl (by omega) (s0_isInRange ⟨fun hr => ?_, fun hr => ?_⟩)⟩
      · have hz : dg tx l (i + 1) = 0 := (nI_eq (b := 0) (by omega) (by omega)).mp h
        rw [if_pos ⟨hot, .inl hz⟩] at h0
        exact h0 rfl
      · rw [← hw]
        refine h69 (fun q => ?_)
        rcases q.2 with q | q
        · rw [q] at h
          exact h rfl
        · exact hr (b2_0.mpr q)
      · rw [if_pos ⟨hot, .inr (b2_0.mp hr)⟩] at h0
        exact h0 rfl
    refine ⟨fun h => h39 (decide_eq_true (.inl h)), fun hn => ⟨fun hn2 => ?_, fun h => h39 (decide_eq_true (.inr h))⟩⟩
    have hno : otB (ch tx l i) = false := decide_eq_false (fun q => q.elim hn hn2)
    have hw : wd tx l i = 0 := by
      unfold wd
      rw [if_neg (by rw [hno]; decide)]
    have := h69 (fun q => by rw [hno] at q; exact absurd q.1 (by decide))
    rw [hw] at this
    exact this
  · have ha : isaB (ch tx l i) = false := b2_0.mp ha
    unfold st at h0
    rw [if_pos ha] at h0
    exact h0 rfl
def fpS (tx : Nat → Int32) (l : Nat) : Nat → Nat → Int32
  | 0, _ => -5
  | k + 1, i => if l ≤ i then -5 else if (st tx l i).2 = true then fpS tx l k (st tx l i).1 else nI (st tx l i).1
theorem fp_s (tx : Nat → Int32) (l k i : Nat) : fpS tx l (k + 1) i = if l ≤ i then -5 else if (st tx l i).2 = true then fpS tx l k (st tx l i).1 else nI (st tx l i).1 := rfl
theorem s0_fault {tm tx : Nat → Int32} {l : Nat} (ht : tm 0 = nI l) (hl : l ≤ 80) {K : Int32 → Unit → Prop} (hK : K (fpS tx l 100 0) ()) : vX0_fault tm tx K := by
  unfold vX0_fault
  refine lp_ex (fun z : Int32 => ∃ i k : Nat, i ≤ l ∧ z = nI i ∧ l < i + k ∧ K (fpS tx l k i) ()) (fun z => 81 - z.toNatClampNeg) _ ⟨0, 100, by omega, rfl, by omega, hK⟩ ?_
  rintro B z ⟨i, k, hi, rfl, hk, hKi⟩ hB
  unfold vX0_fault_2F
  obtain ⟨j, rfl⟩ : ∃ j, k = j + 1 := ⟨k - 1, by omega⟩
  rw [fp_s] at hKi
  rcases Nat.lt_or_ge i l with q | q
  · rw [if_neg (by omega)] at hKi
    refine c_step ht hl q (fun h => ?_) (fun h => ?_)
    · rw [if_pos h] at hKi
      obtain ⟨n1, n2, n3⟩ := st_next h
      refine hB _ ⟨_, j, n2, rfl, by omega, hKi⟩ ?_
      rw [nI_cl (by omega), nI_cl (by omega)]
      omega
    · rw [if_neg (by rw [h]; decide)] at hKi
      exact hKi
  · rw [if_pos (by omega)] at hKi
    unfold vX0_fault_2b
    rw [ht, nI_leI (by omega) (by omega)]
    exact ⟨fun _ => hKi, fun h => by omega⟩
