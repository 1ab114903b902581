/-! the law, turn by turn -/
abbrev B19 : Type := (Nat → Int32) → (Nat → UInt32) → (Nat → Int32) → (Nat → Int32) → (Nat → Int32) → (Nat → Int32) → (Nat → Int32) → (Nat → Int32) → (Nat → UInt32) → (Nat → Int32) → (Nat → Int32) → (Nat → Int32) → (Nat → Int32) → (Nat → Int32) → (Nat → Int32) → (Nat → Sx) → (Nat → Sx) → (Nat → Int32) → Int32 → Prop
abbrev K18 : Type := Int32 → ((Nat → Int32) × (Nat → UInt32) × (Nat → Int32) × (Nat → Int32) × (Nat → Int32) × (Nat → Int32) × (Nat → Int32) × (Nat → Int32) × (Nat → UInt32) × (Nat → Int32) × (Nat → Int32) × (Nat → Int32) × (Nat → Int32) × (Nat → Int32) × (Nat → Int32) × (Nat → Sx) × (Nat → Sx) × (Nat → Int32)) → Prop
theorem and15 (b : Int32) : 0 ≤ (b &&& 15).toInt ∧ (b &&& 15).toInt ≤ 15 := by
  have hl : (b &&& (15 : Int32)).toBitVec.toNat ≤ 15 := by
    show (b.toBitVec &&& 15#32).toNat ≤ 15
    rw [BitVec.toNat_and]
    exact Nat.and_le_right
  have e : b &&& 15 = nI (b &&& (15 : Int32)).toBitVec.toNat := by
    apply Int32.toBitVec_inj.mp
    apply BitVec.eq_of_toNat_eq
    show _ = (BitVec.ofNat 32 _).toNat
    rw [BitVec.toNat_ofNat, Nat.mod_eq_of_lt (BitVec.isLt _)]
  rw [e, i_nI (by omega)]
  omega
/-- what stands when a turn is over -/
def nxt (B : B19) (x3 : Int32) : Prop := ∀ (c : Cx) (u : UV7) (hc : Nat → Int32) (hh ss : Nat → Sx) (sv : Nat → Int32), Jc c → Hx hc hh → Sl ss sv → B c.1 c.2.1 c.2.2.1 c.2.2.2.1 c.2.2.2.2.1 c.2.2.2.2.2.1 c.2.2.2.2.2.2 u.1 u.2.1 u.2.2.1 u.2.2.2.1 u.2.2.2.2.1 u.2.2.2.2.2.1 u.2.2.2.2.2.2 hc hh ss sv (x3 + 1)
section LW
variable {c : Cx} {u : UV7} {tm hc : Nat → Int32} {hh ss : Nat → Sx} {sv : Nat → Int32} {x2 x3 x4 x5 x6 x7 x11 : Int32} {K : K18} {B : B19}
theorem l_269 (hJ : Jc c) (hH : Hx hc hh) (hS : Sl ss sv) (hB : nxt B x3) : vL_law_269 c.1 c.2.1 c.2.2.1 c.2.2.2.1 c.2.2.2.2.1 c.2.2.2.2.2.1 c.2.2.2.2.2.2 u.1 u.2.1 u.2.2.1 u.2.2.2.1 u.2.2.2.2.1 u.2.2.2.2.2.1 u.2.2.2.2.2.2 tm hc hh ss sv x2 x3 x4 x5 x6 K B := by
  unfold vL_law_269 vL_law_308
  refine ⟨fun _ => hB c u hc hh ss sv hJ hH hS, fun _ => s_up (by decide) (s_up (by decide) ?_)⟩
  obtain ⟨i, hi, e⟩ := upv_in (p := x6 >>> ((4 : Int32) &&& 31)) (d := 60) (by decide) (by decide)
  obtain ⟨j, hj, e2⟩ := upv_in (p := x5 >>> ((4 : Int32) &&& 31)) (d := 6) (by decide) (by decide)
  have e : upv (x6 >>> ((4 : Int32) &&& 31)) 60 = nI i := e
  have e2 : upv (x5 >>> ((4 : Int32) &&& 31)) 6 = nI j := e2
  rw [e, e2, show (1 : Int32) + nI i = nI (1 + i) from nI_add 1 i]
  have ej := i_nI (j := j) (by omega)
  exact s_comesTrue hJ hH (t := 1 + i) (by omega) (by omega) (by omega) (by omega) (fun u2 hc2 hh2 h2 => ⟨fun _ => hB c u2 hc2 hh2 ss sv hJ h2 hS, fun q => absurd q (by decide)⟩)
theorem l_241 (hJ : Jc c) (hH : Hx hc hh) (hS : Sl ss sv) (hB : nxt B x3) : vL_law_241 c.1 c.2.1 c.2.2.1 c.2.2.2.1 c.2.2.2.2.1 c.2.2.2.2.2.1 c.2.2.2.2.2.2 u.1 u.2.1 u.2.2.1 u.2.2.2.1 u.2.2.2.2.1 u.2.2.2.2.2.1 u.2.2.2.2.2.2 tm hc hh ss sv x2 x3 x4 x5 x6 K B := by
  obtain ⟨n, m, h⟩ := id hJ
  unfold vL_law_241
  refine s_isRight h ⟨fun _ => ⟨fun _ => l_269 hJ hH hS hB, fun _ => s_isSaved hJ hH hS _ _ (fun hc2 hh2 ss2 sv2 h2 s2 => ⟨fun q => absurd q (by decide), fun _ => l_269 hJ h2 s2 hB⟩)⟩, fun q => absurd q (by decide)⟩
theorem l_218 (hJ : Jc c) (hH : Hx hc hh) (hS : Sl ss sv) (hB : nxt B x3) {y0 : Int32} (hm : y0 = 0 → ¬ x11 ≤ 3 → c.1 0 = x11) : vL_law_218 c.1 c.2.1 c.2.2.1 c.2.2.2.1 c.2.2.2.2.1 c.2.2.2.2.2.1 c.2.2.2.2.2.2 u.1 u.2.1 u.2.2.1 u.2.2.2.1 u.2.2.2.2.1 u.2.2.2.2.2.1 u.2.2.2.2.2.2 tm hc hh ss sv x2 x3 x4 x5 x6 x11 y0 K B := by
  obtain ⟨m, T⟩ := hJ.total
  unfold vL_law_218
  refine ⟨fun _ => l_241 hJ hH hS hB, fun h3 => ⟨fun _ => l_241 hJ hH hS hB, fun h0 => T ?_⟩⟩
  rw [toA_0]
  exact ⟨fun q => absurd (hm h0 h3) q, fun _ => l_241 hJ hH hS hB⟩
theorem l_183 (hJ : Jc c) (hH : Hx hc hh) (hS : Sl ss sv) (hB : nxt B x3) (hm : ¬ trnN x7 x6 → ¬ x11 ≤ 3 → c.1 0 = x11) : vL_law_183 c.1 c.2.1 c.2.2.1 c.2.2.2.1 c.2.2.2.2.1 c.2.2.2.2.2.1 c.2.2.2.2.2.2 u.1 u.2.1 u.2.2.1 u.2.2.2.1 u.2.2.2.2.1 u.2.2.2.2.2.1 u.2.2.2.2.2.2 tm hc hh ss sv x2 x3 x4 x5 x6 x7 x11 K B := by
  have h1 : vL_law_213 c.1 c.2.1 c.2.2.1 c.2.2.2.1 c.2.2.2.2.1 c.2.2.2.2.2.1 c.2.2.2.2.2.2 u.1 u.2.1 u.2.2.1 u.2.2.2.1 u.2.2.2.2.1 u.2.2.2.2.2.1 u.2.2.2.2.2.2 tm hc hh ss sv x2 x3 x4 x5 x6 x11 K B := l_218 hJ hH hS hB (fun q => absurd q (by decide))
  have h0 : ¬ trnN x7 x6 → vL_law_217 c.1 c.2.1 c.2.2.1 c.2.2.2.1 c.2.2.2.2.1 c.2.2.2.2.2.1 c.2.2.2.2.2.2 u.1 u.2.1 u.2.2.1 u.2.2.2.1 u.2.2.2.2.1 u.2.2.2.2.2.1 u.2.2.2.2.2.2 tm hc hh ss sv x2 x3 x4 x5 x6 x11 K B := fun hn => l_218 hJ hH hS hB (fun _ => hm hn)
  unfold trnN anyN at h0
  unfold vL_law_183
  refine ⟨fun _ => h1, fun n0 => ⟨fun n15 => h0 ?_, fun e15 => ⟨fun _ => h1, fun b0 => ⟨fun b7 => h0 ?_, fun _ => h1⟩⟩⟩⟩
  · rintro (q | ⟨q, -⟩)
    · exact n0 q
    · exact n15 q
  · rintro (q | ⟨-, q | q⟩)
    · exact n0 q
    · exact b0 q
    · exact b7 q
theorem ovr_of (h : Jc c) (h3 : ¬ c.1 0 ≤ 3) : ovr c.1 := by
  obtain ⟨n, m, hI, -⟩ := h
  obtain ⟨r1, r2⟩ := hI.2.2.2.2.2.1
  rw [i_le, show (3 : Int32).toInt = 3 by decide] at h3
  rcases (show (c.1 0).toInt = 4 ∨ (c.1 0).toInt = 5 by omega) with q | q
  · exact .inl ((i_eq _ _).mpr (by rw [q]; decide))
  · exact .inr ((i_eq _ _).mpr (by rw [q]; decide))
theorem l_29 (hJ : Jc c) (hH : Hx hc hh) (hS : Sl ss sv) {i : Nat} (hi : i ≤ 30) (hB : nxt B (nI i)) (hK : ∀ w, K 1 w) : vL_law_29b tm x2 K B c.1 c.2.1 c.2.2.1 c.2.2.2.1 c.2.2.2.2.1 c.2.2.2.2.2.1 c.2.2.2.2.2.2 u.1 u.2.1 u.2.2.1 u.2.2.2.1 u.2.2.2.2.1 u.2.2.2.2.2.1 u.2.2.2.2.2.2 hc hh ss sv (nI i) := by
  obtain ⟨m, T⟩ := hJ.total
  obtain ⟨k, hk, e, -⟩ := id hH
  have n0 : ∀ d : Nat, d < 10 → ¬ nI (3 * i + d) < (0 : Int32) := fun d hd => nI_nn (by omega)
  have e3 : (3 : Int32) * nI i = nI (3 * i) := nI_mul 3 i
  have e4 : nI (3 * i) + (1 : Int32) = nI (3 * i + 1) := nI_1 _
  have e5 : nI (3 * i) + (2 : Int32) = nI (3 * i + 2) := nI_add _ 2
  unfold vL_law_29b vL_cell
  rw [e3, e4, e5]
  refine ⟨fun _ => hK _, fun _ => ⟨n0 0 (by decide), fun x => ⟨n0 1 (by decide), fun a => ⟨n0 2 (by decide), fun b => hJ.view (T ?_)⟩⟩⟩⟩
  rw [toA_9]
  refine T ?_
  rw [toA_0]
  rcases ts_turn (vn := c.1) (vf := c.2.1) (vs := c.2.2.1) (vp := c.2.2.2.1) (vq := c.2.2.2.2.1) (vd := c.2.2.2.2.2.1) (vo := c.2.2.2.2.2.2) hJ hS (x &&& 15) a b (and15 x) with ⟨r, hr, h2⟩ | ⟨r, c', hr, hJ', hm, h2⟩
  · refine h2 _ _ _ hH ⟨fun q => absurd q ?_, fun _ => hJ.view ⟨fun q => absurd (cmp_self _) q, fun _ => T ?_⟩⟩
    · rw [i_lt, c_0] at hr
      rw [i_le, c_0]
      omega
    · rw [toA_9]
      exact ⟨fun _ => l_183 hJ hH hS hB (fun _ _ => rfl), fun q => absurd rfl q⟩
  · obtain ⟨m', T'⟩ := hJ'.total
    have hm' : ¬ trnN (x &&& 15) b → ¬ c.1 0 ≤ 3 → c'.1 0 = c.1 0 := fun hn h3 => (hm.resolve_left hn) (ovr_of hJ h3)
    have h153 : ∀ y1 : Int32, hck hc 0 = y1 → vL_law_153 c'.1 c'.2.1 c'.2.2.1 c'.2.2.2.1 c'.2.2.2.2.1 c'.2.2.2.2.2.1 c'.2.2.2.2.2.2 u.1 u.2.1 u.2.2.1 u.2.2.2.1 u.2.2.2.2.1 u.2.2.2.2.2.1 u.2.2.2.2.2.2 tm (hck hc) (hhk hc hh c) ss sv x2 (nI i) x a b (x &&& 15) (vwC c) (c.1 0) r (hck hc 0) y1 K B := by
      intro y1 ey
      unfold vL_law_153
      exact ⟨fun q => absurd ey q, fun _ => ⟨fun _ => l_183 hJ' (hH.keep hJ) hS hB hm', fun _ => s_isUndone hJ hJ' hH h2 (fun hc2 hh2 h3 e4 => ⟨fun _ => l_183 hJ' h3 hS hB hm', fun q => absurd q (by decide)⟩)⟩⟩
    refine h2 _ _ _ hH ⟨fun _ => T' ?_, fun q => absurd ?_ q⟩
    · rw [toA_9, e]
      have ek := hck_0 e hk
      have h5 : (5 : Int32) ≤ nI k ↔ 5 ≤ k := nI_leI (a := 5) (by decide) (by omega)
      rw [h5]
      refine ⟨fun q => h153 5 ?_, fun q => h153 (nI k + 1) ?_⟩
      · rw [ek, show min k 4 + 1 = 5 by omega]
        rfl
      · rw [ek, nI_1, show min k 4 + 1 = k + 1 by omega]
    · rw [i_lt, c_0] at hr
      rw [i_le, c_0]
      omega
end LW
theorem Jc_ini : Jc ini := by
  refine ⟨0, 0, ⟨⟨⟨by omega, rfl, fun i hi => by omega, fun i hi => by omega⟩, ⟨by omega, rfl, fun i _ => .inl rfl, fun i hi => by omega⟩, ?_, ?_, ?_⟩, ?_, ?_⟩⟩
  · unfold tOk
    decide +kernel
  · unfold fOk ml nz
    decide +kernel
  · exact ⟨.inl rfl, by decide, .inl rfl, .inr rfl⟩
  · exact ⟨.inl rfl, .inl rfl, .inl rfl, .inl rfl⟩
  · refine ⟨fun q => absurd q (nov (x := 0) (by decide)), fun _ => ?_⟩
    decide +kernel
theorem law_goes : law_go := by
  intro e1 e2 k hk
  unfold vL_law
  refine lp_ex (fun z => ∃ i : Nat, i ≤ k ∧ z.2.2.2.2.2.2.2.2.2.2.2.2.2.2.2.2.2.2 = nI i ∧ Jc (z.1, z.2.1, z.2.2.1, z.2.2.2.1, z.2.2.2.2.1, z.2.2.2.2.2.1, z.2.2.2.2.2.2.1) ∧ Hx z.2.2.2.2.2.2.2.2.2.2.2.2.2.2.1 z.2.2.2.2.2.2.2.2.2.2.2.2.2.2.2.1 ∧ Sl z.2.2.2.2.2.2.2.2.2.2.2.2.2.2.2.2.1 z.2.2.2.2.2.2.2.2.2.2.2.2.2.2.2.2.2.1) (fun z => k - Int32.toNatClampNeg z.2.2.2.2.2.2.2.2.2.2.2.2.2.2.2.2.2.2) _ ⟨0, by omega, rfl, Jc_ini, ⟨0, by omega, rfl, fun i hi => by omega⟩, fun j _ => ⟨.inl rfl, fun q => absurd rfl q⟩⟩ ?_
  rintro B ⟨vn, vf, vs, vp, vq, vd, vo, un, uf, us, up, uq, ud, uo, hc, hh, ss, sv, x3⟩ ⟨i, hi, e, hJ, hH, hS⟩ hB
  dsimp only at e hJ hH hS hB
  subst e
  unfold vL_law_29F
  dsimp only
  by_cases hik : i < k
  · refine l_29 (c := (vn, vf, vs, vp, vq, vd, vo)) (u := (un, uf, us, up, uq, ud, uo)) hJ hH hS (by omega) (fun c2 u2 hc2 hh2 ss2 sv2 a1 a2 a3 => hB _ ⟨i + 1, by omega, nI_1 i, a1, a2, a3⟩ ?_) (fun _ => rfl)
    show k - Int32.toNatClampNeg (nI i + 1) < k - Int32.toNatClampNeg (nI i)
    rw [nI_1, nI_cl (by omega), nI_cl (by omega)]
    omega
  · unfold vL_law_29b
    exact ⟨fun _ => rfl, fun q => absurd ((nI_leI (by omega) (by omega)).mpr (by omega)) q⟩
